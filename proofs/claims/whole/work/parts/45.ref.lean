def mF (M2 M : qm_M) : Prop := ∀ c y, (c < 82 ∨ 95 < c) → c ≠ 71 ∨ (y ≠ 24 ∧ y ≠ 31 ∧ y ≠ 32 ∧ y ≠ 34 ∧ y ≠ 35) → M2 c y = M c y
theorem mF_k {M M2 : qm_M} (h : kF M2 M) : mF M2 M := fun c y q1 q2 => h c y (by omega) (by omega) q2
theorem mF_trans {M M1 M2 : qm_M} (h : mF M2 M1) (h2 : mF M1 M) : mF M2 M := fun c y q1 q2 => by rw [h c y q1 q2]; exact h2 c y q1 q2
theorem mF_MR {M M0 : qm_M} {n : Nat} {w p : Nat → Nat} (h : qMR M0 n w p) (hF : mF M M0) : qMR M n w p := qMR_mem h (hF 71 0 (by decide) (Or.inr (by decide))) (funext fun x => hF 72 x (by decide) (Or.inl (by decide))) (funext fun x => hF 73 x (by decide) (Or.inl (by decide)))
theorem bS_inj {x y : Nat} (h : bS x = bS y) : x = y := bits_ext (fun t => by
  have := congrFun h t
  unfold bS at this
  rw [this])
theorem rNum_of {n : Nat} {w p u : Nat → Nat} (hI : qInv n w p) {z : Nat} {r : Int} (hz : cQ n w p z) (hu : ∀ a, a < n → mU n w p (bS z) a = u a) (h : rNum n w p u r) : r = (cC n w p z : Int) := by
  rcases h with ⟨y, h1, h2, h3⟩ | ⟨h1, h2⟩
  · rw [h3, bS_inj (m_inj hI h1 hz (fun a ha => by rw [h2 a ha, hu a ha]))]
  · exact absurd hu (h2 z hz)
theorem mU_and {n : Nat} {w p : Nat → Nat} (hI : qInv n w p) {S S2 : Nat → Prop} (hS : rId n w p S) (hS2 : rId n w p S2) {a : Nat} (ha : a < n) : mU n w p (fun t => S t ∧ S2 t) a = if pU n w p S2 a < pU n w p S a then mU n w p S2 a else mU n w p S a := by
  have h := (pU_w hI (Id_and hS hS2) ha).2
  rw [pU_and hI hS hS2] at h
  rw [← h]
  split
  · rename_i q
    rw [Nat.min_eq_right (by omega)]
    exact (pU_w hI hS2 ha).2
  · rename_i q
    rw [Nat.min_eq_left (by omega)]
    exact (pU_w hI hS ha).2
theorem mU_or {n : Nat} {w p : Nat → Nat} (hI : qInv n w p) {S S2 : Nat → Prop} (hS : rId n w p S) (hS2 : rId n w p S2) {a : Nat} (ha : a < n) : mU n w p (fun t => S t ∨ S2 t) a = if pU n w p S2 a < pU n w p S a then mU n w p S a else mU n w p S2 a := by
  have h := (pU_w hI (Id_or hS hS2) ha).2
  rw [pU_or hI hS hS2] at h
  rw [← h]
  split
  · rename_i q
    rw [Nat.max_eq_left (by omega)]
    exact (pU_w hI hS ha).2
  · rename_i q
    rw [Nat.max_eq_right (by omega)]
    exact (pU_w hI hS2 ha).2
/-- the answer of 'either' -/
noncomputable def eiZ (n : Nat) (w p : Nat → Nat) (x y : Nat) (z : Int) : Nat := if z = 0 then cE n w p x &&& cE n w p y else cE n w p x ||| cE n w p y
noncomputable def eiA (n : Nat) (w p : Nat → Nat) (x y z : Int) : Int := if x < 0 ∨ y < 0 ∨ z < 0 ∨ 1 < z then -1 else if (cN n w p : Int) ≤ x ∨ (cN n w p : Int) ≤ y then -2 else (cC n w p (eiZ n w p x.toNat y.toNat z) : Int)
theorem eiZ_ok {n : Nat} {w p : Nat → Nat} {x y : Nat} (hx : x < cN n w p) (hy : y < cN n w p) (z : Int) : cQ n w p (eiZ n w p x y z) := by
  unfold eiZ
  split
  · exact cQ_and (cE_spec hx).2.1 (cE_spec hy).2.1
  · exact cQ_or (cE_spec hx).2.1 (cE_spec hy).2.1
theorem eiZ_U {n : Nat} {w p : Nat → Nat} (hI : qInv n w p) {x y a : Nat} (hx : x < cN n w p) (hy : y < cN n w p) (ha : a < n) (z : Int) : mU n w p (bS (eiZ n w p x y z)) a = if (pU n w p (bS (cE n w p y)) a < pU n w p (bS (cE n w p x)) a ↔ z = 0) then mU n w p (bS (cE n w p y)) a else mU n w p (bS (cE n w p x)) a := by
  unfold eiZ
  by_cases h : z = 0
  · rw [if_pos h, bS_and, mU_and hI (cE_spec hx).2.1 (cE_spec hy).2.1 ha]
    by_cases q : pU n w p (bS (cE n w p y)) a < pU n w p (bS (cE n w p x)) a
    · rw [if_pos q, if_pos ⟨fun _ => h, fun _ => q⟩]
    · rw [if_neg q, if_neg (fun z => q (z.mpr h))]
  · rw [if_neg h, bS_lor, mU_or hI (cE_spec hx).2.1 (cE_spec hy).2.1 ha]
    by_cases q : pU n w p (bS (cE n w p y)) a < pU n w p (bS (cE n w p x)) a
    · rw [if_pos q, if_neg (fun z => h (z.mp q))]
    · rw [if_neg q, if_pos ⟨fun z => absurd z q, fun z => absurd z h⟩]
def at_R_either_59  (d : Nat) (K : qm_K) (M : qm_M) (x3 x4 : Int) : Prop := ∀ (d1 d2 d5 : Option qm_V), qm_TT qi_196 (qm_Runs qm_P (d + 8)) K 59 [some (.inr (some 71)), d1, d2, some (.inl x3), some (.inl x4), d5] [] (qL qLM) M 0 0
theorem rg_R_either_59  {n : Nat} {w p u : Nat → Nat} {d : Nat} {K : qm_K} {M : qm_M} {x3 x4 : Int} (h :
    ((M 71 0) ≤ x4 →
     (qMR M n w p) ∧
     (M 71 35 ≠ 0 → rKn M n w p) ∧
     (qHa M 87 n u ∧ 8 ≤ (8 : Nat) ∧ (87 < 82 ∨ 86 < 87) ∧ (87 < 89 ∨ 95 < 87) ∧ 87 ≠ 71) ∧
     (∀ (r9 : Int) (M10 : qm_M), (rNum n w p u r9 ∧ rKn M10 n w p ∧ M10 71 35 ≠ 0 ∧ kF M10 M) →
      K (.inl r9) (qL qLM) M10)) ∧
    (¬ (M 71 0) ≤ x4 →
     0 ≤ x4 ∧ x4 < 8 ∧
     ∀ (y11 : Int), y11 = (M 88 (Int.toNat x4)) →
     0 ≤ x4 ∧ x4 < 8 ∧
     ∀ (y12 : Int), y12 = (M 87 (Int.toNat x4)) →
     (0 ≤ ((0 : Int) : Int) ∧ ((0 : Int) : Int) ≤ 1 ∧ 0 ≤ (x4 : Int) ∧ (x4 : Int) ≤ 7 ∧ 0 ≤ (y11 : Int) ∧ (y11 : Int) ≤ 7 ∧ (y12 : Int) ≤ 7) ∧
     (x3 ≠ 0 →
      ((qm_b ((y12 : Int) < 0 ∨ M 73 (Int.toNat (64 * 0 + 8 * x4 + y11)) < M 73 (Int.toNat (64 * 0 + 8 * x4 + y12)))) ≠ 0 →
       0 ≤ x4 ∧ x4 < 8 ∧
       ∀ (y13 : Int), y13 = (M 87 (Int.toNat x4)) →
       0 ≤ x4 ∧ x4 < 8 ∧
       ∀ (M14 : qm_M), M14 = (qm_u M 87 (Int.toNat x4) y13) →
       qm_R (x4 + 1) ∧
       at_R_either_59  d K M14 x3 ((x4 + 1))) ∧
      (¬ (qm_b ((y12 : Int) < 0 ∨ M 73 (Int.toNat (64 * 0 + 8 * x4 + y11)) < M 73 (Int.toNat (64 * 0 + 8 * x4 + y12)))) ≠ 0 →
       0 ≤ x4 ∧ x4 < 8 ∧
       ∀ (y15 : Int), y15 = (M 88 (Int.toNat x4)) →
       0 ≤ x4 ∧ x4 < 8 ∧
       ∀ (M16 : qm_M), M16 = (qm_u M 87 (Int.toNat x4) y15) →
       qm_R (x4 + 1) ∧
       at_R_either_59  d K M16 x3 ((x4 + 1)))) ∧
     (¬ x3 ≠ 0 →
      ((qm_b ((y12 : Int) < 0 ∨ M 73 (Int.toNat (64 * 0 + 8 * x4 + y11)) < M 73 (Int.toNat (64 * 0 + 8 * x4 + y12)))) ≠ 1 →
       0 ≤ x4 ∧ x4 < 8 ∧
       ∀ (y17 : Int), y17 = (M 87 (Int.toNat x4)) →
       0 ≤ x4 ∧ x4 < 8 ∧
       ∀ (M18 : qm_M), M18 = (qm_u M 87 (Int.toNat x4) y17) →
       qm_R (x4 + 1) ∧
       at_R_either_59  d K M18 x3 ((x4 + 1))) ∧
      (¬ (qm_b ((y12 : Int) < 0 ∨ M 73 (Int.toNat (64 * 0 + 8 * x4 + y11)) < M 73 (Int.toNat (64 * 0 + 8 * x4 + y12)))) ≠ 1 →
       0 ≤ x4 ∧ x4 < 8 ∧
       ∀ (y19 : Int), y19 = (M 88 (Int.toNat x4)) →
       0 ≤ x4 ∧ x4 < 8 ∧
       ∀ (M20 : qm_M), M20 = (qm_u M 87 (Int.toNat x4) y19) →
       qm_R (x4 + 1) ∧
       at_R_either_59  d K M20 x3 ((x4 + 1)))))) : at_R_either_59  d K M x3 x4 :=
  fun d1 d2 d5 => qm_wp_TT [59] 38 (And.intro (lf_71_0 ()) (And.intro (fun q21 => Exists.intro 87 (And.intro (lf_71_22 ()) (And.intro (lo_71 ()) (s_R_numberOf2 (d := d + 0) (And.intro (la_87 ()) (by decide)) ((h.1 q21).1) ((h.1 q21).2.1) ((h.1 q21).2.2.1) (fun r9 M10 p23 => ((h.1 q21).2.2.2 r9 M10 p23)))))) (fun q22 => Exists.intro 88 (And.intro (lf_71_23 ()) (Exists.intro 8 (And.intro (la_88 ()) (And.intro (h.2 q22).1 (And.intro (h.2 q22).2.1 (Exists.intro 87 (And.intro (lf_71_22 ()) (Exists.intro 8 (And.intro (la_87 ()) (And.intro ((h.2 q22).2.2 _ rfl).1 (And.intro ((h.2 q22).2.2 _ rfl).2.1 (And.intro (lo_71 ()) (s_R_rather (d := d + 5)  ((((h.2 q22).2.2 _ rfl).2.2 _ rfl).1) (Exists.intro 87 (And.intro (lf_71_22 ()) (And.intro (fun q24 => And.intro (fun q26 => Exists.intro 87 (And.intro (lf_71_22 ()) (Exists.intro 8 (And.intro (la_87 ()) (And.intro (((((h.2 q22).2.2 _ rfl).2.2 _ rfl).2.1 q24).1 q26).1 (And.intro (((((h.2 q22).2.2 _ rfl).2.2 _ rfl).2.1 q24).1 q26).2.1 (Exists.intro 8 (And.intro (la_87 ()) (And.intro ((((((h.2 q22).2.2 _ rfl).2.2 _ rfl).2.1 q24).1 q26).2.2 _ rfl).1 (And.intro ((((((h.2 q22).2.2 _ rfl).2.2 _ rfl).2.1 q24).1 q26).2.2 _ rfl).2.1 (And.intro (((((((h.2 q22).2.2 _ rfl).2.2 _ rfl).2.1 q24).1 q26).2.2 _ rfl).2.2 _ rfl).1 ((((((((h.2 q22).2.2 _ rfl).2.2 _ rfl).2.1 q24).1 q26).2.2 _ rfl).2.2 _ rfl).2 _ _ _)))))))))))) (fun q27 => Exists.intro 88 (And.intro (lf_71_23 ()) (Exists.intro 8 (And.intro (la_88 ()) (And.intro (((((h.2 q22).2.2 _ rfl).2.2 _ rfl).2.1 q24).2 q27).1 (And.intro (((((h.2 q22).2.2 _ rfl).2.2 _ rfl).2.1 q24).2 q27).2.1 (Exists.intro 8 (And.intro (la_87 ()) (And.intro ((((((h.2 q22).2.2 _ rfl).2.2 _ rfl).2.1 q24).2 q27).2.2 _ rfl).1 (And.intro ((((((h.2 q22).2.2 _ rfl).2.2 _ rfl).2.1 q24).2 q27).2.2 _ rfl).2.1 (And.intro (((((((h.2 q22).2.2 _ rfl).2.2 _ rfl).2.1 q24).2 q27).2.2 _ rfl).2.2 _ rfl).1 ((((((((h.2 q22).2.2 _ rfl).2.2 _ rfl).2.1 q24).2 q27).2.2 _ rfl).2.2 _ rfl).2 _ _ _))))))))))))) (fun q25 => And.intro (fun q28 => Exists.intro 87 (And.intro (lf_71_22 ()) (Exists.intro 8 (And.intro (la_87 ()) (And.intro (((((h.2 q22).2.2 _ rfl).2.2 _ rfl).2.2 q25).1 q28).1 (And.intro (((((h.2 q22).2.2 _ rfl).2.2 _ rfl).2.2 q25).1 q28).2.1 (Exists.intro 8 (And.intro (la_87 ()) (And.intro ((((((h.2 q22).2.2 _ rfl).2.2 _ rfl).2.2 q25).1 q28).2.2 _ rfl).1 (And.intro ((((((h.2 q22).2.2 _ rfl).2.2 _ rfl).2.2 q25).1 q28).2.2 _ rfl).2.1 (And.intro (((((((h.2 q22).2.2 _ rfl).2.2 _ rfl).2.2 q25).1 q28).2.2 _ rfl).2.2 _ rfl).1 ((((((((h.2 q22).2.2 _ rfl).2.2 _ rfl).2.2 q25).1 q28).2.2 _ rfl).2.2 _ rfl).2 _ _ _)))))))))))) (fun q29 => Exists.intro 88 (And.intro (lf_71_23 ()) (Exists.intro 8 (And.intro (la_88 ()) (And.intro (((((h.2 q22).2.2 _ rfl).2.2 _ rfl).2.2 q25).2 q29).1 (And.intro (((((h.2 q22).2.2 _ rfl).2.2 _ rfl).2.2 q25).2 q29).2.1 (Exists.intro 8 (And.intro (la_87 ()) (And.intro ((((((h.2 q22).2.2 _ rfl).2.2 _ rfl).2.2 q25).2 q29).2.2 _ rfl).1 (And.intro ((((((h.2 q22).2.2 _ rfl).2.2 _ rfl).2.2 q25).2 q29).2.2 _ rfl).2.1 (And.intro (((((((h.2 q22).2.2 _ rfl).2.2 _ rfl).2.2 q25).2 q29).2.2 _ rfl).2.2 _ rfl).1 ((((((((h.2 q22).2.2 _ rfl).2.2 _ rfl).2.2 q25).2 q29).2.2 _ rfl).2.2 _ rfl).2 _ _ _))))))))))))))))))))))))))))))))
theorem en_R_either  {n : Nat} {w p u : Nat → Nat} {d : Nat} {K : qm_K} {M : qm_M} {x : Int} {y : Int} {z : Int} (h :
    (x < 0 →
     K (.inl ((-1))) (qL qLM) M) ∧
    (¬ x < 0 →
     (y < 0 →
      K (.inl ((-1))) (qL qLM) M) ∧
     (¬ y < 0 →
      ((0 ≤ z ∧ z ≤ 1) →
       (qMR M n w p) ∧
       (M 71 35 ≠ 0 → rKn M n w p) ∧
       (∀ (r1 : Int) (M2 : qm_M), (r1 = qm_b (0 ≤ x ∧ x < (cN n w p : Int)) ∧ rKn M2 n w p ∧ M2 71 35 ≠ 0 ∧ kF M2 M) →
        (r1 = 0 →
         K (.inl ((-2))) (qL qLM) M2) ∧
        (¬ r1 = 0 →
         (qMR M2 n w p) ∧
         (M2 71 35 ≠ 0 → rKn M2 n w p) ∧
         (∀ (r3 : Int) (M4 : qm_M), (r3 = qm_b (0 ≤ y ∧ y < (cN n w p : Int)) ∧ rKn M4 n w p ∧ M4 71 35 ≠ 0 ∧ kF M4 M2) →
          (r3 ≠ 0 →
           (qMR M4 n w p ∧ rKn M4 n w p) ∧
           (0 ≤ (x : Int) ∧ (x : Int) < (cN n w p : Int)) ∧
           (8 ≤ (8 : Nat) ∧ 87 ≠ 71 ∧ 87 ≠ 85 ∧ 87 ≠ 89 ∧ 87 ≠ 90 ∧ 87 ≠ 95) ∧
           (∀ (M6 : qm_M), (qAr M6 87 n (mU n w p (bS (cE n w p (Int.toNat x)))) ∧ ∀ c, c ≠ 87 → M6 c = M4 c) →
            (qMR M6 n w p ∧ rKn M6 n w p) ∧
            (0 ≤ (y : Int) ∧ (y : Int) < (cN n w p : Int)) ∧
            (8 ≤ (8 : Nat) ∧ 88 ≠ 71 ∧ 88 ≠ 85 ∧ 88 ≠ 89 ∧ 88 ≠ 90 ∧ 88 ≠ 95) ∧
            (∀ (M8 : qm_M), (qAr M8 88 n (mU n w p (bS (cE n w p (Int.toNat y)))) ∧ ∀ c, c ≠ 88 → M8 c = M6 c) →
             at_R_either_59  d K M8 z 0))) ∧
          (¬ r3 ≠ 0 →
           K (.inl ((-2))) (qL qLM) M4))))) ∧
      (¬ (0 ≤ z ∧ z ≤ 1) →
       K (.inl ((-1))) (qL qLM) M)))) : qm_Runs qm_P (d + 9) 196 [(.inr (some 71)), (.inl x), (.inl y), (.inl z)] (qL qLM) M K :=
  And.intro (Nat.le_of_ble_eq_true rfl) (show qm_TT qi_196 (qm_Runs qm_P (d + 8)) K 0 [some (.inr (some 71)), some (.inl x), some (.inl y), some (.inl z), none, none] [] (qL qLM) M 0 0 from qm_wp_TT [59] 38 (And.intro (fun q30 => (h.1 q30)) (fun q31 => And.intro (fun q32 => ((h.2 q31).1 q32)) (fun q33 => And.intro True.intro (s_R_isIn (d := d + 7)   (And.intro (fun q34 => And.intro (lo_71 ()) (s_R_isMatch (d := d + 0)  ((((h.2 q31).2 q33).1 (qm_b1 q34)).1) ((((h.2 q31).2 q33).1 (qm_b1 q34)).2.1) (fun r1 M2 p36 => And.intro (fun q37 => (((((h.2 q31).2 q33).1 (qm_b1 q34)).2.2 r1 M2 p36).1 q37)) (fun q38 => And.intro (lo_71 ()) (s_R_isMatch (d := d + 0)  ((((((h.2 q31).2 q33).1 (qm_b1 q34)).2.2 r1 M2 p36).2 q38).1) ((((((h.2 q31).2 q33).1 (qm_b1 q34)).2.2 r1 M2 p36).2 q38).2.1) (fun r3 M4 p39 => And.intro (fun q40 => Exists.intro 87 (And.intro (lf_71_22 ()) (And.intro (lo_71 ()) (s_R_makes (d := d + 6) (And.intro (la_87 ()) (by decide)) ((((((((h.2 q31).2 q33).1 (qm_b1 q34)).2.2 r1 M2 p36).2 q38).2.2 r3 M4 p39).1 q40).1) ((((((((h.2 q31).2 q33).1 (qm_b1 q34)).2.2 r1 M2 p36).2 q38).2.2 r3 M4 p39).1 q40).2.1) ((((((((h.2 q31).2 q33).1 (qm_b1 q34)).2.2 r1 M2 p36).2 q38).2.2 r3 M4 p39).1 q40).2.2.1) (fun M6 p42 => Exists.intro 88 (And.intro (lf_71_23 ()) (And.intro (lo_71 ()) (s_R_makes (d := d + 6) (And.intro (la_88 ()) (by decide)) (((((((((h.2 q31).2 q33).1 (qm_b1 q34)).2.2 r1 M2 p36).2 q38).2.2 r3 M4 p39).1 q40).2.2.2 M6 p42).1) (((((((((h.2 q31).2 q33).1 (qm_b1 q34)).2.2 r1 M2 p36).2 q38).2.2 r3 M4 p39).1 q40).2.2.2 M6 p42).2.1) (((((((((h.2 q31).2 q33).1 (qm_b1 q34)).2.2 r1 M2 p36).2 q38).2.2 r3 M4 p39).1 q40).2.2.2 M6 p42).2.2.1) (fun M8 p43 => (((((((((h.2 q31).2 q33).1 (qm_b1 q34)).2.2 r1 M2 p36).2 q38).2.2 r3 M4 p39).1 q40).2.2.2 M6 p42).2.2.2 M8 p43) _ _ _))))))))) (fun q41 => (((((((h.2 q31).2 q33).1 (qm_b1 q34)).2.2 r1 M2 p36).2 q38).2.2 r3 M4 p39).2 q41)))))))) (fun q35 => (((h.2 q31).2 q33).2 (qm_b2 q35)))))))))
theorem lp_R_either {d : Nat} {K : qm_K} {M0 : qm_M} {n x y : Nat} {z : Int} {w p : Nat → Nat} (hMR : qMR M0 n w p) (hx : x < cN n w p) (hy : y < cN n w p) (hz : z = 0 ∨ z = 1) (hK : ∀ (r : Int) (M2 : qm_M), (r = (cC n w p (eiZ n w p x y z) : Int) ∧ (M2 71 35 ≠ 0 → rKn M2 n w p) ∧ mF M2 M0) → K (.inl r) (qL qLM) M2) : ∀ (j a : Nat) (M : qm_M), a + j = n → rKn M n w p → mF M M0 → qAr M 88 n (mU n w p (bS (cE n w p y))) → (∀ b, b < a → M 87 b = (mU n w p (bS (eiZ n w p x y z)) b : Int)) → (∀ b, a ≤ b → b < n → M 87 b = (mU n w p (bS (cE n w p x)) b : Int)) → at_R_either_59 d K M z (a : Int)
  | 0, a, M, ha, hKn, hF, h88, h1, h2 => fun d1 d2 d5 => by
    have hI := hMR.2.2.2
    have h8 := hI.2.1
    have hm1 := mF_MR hMR hF
    have hok := eiZ_ok hx hy z
    refine rg_R_either_59 (n := n) (w := w) (p := p) (u := mU n w p (bS (eiZ n w p x y z))) (And.intro (fun _ => And.intro hm1 (And.intro (fun _ => hKn) (And.intro ⟨fun b hb => ?_, by decide, by decide, by decide, by decide⟩ ?_))) (fun q => absurd q (by rw [hm1.1]; omega))) d1 d2 d5
    · have := (m_inv hI hok hb).1
      rw [h1 b (by omega), mz_n (by omega)]
    · intro r9 M10 h10
      exact hK r9 M10 ⟨rNum_of hI hok (fun _ _ => rfl) h10.1, fun _ => h10.2.1, mF_trans (mF_k h10.2.2.2) hF⟩
  | j + 1, a, M, ha, hKn, hF, h88, h1, h2 => fun d1 d2 d5 => by
    have hI := hMR.2.2.2
    have h8 := hI.2.1
    have hm1 := mF_MR hMR hF
    have han : a < n := by omega
    have ux := (m_inv hI (cE_spec hx).2.1 han).1
    have uy := (m_inv hI (cE_spec hy).2.1 han).1
    have eU := eiZ_U hI hx hy han z
    have go : ∀ (M2 : qm_M) (v : Int), M2 = qm_u M 87 a v → v = (mU n w p (bS (eiZ n w p x y z)) a : Int) → at_R_either_59 d K M2 z ((a : Int) + 1) := fun M2 v e ev => by
      have c2 : ∀ c, c ≠ 87 → M2 c = M c := fun c q => by rw [e, qu_cf q]
      refine lp_R_either hMR hx hy hz hK j (a + 1) M2 (by omega) (rKn_keep hKn (c2 _ (by decide)) (c2 _ (by decide)) (c2 _ (by decide)) (c2 _ (by decide)) (c2 _ (by decide)) (c2 _ (by decide)) (by rw [c2 71 (by decide)]) (by rw [c2 71 (by decide)])) (fun c q q1 q2 => by rw [c2 c (by omega)]; exact hF c q q1 q2) (qAr_mem h88 (c2 88 (by decide))) (fun b hb => ?_) (fun b hb1 hb2 => ?_)
      · rw [e]
        by_cases hba : b = a
        · rw [hba, qu_s]; exact ev
        · rw [qu_k hba]; exact h1 b (by omega)
      · rw [e, qu_k (by omega)]; exact h2 b (by omega) hb2
    refine rg_R_either_59 (n := n) (w := w) (p := p) (u := p) (And.intro (fun q => absurd q (by rw [hm1.1]; omega)) (fun _ => And.intro (by omega) (And.intro (by omega) ?_))) d1 d2 d5
    intro y11 e11
    rw [Int.toNat_natCast, h88 a han] at e11
    refine And.intro (by omega) (And.intro (by omega) ?_)
    intro y12 e12
    rw [Int.toNat_natCast, h2 a (Nat.le_refl _) han] at e12
    refine And.intro (by omega) ?_
    have hc : ((y12 : Int) < 0 ∨ M 73 (Int.toNat (64 * 0 + 8 * (a : Int) + y11)) < M 73 (Int.toNat (64 * 0 + 8 * (a : Int) + y12))) ↔ pU n w p (bS (cE n w p y)) a < pU n w p (bS (cE n w p x)) a := by
      have r1 := rPl hm1 (show 0 < 2 by omega) han uy
      have r2 := rPl hm1 (show 0 < 2 by omega) han ux
      rw [e11, e12, show (64 * 0 + 8 * (a : Int) + (mU n w p (bS (cE n w p y)) a : Int)) = 64 * ((0 : Nat) : Int) + 8 * (a : Int) + (mU n w p (bS (cE n w p y)) a : Int) by omega, r1, show (64 * 0 + 8 * (a : Int) + (mU n w p (bS (cE n w p x)) a : Int)) = 64 * ((0 : Nat) : Int) + 8 * (a : Int) + (mU n w p (bS (cE n w p x)) a : Int) by omega, r2]
      unfold pU
      omega
    rw [lnk hc]
    have hr : qm_R ((a : Int) + 1) := by unfold qm_R; omega
    have keep : ¬ (pU n w p (bS (cE n w p y)) a < pU n w p (bS (cE n w p x)) a ↔ z = 0) → ∀ (y13 : Int), y13 = M 87 (Int.toNat (a : Int)) → 0 ≤ (a : Int) ∧ (a : Int) < 8 ∧ ∀ (M14 : qm_M), M14 = (qm_u M 87 (Int.toNat (a : Int)) y13) → qm_R ((a : Int) + 1) ∧ at_R_either_59 d K M14 z ((a : Int) + 1) := fun hq y13 e13 => by
      rw [Int.toNat_natCast, h2 a (Nat.le_refl _) han] at e13
      refine And.intro (by omega) (And.intro (by omega) ?_)
      intro M14 e14
      rw [Int.toNat_natCast] at e14
      rw [if_neg hq] at eU
      exact And.intro hr (go M14 y13 e14 (by rw [e13, eU]))
    have take : (pU n w p (bS (cE n w p y)) a < pU n w p (bS (cE n w p x)) a ↔ z = 0) → ∀ (y13 : Int), y13 = M 88 (Int.toNat (a : Int)) → 0 ≤ (a : Int) ∧ (a : Int) < 8 ∧ ∀ (M14 : qm_M), M14 = (qm_u M 87 (Int.toNat (a : Int)) y13) → qm_R ((a : Int) + 1) ∧ at_R_either_59 d K M14 z ((a : Int) + 1) := fun hq y13 e13 => by
      rw [Int.toNat_natCast, h88 a han] at e13
      refine And.intro (by omega) (And.intro (by omega) ?_)
      intro M14 e14
      rw [Int.toNat_natCast] at e14
      rw [if_pos hq] at eU
      exact And.intro hr (go M14 y13 e14 (by rw [e13, eU]))
    have b1 : ∀ P : Prop, qm_b P ≠ 0 → P := fun P h => Classical.byContradiction fun q => h (qm_bff q)
    have b0 : ∀ P : Prop, ¬ qm_b P ≠ 0 → ¬ P := fun P h q => h (by rw [qm_bt q]; decide)
    have c1 : ∀ P : Prop, qm_b P ≠ 1 → ¬ P := fun P h q => h (qm_bt q)
    have c0 : ∀ P : Prop, ¬ qm_b P ≠ 1 → P := fun P h => Classical.byContradiction fun q => h (by rw [qm_bff q]; decide)
    refine And.intro (fun hz1 => And.intro (fun h => And.intro (by omega) (And.intro (by omega) (keep (fun q => hz1 (q.mp (b1 _ h)))))) (fun h => And.intro (by omega) (And.intro (by omega) (take ⟨fun q => absurd q (b0 _ h), fun q => absurd q hz1⟩)))) (fun hz1 => And.intro (fun h => And.intro (by omega) (And.intro (by omega) (keep (fun q => c1 _ h (q.mpr (Classical.not_not.mp hz1)))))) (fun h => And.intro (by omega) (And.intro (by omega) (take ⟨fun _ => Classical.not_not.mp hz1, fun _ => c0 _ h⟩))))
theorem s_R_either  {n : Nat} {w p : Nat → Nat} {d : Nat} {K : qm_K} {M : qm_M} {x : Int} {y : Int} {z : Int} (hp0 : qMR M n w p) (hp1 : M 71 35 ≠ 0 → rKn M n w p) (hK : ∀ (r : Int) (M2 : qm_M), (r = eiA n w p x y z ∧ (M2 71 35 ≠ 0 → rKn M2 n w p) ∧ mF M2 M) → K (.inl r) (qL qLM) M2) : qm_Runs qm_P (d + 9) 196 [(.inr (some 71)), (.inl x), (.inl y), (.inl z)] (qL qLM) M K := by
  have hI := hp0.2.2.2
  have bad : ∀ M2 : qm_M, (M2 71 35 ≠ 0 → rKn M2 n w p) → mF M2 M → ∀ r, r = eiA n w p x y z → K (.inl r) (qL qLM) M2 := fun M2 h1 h2 r h3 => hK r M2 ⟨h3, h1, h2⟩
  have self : mF M M := fun _ _ _ _ => rfl
  refine en_R_either (n := n) (w := w) (p := p) (u := p) (And.intro (fun h => bad M hp1 self _ ?_) (fun h => And.intro (fun h2 => bad M hp1 self _ ?_) (fun h2 => And.intro (fun h3 => And.intro hp0 (And.intro hp1 ?_)) (fun h3 => bad M hp1 self _ ?_))))
  · unfold eiA; rw [if_pos (Or.inl h)]
  · unfold eiA; rw [if_pos (Or.inr (Or.inl h2))]
  · intro r1 M2 q2
    have m2 := kF_MR hp0 q2.2.2.2
    have hne : ¬ (x < 0 ∨ y < 0 ∨ z < 0 ∨ 1 < z) := by omega
    refine And.intro (fun h4 => bad M2 (fun _ => q2.2.1) (mF_k q2.2.2.2) _ ?_) (fun h4 => And.intro m2 (And.intro (fun _ => q2.2.1) ?_))
    · have : ¬ (0 ≤ x ∧ x < (cN n w p : Int)) := fun q => by rw [q2.1, qm_bt q] at h4; omega
      unfold eiA
      rw [if_neg hne, if_pos (by omega)]
    · intro r3 M4 q4
      have m4 := kF_MR m2 q4.2.2.2
      have hx : 0 ≤ x ∧ x < (cN n w p : Int) := Classical.byContradiction fun q => h4 (by rw [q2.1, qm_bff q])
      have f4 := mF_trans (mF_k q4.2.2.2) (mF_k q2.2.2.2)
      refine And.intro (fun h5 => And.intro ⟨m4, q4.2.1⟩ (And.intro hx (And.intro ⟨by decide, by decide, by decide, by decide, by decide, by decide⟩ ?_))) (fun h5 => bad M4 (fun _ => q4.2.1) f4 _ ?_)
      · have hy : 0 ≤ y ∧ y < (cN n w p : Int) := Classical.byContradiction fun q => h5 (by rw [q4.1, qm_bff q])
        obtain ⟨x, rfl⟩ : ∃ b : Nat, x = (b : Int) := ⟨x.toNat, by omega⟩
        obtain ⟨y, rfl⟩ : ∃ b : Nat, y = (b : Int) := ⟨y.toNat, by omega⟩
        intro M6 q6
        rw [Int.toNat_natCast] at q6
        have k6 : rKn M6 n w p := rKn_keep q4.2.1 (q6.2 _ (by decide)) (q6.2 _ (by decide)) (q6.2 _ (by decide)) (q6.2 _ (by decide)) (q6.2 _ (by decide)) (q6.2 _ (by decide)) (by rw [q6.2 71 (by decide)]) (by rw [q6.2 71 (by decide)])
        have m6 : qMR M6 n w p := qMR_mem m4 (by rw [q6.2 71 (by decide)]) (q6.2 _ (by decide)) (q6.2 _ (by decide))
        refine And.intro ⟨m6, k6⟩ (And.intro hy (And.intro ⟨by decide, by decide, by decide, by decide, by decide, by decide⟩ ?_))
        intro M8 q8
        rw [Int.toNat_natCast] at q8
        have k8 : rKn M8 n w p := rKn_keep k6 (q8.2 _ (by decide)) (q8.2 _ (by decide)) (q8.2 _ (by decide)) (q8.2 _ (by decide)) (q8.2 _ (by decide)) (q8.2 _ (by decide)) (by rw [q8.2 71 (by decide)]) (by rw [q8.2 71 (by decide)])
        refine lp_R_either (x := x) (y := y) hp0 (by omega) (by omega) (by omega) (fun r M9 q9 => hK r M9 ⟨?_, q9.2.1, q9.2.2⟩) n 0 M8 (by omega) k8 (fun c b g1 g2 => by rw [q8.2 c (by omega), q6.2 c (by omega)]; exact f4 c b g1 g2) q8.1 (fun b hb => absurd hb (Nat.not_lt_zero _)) (fun b _ hb => by rw [q8.2 87 (by decide)]; exact q6.1 b hb)
        rw [q9.1]
        unfold eiA
        rw [if_neg hne, if_neg (by omega), Int.toNat_natCast, Int.toNat_natCast]
      · have : ¬ (0 ≤ y ∧ y < (cN n w p : Int)) := fun q => h5 (by rw [q4.1, qm_bt q]; decide)
        unfold eiA
        rw [if_neg hne, if_pos (by omega)]
  · unfold eiA; rw [if_pos (by omega)]
