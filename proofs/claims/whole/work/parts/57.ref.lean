noncomputable def mdZ (n : Nat) (w p : Nat → Nat) (x y z : Nat) : Nat := (cE n w p x &&& cE n w p y ||| cE n w p y &&& cE n w p z) ||| cE n w p x &&& cE n w p z
noncomputable def anMiddle (n : Nat) (w p : Nat → Nat) (x y z : Int) : Int := if x < 0 ∨ y < 0 ∨ z < 0 then -1 else if (cN n w p : Int) ≤ x ∨ (cN n w p : Int) ≤ y ∨ (cN n w p : Int) ≤ z then -2 else (cC n w p (mdZ n w p x.toNat y.toNat z.toNat) : Int)
theorem mdZ_ok {n : Nat} {w p : Nat → Nat} {x y z : Nat} (hx : x < cN n w p) (hy : y < cN n w p) (hz : z < cN n w p) : cQ n w p (mdZ n w p x y z) :=
  cQ_or (cQ_or (cQ_and (cE_spec hx).2.1 (cE_spec hy).2.1) (cQ_and (cE_spec hy).2.1 (cE_spec hz).2.1)) (cQ_and (cE_spec hx).2.1 (cE_spec hz).2.1)
theorem mdZ_p {n : Nat} {w p : Nat → Nat} (hI : qInv n w p) {x y z a : Nat} (hx : x < cN n w p) (hy : y < cN n w p) (hz : z < cN n w p) : pU n w p (bS (mdZ n w p x y z)) a = max (max (min (pU n w p (bS (cE n w p x)) a) (pU n w p (bS (cE n w p y)) a)) (min (pU n w p (bS (cE n w p y)) a) (pU n w p (bS (cE n w p z)) a))) (min (pU n w p (bS (cE n w p x)) a) (pU n w p (bS (cE n w p z)) a)) := by
  have sx : rId n w p (bS (cE n w p x)) := (cE_spec hx).2.1
  have sy : rId n w p (bS (cE n w p y)) := (cE_spec hy).2.1
  have sz : rId n w p (bS (cE n w p z)) := (cE_spec hz).2.1
  unfold mdZ
  rw [bS_lor, bS_lor, bS_and, bS_and, bS_and, pU_or hI (Id_or (Id_and sx sy) (Id_and sy sz)) (Id_and sx sz), pU_or hI (Id_and sx sy) (Id_and sy sz), pU_and hI sx sy, pU_and hI sy sz, pU_and hI sx sz]
theorem mdZ_3 {a b c : Nat} : ((a : Int) + b + c - max (a : Int) (max (b : Int) (c : Int)) - min (a : Int) (min (b : Int) (c : Int))) = ((max (max (min a b) (min b c)) (min a c) : Nat) : Int) := by omega
def at_R_middle_71  (d : Nat) (K : qm_K) (M : qm_M) (x4 : Int) : Prop := ∀ (d1 d2 d3 d5 d6 d7 : Option qm_V), qm_TT qi_197 (qm_Runs qm_P (d + 8)) K 71 [some (.inr (some 71)), d1, d2, d3, some (.inl x4), d5, d6, d7] [] (qL qLM) M 0 0
theorem rg_R_middle_71  {n : Nat} {w p u : Nat → Nat} {d : Nat} {K : qm_K} {M : qm_M} {x4 : Int} (h :
    ((M 71 0) ≤ x4 →
     (qMR M n w p) ∧
     (M 71 35 ≠ 0 → rKn M n w p) ∧
     (qHa M 87 n u ∧ 8 ≤ (8 : Nat) ∧ (87 < 82 ∨ 86 < 87) ∧ (87 < 89 ∨ 95 < 87) ∧ 87 ≠ 71) ∧
     (∀ (r13 : Int) (M14 : qm_M), (rNum n w p u r13 ∧ rKn M14 n w p ∧ M14 71 35 ≠ 0 ∧ kF M14 M) →
      K (.inl r13) (qL qLM) M14)) ∧
    (¬ (M 71 0) ≤ x4 →
     0 ≤ x4 ∧ x4 < 8 ∧
     ∀ (y15 : Int), y15 = (M 87 (Int.toNat x4)) →
     (0 ≤ ((0 : Int) : Int) ∧ ((0 : Int) : Int) ≤ 1 ∧ 0 ≤ (x4 : Int) ∧ (x4 : Int) ≤ 7 ∧ 0 ≤ (y15 : Int) ∧ (y15 : Int) ≤ 7) ∧
     ∀ (y16 : Int), y16 = (M 73 (Int.toNat (64 * 0 + 8 * x4 + y15))) →
     0 ≤ x4 ∧ x4 < 8 ∧
     ∀ (y17 : Int), y17 = (M 88 (Int.toNat x4)) →
     (0 ≤ ((0 : Int) : Int) ∧ ((0 : Int) : Int) ≤ 1 ∧ 0 ≤ (x4 : Int) ∧ (x4 : Int) ≤ 7 ∧ 0 ≤ (y17 : Int) ∧ (y17 : Int) ≤ 7) ∧
     ∀ (y18 : Int), y18 = (M 73 (Int.toNat (64 * 0 + 8 * x4 + y17))) →
     0 ≤ x4 ∧ x4 < 8 ∧
     ∀ (y19 : Int), y19 = (M 86 (Int.toNat x4)) →
     (0 ≤ ((0 : Int) : Int) ∧ ((0 : Int) : Int) ≤ 1 ∧ 0 ≤ (x4 : Int) ∧ (x4 : Int) ≤ 7 ∧ 0 ≤ (y19 : Int) ∧ (y19 : Int) ≤ 7) ∧
     ∀ (y20 : Int), y20 = (M 73 (Int.toNat (64 * 0 + 8 * x4 + y19))) →
     qm_R (y16 + y18) ∧
     qm_R ((y16 + y18) + y20) ∧
     qm_R (((y16 + y18) + y20) - (max y16 (max y18 y20))) ∧
     qm_R ((((y16 + y18) + y20) - (max y16 (max y18 y20))) - (min y16 (min y18 y20))) ∧
     (0 ≤ ((0 : Int) : Int) ∧ ((0 : Int) : Int) ≤ 1 ∧ 0 ≤ (x4 : Int) ∧ (x4 : Int) ≤ 8 ∧ 0 ≤ (((((y16 + y18) + y20) - (max y16 (max y18 y20))) - (min y16 (min y18 y20))) : Int) ∧ (((((y16 + y18) + y20) - (max y16 (max y18 y20))) - (min y16 (min y18 y20))) : Int) ≤ 8) ∧
     ∀ (y21 : Int), y21 = (64 * 0 + 8 * x4 + ((((y16 + y18) + y20) - (max y16 (max y18 y20))) - (min y16 (min y18 y20)))) →
     0 ≤ y21 ∧ y21 < 128 ∧
     ∀ (y22 : Int), y22 = (M 72 (Int.toNat y21)) →
     0 ≤ x4 ∧ x4 < 8 ∧
     ∀ (M23 : qm_M), M23 = (qm_u M 87 (Int.toNat x4) y22) →
     qm_R (x4 + 1) ∧
     at_R_middle_71  d K M23 ((x4 + 1)))) : at_R_middle_71  d K M x4 :=
  fun d1 d2 d3 d5 d6 d7 => qm_wp_TT [71] 64 (And.intro (lf_71_0 ()) (And.intro (fun q24 => Exists.intro 87 (And.intro (lf_71_22 ()) (And.intro (lo_71 ()) (s_R_numberOf2 (d := d + 0) (And.intro (la_87 ()) (by decide)) ((h.1 q24).1) ((h.1 q24).2.1) ((h.1 q24).2.2.1) (fun r13 M14 p26 => ((h.1 q24).2.2.2 r13 M14 p26)))))) (fun q25 => Exists.intro 87 (And.intro (lf_71_22 ()) (Exists.intro 8 (And.intro (la_87 ()) (And.intro (h.2 q25).1 (And.intro (h.2 q25).2.1 (And.intro (lo_71 ()) (s_R_placeOf (d := d + 6)  (((h.2 q25).2.2 _ rfl).1) (Exists.intro 88 (And.intro (lf_71_23 ()) (Exists.intro 8 (And.intro (la_88 ()) (And.intro (((h.2 q25).2.2 _ rfl).2 _ rfl).1 (And.intro (((h.2 q25).2.2 _ rfl).2 _ rfl).2.1 (And.intro (lo_71 ()) (s_R_placeOf (d := d + 6)  (((((h.2 q25).2.2 _ rfl).2 _ rfl).2.2 _ rfl).1) (Exists.intro 86 (And.intro (lf_71_21 ()) (Exists.intro 8 (And.intro (la_86 ()) (And.intro (((((h.2 q25).2.2 _ rfl).2 _ rfl).2.2 _ rfl).2 _ rfl).1 (And.intro (((((h.2 q25).2.2 _ rfl).2 _ rfl).2.2 _ rfl).2 _ rfl).2.1 (And.intro (lo_71 ()) (s_R_placeOf (d := d + 6)  (((((((h.2 q25).2.2 _ rfl).2 _ rfl).2.2 _ rfl).2 _ rfl).2.2 _ rfl).1) (Exists.intro 87 (And.intro (lf_71_22 ()) (Exists.intro 72 (And.intro (lf_71_2 ()) (And.intro (((((((h.2 q25).2.2 _ rfl).2 _ rfl).2.2 _ rfl).2 _ rfl).2.2 _ rfl).2 _ rfl).1 (And.intro (((((((h.2 q25).2.2 _ rfl).2 _ rfl).2.2 _ rfl).2 _ rfl).2.2 _ rfl).2 _ rfl).2.1 (And.intro (((((((h.2 q25).2.2 _ rfl).2 _ rfl).2.2 _ rfl).2 _ rfl).2.2 _ rfl).2 _ rfl).2.2.1 (And.intro (((((((h.2 q25).2.2 _ rfl).2 _ rfl).2.2 _ rfl).2 _ rfl).2.2 _ rfl).2 _ rfl).2.2.2.1 (And.intro True.intro (s_R_at (d := d + 7)  ((((((((h.2 q25).2.2 _ rfl).2 _ rfl).2.2 _ rfl).2 _ rfl).2.2 _ rfl).2 _ rfl).2.2.2.2.1) (Exists.intro 128 (And.intro (la_72 ()) (And.intro ((((((((h.2 q25).2.2 _ rfl).2 _ rfl).2.2 _ rfl).2 _ rfl).2.2 _ rfl).2 _ rfl).2.2.2.2.2 _ rfl).1 (And.intro ((((((((h.2 q25).2.2 _ rfl).2 _ rfl).2.2 _ rfl).2 _ rfl).2.2 _ rfl).2 _ rfl).2.2.2.2.2 _ rfl).2.1 (Exists.intro 8 (And.intro (la_87 ()) (And.intro (((((((((h.2 q25).2.2 _ rfl).2 _ rfl).2.2 _ rfl).2 _ rfl).2.2 _ rfl).2 _ rfl).2.2.2.2.2 _ rfl).2.2 _ rfl).1 (And.intro (((((((((h.2 q25).2.2 _ rfl).2 _ rfl).2.2 _ rfl).2 _ rfl).2.2 _ rfl).2 _ rfl).2.2.2.2.2 _ rfl).2.2 _ rfl).2.1 (And.intro ((((((((((h.2 q25).2.2 _ rfl).2 _ rfl).2.2 _ rfl).2 _ rfl).2.2 _ rfl).2 _ rfl).2.2.2.2.2 _ rfl).2.2 _ rfl).2.2 _ rfl).1 (((((((((((h.2 q25).2.2 _ rfl).2 _ rfl).2.2 _ rfl).2 _ rfl).2.2 _ rfl).2 _ rfl).2.2.2.2.2 _ rfl).2.2 _ rfl).2.2 _ rfl).2 _ _ _ _ _ _))))))))))))))))))))))))))))))))))))))))))))))
theorem en_R_middle  {n : Nat} {w p u : Nat → Nat} {d : Nat} {K : qm_K} {M : qm_M} {x : Int} {y : Int} {z : Int} (h :
    (x < 0 →
     K (.inl ((-1))) (qL qLM) M) ∧
    (¬ x < 0 →
     (y < 0 →
      K (.inl ((-1))) (qL qLM) M) ∧
     (¬ y < 0 →
      (0 ≤ z →
       (qMR M n w p) ∧
       (M 71 35 ≠ 0 → rKn M n w p) ∧
       (∀ (r1 : Int) (M2 : qm_M), (r1 = qm_b (0 ≤ x ∧ x < (cN n w p : Int)) ∧ rKn M2 n w p ∧ M2 71 35 ≠ 0 ∧ kF M2 M) →
        (r1 = 0 →
         K (.inl ((-2))) (qL qLM) M2) ∧
        (¬ r1 = 0 →
         (qMR M2 n w p) ∧
         (M2 71 35 ≠ 0 → rKn M2 n w p) ∧
         (∀ (r3 : Int) (M4 : qm_M), (r3 = qm_b (0 ≤ y ∧ y < (cN n w p : Int)) ∧ rKn M4 n w p ∧ M4 71 35 ≠ 0 ∧ kF M4 M2) →
          (r3 = 0 →
           K (.inl ((-2))) (qL qLM) M4) ∧
          (¬ r3 = 0 →
           (qMR M4 n w p) ∧
           (M4 71 35 ≠ 0 → rKn M4 n w p) ∧
           (∀ (r5 : Int) (M6 : qm_M), (r5 = qm_b (0 ≤ z ∧ z < (cN n w p : Int)) ∧ rKn M6 n w p ∧ M6 71 35 ≠ 0 ∧ kF M6 M4) →
            (r5 ≠ 0 →
             (qMR M6 n w p ∧ rKn M6 n w p) ∧
             (0 ≤ (x : Int) ∧ (x : Int) < (cN n w p : Int)) ∧
             (8 ≤ (8 : Nat) ∧ 87 ≠ 71 ∧ 87 ≠ 85 ∧ 87 ≠ 89 ∧ 87 ≠ 90 ∧ 87 ≠ 95) ∧
             (∀ (M8 : qm_M), (qAr M8 87 n (mU n w p (bS (cE n w p (Int.toNat x)))) ∧ ∀ c, c ≠ 87 → M8 c = M6 c) →
              (qMR M8 n w p ∧ rKn M8 n w p) ∧
              (0 ≤ (y : Int) ∧ (y : Int) < (cN n w p : Int)) ∧
              (8 ≤ (8 : Nat) ∧ 88 ≠ 71 ∧ 88 ≠ 85 ∧ 88 ≠ 89 ∧ 88 ≠ 90 ∧ 88 ≠ 95) ∧
              (∀ (M10 : qm_M), (qAr M10 88 n (mU n w p (bS (cE n w p (Int.toNat y)))) ∧ ∀ c, c ≠ 88 → M10 c = M8 c) →
               (qMR M10 n w p ∧ rKn M10 n w p) ∧
               (0 ≤ (z : Int) ∧ (z : Int) < (cN n w p : Int)) ∧
               (8 ≤ (8 : Nat) ∧ 86 ≠ 71 ∧ 86 ≠ 85 ∧ 86 ≠ 89 ∧ 86 ≠ 90 ∧ 86 ≠ 95) ∧
               (∀ (M12 : qm_M), (qAr M12 86 n (mU n w p (bS (cE n w p (Int.toNat z)))) ∧ ∀ c, c ≠ 86 → M12 c = M10 c) →
                at_R_middle_71  d K M12 0)))) ∧
            (¬ r5 ≠ 0 →
             K (.inl ((-2))) (qL qLM) M6))))))) ∧
      (¬ 0 ≤ z →
       K (.inl ((-1))) (qL qLM) M)))) : qm_Runs qm_P (d + 9) 197 [(.inr (some 71)), (.inl x), (.inl y), (.inl z)] (qL qLM) M K :=
  And.intro (Nat.le_of_ble_eq_true rfl) (show qm_TT qi_197 (qm_Runs qm_P (d + 8)) K 0 [some (.inr (some 71)), some (.inl x), some (.inl y), some (.inl z), none, none, none, none] [] (qL qLM) M 0 0 from qm_wp_TT [71] 64 (And.intro (fun q27 => (h.1 q27)) (fun q28 => And.intro (fun q29 => ((h.2 q28).1 q29)) (fun q30 => And.intro (fun q31 => And.intro (lo_71 ()) (s_R_isMatch (d := d + 0)  ((((h.2 q28).2 q30).1 q31).1) ((((h.2 q28).2 q30).1 q31).2.1) (fun r1 M2 p33 => And.intro (fun q34 => (((((h.2 q28).2 q30).1 q31).2.2 r1 M2 p33).1 q34)) (fun q35 => And.intro (lo_71 ()) (s_R_isMatch (d := d + 0)  ((((((h.2 q28).2 q30).1 q31).2.2 r1 M2 p33).2 q35).1) ((((((h.2 q28).2 q30).1 q31).2.2 r1 M2 p33).2 q35).2.1) (fun r3 M4 p36 => And.intro (fun q37 => (((((((h.2 q28).2 q30).1 q31).2.2 r1 M2 p33).2 q35).2.2 r3 M4 p36).1 q37)) (fun q38 => And.intro (lo_71 ()) (s_R_isMatch (d := d + 0)  ((((((((h.2 q28).2 q30).1 q31).2.2 r1 M2 p33).2 q35).2.2 r3 M4 p36).2 q38).1) ((((((((h.2 q28).2 q30).1 q31).2.2 r1 M2 p33).2 q35).2.2 r3 M4 p36).2 q38).2.1) (fun r5 M6 p39 => And.intro (fun q40 => Exists.intro 87 (And.intro (lf_71_22 ()) (And.intro (lo_71 ()) (s_R_makes (d := d + 6) (And.intro (la_87 ()) (by decide)) ((((((((((h.2 q28).2 q30).1 q31).2.2 r1 M2 p33).2 q35).2.2 r3 M4 p36).2 q38).2.2 r5 M6 p39).1 q40).1) ((((((((((h.2 q28).2 q30).1 q31).2.2 r1 M2 p33).2 q35).2.2 r3 M4 p36).2 q38).2.2 r5 M6 p39).1 q40).2.1) ((((((((((h.2 q28).2 q30).1 q31).2.2 r1 M2 p33).2 q35).2.2 r3 M4 p36).2 q38).2.2 r5 M6 p39).1 q40).2.2.1) (fun M8 p42 => Exists.intro 88 (And.intro (lf_71_23 ()) (And.intro (lo_71 ()) (s_R_makes (d := d + 6) (And.intro (la_88 ()) (by decide)) (((((((((((h.2 q28).2 q30).1 q31).2.2 r1 M2 p33).2 q35).2.2 r3 M4 p36).2 q38).2.2 r5 M6 p39).1 q40).2.2.2 M8 p42).1) (((((((((((h.2 q28).2 q30).1 q31).2.2 r1 M2 p33).2 q35).2.2 r3 M4 p36).2 q38).2.2 r5 M6 p39).1 q40).2.2.2 M8 p42).2.1) (((((((((((h.2 q28).2 q30).1 q31).2.2 r1 M2 p33).2 q35).2.2 r3 M4 p36).2 q38).2.2 r5 M6 p39).1 q40).2.2.2 M8 p42).2.2.1) (fun M10 p43 => Exists.intro 86 (And.intro (lf_71_21 ()) (And.intro (lo_71 ()) (s_R_makes (d := d + 6) (And.intro (la_86 ()) (by decide)) ((((((((((((h.2 q28).2 q30).1 q31).2.2 r1 M2 p33).2 q35).2.2 r3 M4 p36).2 q38).2.2 r5 M6 p39).1 q40).2.2.2 M8 p42).2.2.2 M10 p43).1) ((((((((((((h.2 q28).2 q30).1 q31).2.2 r1 M2 p33).2 q35).2.2 r3 M4 p36).2 q38).2.2 r5 M6 p39).1 q40).2.2.2 M8 p42).2.2.2 M10 p43).2.1) ((((((((((((h.2 q28).2 q30).1 q31).2.2 r1 M2 p33).2 q35).2.2 r3 M4 p36).2 q38).2.2 r5 M6 p39).1 q40).2.2.2 M8 p42).2.2.2 M10 p43).2.2.1) (fun M12 p44 => ((((((((((((h.2 q28).2 q30).1 q31).2.2 r1 M2 p33).2 q35).2.2 r3 M4 p36).2 q38).2.2 r5 M6 p39).1 q40).2.2.2 M8 p42).2.2.2 M10 p43).2.2.2 M12 p44) _ _ _ _ _ _))))))))))))) (fun q41 => (((((((((h.2 q28).2 q30).1 q31).2.2 r1 M2 p33).2 q35).2.2 r3 M4 p36).2 q38).2.2 r5 M6 p39).2 q41))))))))))) (fun q32 => (((h.2 q28).2 q30).2 q32))))))
theorem lp_R_middle {d : Nat} {K : qm_K} {M0 : qm_M} {n x y z : Nat} {w p : Nat → Nat} (hMR : qMR M0 n w p) (hx : x < cN n w p) (hy : y < cN n w p) (hz : z < cN n w p) (hK : ∀ (r : Int) (M2 : qm_M), (r = (cC n w p (mdZ n w p x y z) : Int) ∧ (M2 71 35 ≠ 0 → rKn M2 n w p) ∧ mF M2 M0) → K (.inl r) (qL qLM) M2) : ∀ (j a : Nat) (M : qm_M), a + j = n → rKn M n w p → mF M M0 → qAr M 88 n (mU n w p (bS (cE n w p y))) → qAr M 86 n (mU n w p (bS (cE n w p z))) → (∀ b, b < a → M 87 b = (mU n w p (bS (mdZ n w p x y z)) b : Int)) → (∀ b, a ≤ b → b < n → M 87 b = (mU n w p (bS (cE n w p x)) b : Int)) → at_R_middle_71 d K M (a : Int)
  | 0, a, M, ha, hKn, hF, h88, h86, h1, h2 => fun d1 d2 d3 d5 d6 d7 => by
    have hI := hMR.2.2.2
    have h8 := hI.2.1
    have hm1 := mF_MR hMR hF
    have hok := mdZ_ok hx hy hz
    refine rg_R_middle_71 (n := n) (w := w) (p := p) (u := mU n w p (bS (mdZ n w p x y z))) (And.intro (fun _ => And.intro hm1 (And.intro (fun _ => hKn) (And.intro ⟨fun b hb => ?_, by decide, by decide, by decide, by decide⟩ ?_))) (fun q => absurd q (by rw [hm1.1]; omega))) d1 d2 d3 d5 d6 d7
    · have := (m_inv hI hok hb).1
      rw [h1 b (by omega), mz_n (by omega)]
    · intro r9 M10 h10
      exact hK r9 M10 ⟨rNum_of hI hok (fun _ _ => rfl) h10.1, fun _ => h10.2.1, mF_trans (mF_k h10.2.2.2) hF⟩
  | j + 1, a, M, ha, hKn, hF, h88, h86, h1, h2 => fun d1 d2 d3 d5 d6 d7 => by
    have hI := hMR.2.2.2
    have h8 := hI.2.1
    have hm1 := mF_MR hMR hF
    have han : a < n := by omega
    have ux := (m_inv hI (cE_spec hx).2.1 han).1
    have uy := (m_inv hI (cE_spec hy).2.1 han).1
    have uz := (m_inv hI (cE_spec hz).2.1 han).1
    have px := pU_w hI (cE_spec hx).2.1 han
    have py := pU_w hI (cE_spec hy).2.1 han
    have pz := pU_w hI (cE_spec hz).2.1 han
    have pm := pU_w hI (mdZ_ok hx hy hz) han
    have rx := rPl hm1 (show 0 < 2 by omega) han ux
    have ry := rPl hm1 (show 0 < 2 by omega) han uy
    have rz := rPl hm1 (show 0 < 2 by omega) han uz
    have hz0 : ∀ q : Int, 64 * 0 + 8 * (a : Int) + q = 64 * ((0 : Nat) : Int) + 8 * (a : Int) + q := fun q => by omega
    refine rg_R_middle_71 (n := n) (w := w) (p := p) (u := p) (And.intro (fun q => absurd q (by rw [hm1.1]; omega)) (fun _ => And.intro (by omega) (And.intro (by omega) ?_))) d1 d2 d3 d5 d6 d7
    intro y15 e15
    rw [Int.toNat_natCast, h2 a (Nat.le_refl _) han] at e15
    refine And.intro (by omega) ?_
    intro y16 e16
    rw [e15, hz0, rx] at e16
    refine And.intro (by omega) (And.intro (by omega) ?_)
    intro y17 e17
    rw [Int.toNat_natCast, h88 a han] at e17
    refine And.intro (by omega) ?_
    intro y18 e18
    rw [e17, hz0, ry] at e18
    refine And.intro (by omega) (And.intro (by omega) ?_)
    intro y19 e19
    rw [Int.toNat_natCast, h86 a han] at e19
    refine And.intro (by omega) ?_
    intro y20 e20
    rw [e19, hz0, rz] at e20
    have f16 : y16 = (pU n w p (bS (cE n w p x)) a : Int) := e16
    have f18 : y18 = (pU n w p (bS (cE n w p y)) a : Int) := e18
    have f20 : y20 = (pU n w p (bS (cE n w p z)) a : Int) := e20
    have key : ((((y16 + y18) + y20) - (max y16 (max y18 y20))) - (min y16 (min y18 y20))) = (pU n w p (bS (mdZ n w p x y z)) a : Int) := by
      rw [mdZ_p hI hx hy hz, f16, f18, f20]
      exact mdZ_3
    have kle : ((((y16 + y18) + y20) - (max y16 (max y18 y20)))) = (pU n w p (bS (mdZ n w p x y z)) a : Int) + min y16 (min y18 y20) := by omega
    have kmin : 0 ≤ min y16 (min y18 y20) ∧ min y16 (min y18 y20) < 8 := by omega
    rw [key, kle]
    refine And.intro (by unfold qm_R; omega) (And.intro (by unfold qm_R; omega) (And.intro (by unfold qm_R; omega) (And.intro (by unfold qm_R; omega) (And.intro (by omega) ?_))))
    intro y21 e21
    refine And.intro (by omega) (And.intro (by omega) ?_)
    intro y22 e22
    rw [e21, hz0, rLi hm1 (show 0 < 2 by omega) han pm.1, pm.2] at e22
    refine And.intro (by omega) (And.intro (by omega) ?_)
    intro M23 e23
    rw [Int.toNat_natCast] at e23
    have c2 : ∀ c, c ≠ 87 → M23 c = M c := fun c q => by rw [e23, qu_cf q]
    refine And.intro (by unfold qm_R; omega) ?_
    refine lp_R_middle hMR hx hy hz hK j (a + 1) M23 (by omega) (rKn_keep hKn (c2 _ (by decide)) (c2 _ (by decide)) (c2 _ (by decide)) (c2 _ (by decide)) (c2 _ (by decide)) (c2 _ (by decide)) (by rw [c2 71 (by decide)]) (by rw [c2 71 (by decide)])) (fun c q q1 q2 => by rw [c2 c (by omega)]; exact hF c q q1 q2) (qAr_mem h88 (c2 88 (by decide))) (qAr_mem h86 (c2 86 (by decide))) (fun b hb => ?_) (fun b hb1 hb2 => ?_)
    · rw [e23]
      by_cases hba : b = a
      · rw [hba, qu_s]; exact e22
      · rw [qu_k hba]; exact h1 b (by omega)
    · rw [e23, qu_k (by omega)]; exact h2 b (by omega) hb2
theorem s_R_middle  {n : Nat} {w p : Nat → Nat} {d : Nat} {K : qm_K} {M : qm_M} {x : Int} {y : Int} {z : Int} (hp0 : qMR M n w p) (hp1 : M 71 35 ≠ 0 → rKn M n w p) (hK : ∀ (r : Int) (M2 : qm_M), (r = anMiddle n w p x y z ∧ (M2 71 35 ≠ 0 → rKn M2 n w p) ∧ mF M2 M) → K (.inl r) (qL qLM) M2) : qm_Runs qm_P (d + 9) 197 [(.inr (some 71)), (.inl x), (.inl y), (.inl z)] (qL qLM) M K := by
  have hI := hp0.2.2.2
  have bad : ∀ M2 : qm_M, (M2 71 35 ≠ 0 → rKn M2 n w p) → mF M2 M → ∀ r, r = anMiddle n w p x y z → K (.inl r) (qL qLM) M2 := fun M2 h1 h2 r h3 => hK r M2 ⟨h3, h1, h2⟩
  have self : mF M M := fun _ _ _ _ => rfl
  refine en_R_middle (n := n) (w := w) (p := p) (u := p) (And.intro (fun h => bad M hp1 self _ ?_) (fun h => And.intro (fun h2 => bad M hp1 self _ ?_) (fun h2 => And.intro (fun h3 => And.intro hp0 (And.intro hp1 ?_)) (fun h3 => bad M hp1 self _ ?_))))
  · unfold anMiddle; rw [if_pos (by omega)]
  · unfold anMiddle; rw [if_pos (by omega)]
  · intro r1 M2 q2
    have m2 := kF_MR hp0 q2.2.2.2
    have hne : ¬ (x < 0 ∨ y < 0 ∨ z < 0) := by omega
    refine And.intro (fun h4 => bad M2 (fun _ => q2.2.1) (mF_k q2.2.2.2) _ ?_) (fun h4 => And.intro m2 (And.intro (fun _ => q2.2.1) ?_))
    · have : ¬ (0 ≤ x ∧ x < (cN n w p : Int)) := fun q => by rw [q2.1, qm_bt q] at h4; omega
      unfold anMiddle
      rw [if_neg hne, if_pos (by omega)]
    · intro r3 M4 q4
      have m4 := kF_MR m2 q4.2.2.2
      have hx : 0 ≤ x ∧ x < (cN n w p : Int) := Classical.byContradiction fun q => h4 (by rw [q2.1, qm_bff q])
      have f4 := mF_trans (mF_k q4.2.2.2) (mF_k q2.2.2.2)
      refine And.intro (fun h5 => bad M4 (fun _ => q4.2.1) f4 _ ?_) (fun h5 => And.intro m4 (And.intro (fun _ => q4.2.1) ?_))
      · have : ¬ (0 ≤ y ∧ y < (cN n w p : Int)) := fun q => by rw [q4.1, qm_bt q] at h5; omega
        unfold anMiddle
        rw [if_neg hne, if_pos (by omega)]
      · intro r5 M6 q6
        have m6 := kF_MR m4 q6.2.2.2
        have hy : 0 ≤ y ∧ y < (cN n w p : Int) := Classical.byContradiction fun q => h5 (by rw [q4.1, qm_bff q])
        have f6 := mF_trans (mF_k q6.2.2.2) f4
        refine And.intro (fun h6 => And.intro ⟨m6, q6.2.1⟩ (And.intro hx (And.intro (by decide) ?_))) (fun h6 => bad M6 (fun _ => q6.2.1) f6 _ ?_)
        · have hz : 0 ≤ z ∧ z < (cN n w p : Int) := Classical.byContradiction fun q => h6 (by rw [q6.1, qm_bff q])
          obtain ⟨x, rfl⟩ : ∃ b : Nat, x = (b : Int) := ⟨x.toNat, by omega⟩
          obtain ⟨y, rfl⟩ : ∃ b : Nat, y = (b : Int) := ⟨y.toNat, by omega⟩
          obtain ⟨z, rfl⟩ : ∃ b : Nat, z = (b : Int) := ⟨z.toNat, by omega⟩
          have nx : ∀ (c : Nat) (A B : qm_M), c = 86 ∨ c = 87 ∨ c = 88 → qMR A n w p → rKn A n w p → (∀ c1, c1 ≠ c → B c1 = A c1) → qMR B n w p ∧ rKn B n w p := fun c A B hc g1 g2 g3 => ⟨qMR_mem g1 (by rw [g3 71 (by omega)]) (g3 _ (by omega)) (g3 _ (by omega)), rKn_keep g2 (g3 _ (by omega)) (g3 _ (by omega)) (g3 _ (by omega)) (g3 _ (by omega)) (g3 _ (by omega)) (g3 _ (by omega)) (by rw [g3 71 (by omega)]) (by rw [g3 71 (by omega)])⟩
          intro M8 q8
          rw [Int.toNat_natCast] at q8
          have m8 := nx 87 _ _ (by omega) m6 q6.2.1 q8.2
          refine And.intro m8 (And.intro hy (And.intro (by decide) ?_))
          intro M10 q10
          rw [Int.toNat_natCast] at q10
          have m10 := nx 88 _ _ (by omega) m8.1 m8.2 q10.2
          refine And.intro m10 (And.intro hz (And.intro (by decide) ?_))
          intro M12 q12
          rw [Int.toNat_natCast] at q12
          have m12 := nx 86 _ _ (by omega) m10.1 m10.2 q12.2
          refine lp_R_middle (x := x) (y := y) (z := z) hp0 (by omega) (by omega) (by omega) (fun r M9 q9 => hK r M9 ⟨?_, q9.2.1, q9.2.2⟩) n 0 M12 (by omega) m12.2 (fun c b g1 g2 => by rw [q12.2 c (by omega), q10.2 c (by omega), q8.2 c (by omega)]; exact f6 c b g1 g2) (qAr_mem q10.1 (q12.2 88 (by decide))) q12.1 (fun b hb => absurd hb (Nat.not_lt_zero _)) (fun b _ hb => by rw [q12.2 87 (by decide), q10.2 87 (by decide)]; exact q8.1 b hb)
          rw [q9.1]
          unfold anMiddle
          rw [if_neg hne, if_neg (by omega), Int.toNat_natCast, Int.toNat_natCast, Int.toNat_natCast]
        · have : ¬ (0 ≤ z ∧ z < (cN n w p : Int)) := fun q => h6 (by rw [q6.1, qm_bt q]; decide)
          unfold anMiddle
          rw [if_neg hne, if_pos (by omega)]
  · unfold anMiddle; rw [if_pos (by omega)]
