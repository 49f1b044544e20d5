noncomputable def anHas (n : Nat) (w p : Nat → Nat) (m s a : Int) : Int := if m < 0 ∨ s < 0 ∨ 1 < s ∨ a < 0 ∨ (n : Int) ≤ a then -1 else if m < (cN n w p : Int) then (if s = 0 then (mU n w p (bS (cE n w p m.toNat)) a.toNat : Int) else (mV n w p (bS (cE n w p m.toNat)) a.toNat : Int)) else -2
theorem rKn_86 {M M2 : qm_M} {n : Nat} {w p : Nat → Nat} (h : rKn M n w p) (e : ∀ c, c ≠ 86 → M2 c = M c) : rKn M2 n w p := rKn_keep h (e _ (by decide)) (e _ (by decide)) (e _ (by decide)) (e _ (by decide)) (e _ (by decide)) (e _ (by decide)) (by rw [e 71 (by decide)]) (by rw [e 71 (by decide)])
theorem en_R_has2  {n : Nat} {w p u v : Nat → Nat} {d : Nat} {K : qm_K} {M : qm_M} {m : Int} {s : Int} {a : Int} (h :
    (m < 0 →
     K (.inl ((-1))) (qL qLM) M) ∧
    (¬ m < 0 →
     ((0 ≤ s ∧ s ≤ 1) →
      (1 ≤ M 71 0 ∧ M 71 0 ≤ 8) ∧
      ((0 ≤ a ∧ a < M 71 0) →
       (qMR M n w p) ∧
       (M 71 35 ≠ 0 → rKn M n w p) ∧
       (∀ (r1 : Int) (M2 : qm_M), (r1 = qm_b (0 ≤ m ∧ m < (cN n w p : Int)) ∧ rKn M2 n w p ∧ M2 71 35 ≠ 0 ∧ kF M2 M) →
        (r1 ≠ 0 →
         (qMR M2 n w p ∧ rKn M2 n w p) ∧
         (0 ≤ (m : Int) ∧ (m : Int) < (cN n w p : Int)) ∧
         (8 ≤ (8 : Nat) ∧ 86 ≠ 71 ∧ 86 ≠ 85 ∧ 86 ≠ 89 ∧ 86 ≠ 90 ∧ 86 ≠ 95) ∧
         (∀ (M4 : qm_M), (qAr M4 86 n (mU n w p (bS (cE n w p (Int.toNat m)))) ∧ ∀ c, c ≠ 86 → M4 c = M2 c) →
          (s ≠ 0 →
           (qAr M4 86 n u ∧ qMt n u v ∧ n ≤ (8 : Nat)) ∧
           (0 ≤ (a : Int) ∧ (a : Int) < (n : Int)) ∧
           ∀ (y5 : Int), y5 = (v (Int.toNat a) : Int) →
           K (.inl y5) (qL qLM) M4) ∧
          (¬ s ≠ 0 →
           0 ≤ a ∧ a < 8 ∧
           ∀ (y6 : Int), y6 = (M4 86 (Int.toNat a)) →
           K (.inl y6) (qL qLM) M4))) ∧
        (¬ r1 ≠ 0 →
         K (.inl ((-2))) (qL qLM) M2))) ∧
      (¬ (0 ≤ a ∧ a < M 71 0) →
       K (.inl ((-1))) (qL qLM) M)) ∧
     (¬ (0 ≤ s ∧ s ≤ 1) →
      K (.inl ((-1))) (qL qLM) M))) : qm_Runs qm_P (d + 9) 191 [(.inr (some 71)), (.inl m), (.inl s), (.inl a)] (qL qLM) M K :=
  And.intro (Nat.le_of_ble_eq_true rfl) (show qm_TT qi_191 (qm_Runs qm_P (d + 8)) K 0 [some (.inr (some 71)), some (.inl m), some (.inl s), some (.inl a)] [] (qL qLM) M 0 0 from qm_wp_TT [] 31 (And.intro (fun q7 => (h.1 q7)) (fun q8 => And.intro True.intro (s_R_isIn (d := d + 7)   (And.intro (fun q9 => ((h.2 q8).2 (qm_b0 q9))) (fun q10 => And.intro (lo_71 ()) (s_R_isOne (d := d + 6)  (((h.2 q8).1 (qm_b1 q10)).1) (And.intro (fun q11 => And.intro (lo_71 ()) (s_R_isMatch (d := d + 0)  ((((h.2 q8).1 (qm_b1 q10)).2.1 (qm_b1 q11)).1) ((((h.2 q8).1 (qm_b1 q10)).2.1 (qm_b1 q11)).2.1) (fun r1 M2 p13 => And.intro (fun q14 => Exists.intro 86 (And.intro (lf_71_21 ()) (And.intro (lo_71 ()) (s_R_makes (d := d + 6) (And.intro (la_86 ()) (by decide)) ((((((h.2 q8).1 (qm_b1 q10)).2.1 (qm_b1 q11)).2.2 r1 M2 p13).1 q14).1) ((((((h.2 q8).1 (qm_b1 q10)).2.1 (qm_b1 q11)).2.2 r1 M2 p13).1 q14).2.1) ((((((h.2 q8).1 (qm_b1 q10)).2.1 (qm_b1 q11)).2.2 r1 M2 p13).1 q14).2.2.1) (fun M4 p16 => And.intro (fun q17 => Exists.intro 86 (And.intro (lf_71_21 ()) (And.intro (lo_71 ()) (s_R_leftOf (d := d + 7) (And.intro (la_86 ()) (by decide)) ((((((((h.2 q8).1 (qm_b1 q10)).2.1 (qm_b1 q11)).2.2 r1 M2 p13).1 q14).2.2.2 M4 p16).1 q17).1) ((((((((h.2 q8).1 (qm_b1 q10)).2.1 (qm_b1 q11)).2.2 r1 M2 p13).1 q14).2.2.2 M4 p16).1 q17).2.1) (((((((((h.2 q8).1 (qm_b1 q10)).2.1 (qm_b1 q11)).2.2 r1 M2 p13).1 q14).2.2.2 M4 p16).1 q17).2.2 _ rfl)))))) (fun q18 => Exists.intro 86 (And.intro (lf_71_21 ()) (Exists.intro 8 (And.intro (la_86 ()) (And.intro (((((((h.2 q8).1 (qm_b1 q10)).2.1 (qm_b1 q11)).2.2 r1 M2 p13).1 q14).2.2.2 M4 p16).2 q18).1 (And.intro (((((((h.2 q8).1 (qm_b1 q10)).2.1 (qm_b1 q11)).2.2 r1 M2 p13).1 q14).2.2.2 M4 p16).2 q18).2.1 (((((((((h.2 q8).1 (qm_b1 q10)).2.1 (qm_b1 q11)).2.2 r1 M2 p13).1 q14).2.2.2 M4 p16).2 q18).2.2 _ rfl))))))))))))) (fun q15 => (((((h.2 q8).1 (qm_b1 q10)).2.1 (qm_b1 q11)).2.2 r1 M2 p13).2 q15))))) (fun q12 => (((h.2 q8).1 (qm_b1 q10)).2.2 (qm_b2 q12)))))))))))
theorem s_R_has2  {n : Nat} {w p : Nat → Nat} {d : Nat} {K : qm_K} {M : qm_M} {m : Int} {s : Int} {a : Int} (hp0 : qMR M n w p) (hp1 : M 71 35 ≠ 0 → rKn M n w p) (hK : ∀ (r : Int) (M2 : qm_M), (r = anHas n w p m s a ∧ (M2 71 35 ≠ 0 → rKn M2 n w p) ∧ mF M2 M) → K (.inl r) (qL qLM) M2) : qm_Runs qm_P (d + 9) 191 [(.inr (some 71)), (.inl m), (.inl s), (.inl a)] (qL qLM) M K := by
  have hI := hp0.2.2.2
  have h1n := hI.1
  have h8 := hI.2.1
  have self : mF M M := fun _ _ _ _ => rfl
  have bad : (m < 0 ∨ s < 0 ∨ 1 < s ∨ a < 0 ∨ (n : Int) ≤ a) → K (.inl (-1)) (qL qLM) M := fun h => hK _ M ⟨by unfold anHas; rw [if_pos h], hp1, self⟩
  refine en_R_has2 (n := n) (w := w) (p := p) (u := mU n w p (bS (cE n w p m.toNat))) (v := mV n w p (bS (cE n w p m.toNat))) ?_
  rw [hp0.1]
  refine And.intro (fun h => bad (by omega)) (fun h => And.intro (fun h2 => And.intro (by omega) (And.intro (fun h3 => And.intro hp0 (And.intro hp1 ?_)) (fun h3 => bad (by omega)))) (fun h2 => bad (by omega)))
  intro r1 M2 q2
  have m2 := kF_MR hp0 q2.2.2.2
  refine And.intro (fun h4 => ?_) (fun h4 => hK _ M2 ⟨?_, fun _ => q2.2.1, mF_k q2.2.2.2⟩)
  · have hm : 0 ≤ m ∧ m < (cN n w p : Int) := Classical.byContradiction fun q => h4 (by rw [q2.1, qm_bff q])
    refine And.intro ⟨m2, q2.2.1⟩ (And.intro hm (And.intro ⟨by decide, by decide, by decide, by decide, by decide, by decide⟩ ?_))
    intro M4 q4
    have hs := cE_spec (n := n) (w := w) (p := p) (m := m.toNat) (by omega)
    have f4 : mF M4 M := mF_trans (mF_k (kF_86 q4.2)) (mF_k q2.2.2.2)
    have fin : ∀ r, r = anHas n w p m s a → K (.inl r) (qL qLM) M4 := fun r hr => hK r M4 ⟨hr, fun _ => rKn_86 q2.2.1 q4.2, f4⟩
    unfold anHas at fin
    rw [if_neg (by omega), if_pos hm.2] at fin
    refine And.intro (fun h5 => And.intro ⟨q4.1, m_qMt hI hs.2.1, h8⟩ (And.intro (by omega) ?_)) (fun h5 => And.intro (by omega) (And.intro (by omega) ?_))
    · intro y5 e5
      exact fin _ (by rw [if_neg h5, e5])
    · intro y6 e6
      exact fin _ (by rw [if_pos (by omega), e6, q4.1 _ (by omega)])
  · have : ¬ (0 ≤ m ∧ m < (cN n w p : Int)) := fun q => h4 (by rw [q2.1, qm_bt q]; decide)
    unfold anHas
    rw [if_neg (by omega), if_neg (by omega)]
def at_R_costOf_20  (d : Nat) (K : qm_K) (M : qm_M) (x2 x3 x4 x5 x6 : Int) : Prop := ∀ (d1 d7 d8 : Option qm_V), qm_TT qi_192 (qm_Runs qm_P (d + 2)) K 20 [some (.inr (some 71)), d1, some (.inl x2), some (.inl x3), some (.inl x4), some (.inl x5), some (.inl x6), d7, d8] [] (qL qLM) M 0 0
theorem rg_R_costOf_20  {n : Nat} {w p u v : Nat → Nat} {d : Nat} {K : qm_K} {M : qm_M} {x2 x3 x4 x5 x6 : Int} (h :
    ((M 71 0) ≤ x6 →
     (x2 ≠ 0 →
      (x2 ≠ 1 →
       (x2 ≠ 2 →
        (x2 ≠ 3 →
         K (.inl x5) (qL qLM) M) ∧
        (¬ x2 ≠ 3 →
         qm_R (x3 - x4) ∧
         qm_R (-(x3 - x4)) ∧
         K (.inl ((Int.ofNat (Int.natAbs (x3 - x4))))) (qL qLM) M)) ∧
       (¬ x2 ≠ 2 →
        qm_R (x3 + x4) ∧
        K (.inl ((x3 + x4))) (qL qLM) M)) ∧
      (¬ x2 ≠ 1 →
       K (.inl x4) (qL qLM) M)) ∧
     (¬ x2 ≠ 0 →
      K (.inl x3) (qL qLM) M)) ∧
    (¬ (M 71 0) ≤ x6 →
     0 ≤ x6 ∧ x6 < 8 ∧
     ∀ (y3 : Int), y3 = (M 86 (Int.toNat x6)) →
     (0 ≤ ((0 : Int) : Int) ∧ ((0 : Int) : Int) ≤ 1 ∧ 0 ≤ (x6 : Int) ∧ (x6 : Int) ≤ 7 ∧ 0 ≤ (y3 : Int) ∧ (y3 : Int) ≤ 7) ∧
     ∀ (y4 : Int), y4 = (M 73 (Int.toNat (64 * 0 + 8 * x6 + y3))) →
     0 ≤ x6 ∧ x6 < 8 ∧
     ∀ (y5 : Int), y5 = (M 86 (Int.toNat x6)) →
     (0 ≤ ((1 : Int) : Int) ∧ ((1 : Int) : Int) ≤ 1 ∧ 0 ≤ (y5 : Int) ∧ (y5 : Int) ≤ 7 ∧ 0 ≤ (x6 : Int) ∧ (x6 : Int) ≤ 7) ∧
     ∀ (y6 : Int), y6 = (M 73 (Int.toNat (64 * 1 + 8 * y5 + x6))) →
     qm_R (x3 + y4) ∧
     qm_R (x4 + y6) ∧
     qm_R (x6 + 1) ∧
     at_R_costOf_20  d K M x2 ((x3 + y4)) ((x4 + y6)) ((max x5 (max y4 y6))) ((x6 + 1)))) : at_R_costOf_20  d K M x2 x3 x4 x5 x6 :=
  fun d1 d7 d8 => qm_wp_TT [20] 42 (And.intro (lf_71_0 ()) (And.intro (fun q7 => And.intro (fun q9 => And.intro (fun q11 => And.intro (fun q13 => And.intro (fun q15 => (((((h.1 q7).1 q9).1 q11).1 q13).1 q15)) (fun q16 => And.intro (((((h.1 q7).1 q9).1 q11).1 q13).2 q16).1 (And.intro (((((h.1 q7).1 q9).1 q11).1 q13).2 q16).2.1 ((((((h.1 q7).1 q9).1 q11).1 q13).2 q16).2.2)))) (fun q14 => And.intro ((((h.1 q7).1 q9).1 q11).2 q14).1 (((((h.1 q7).1 q9).1 q11).2 q14).2))) (fun q12 => (((h.1 q7).1 q9).2 q12))) (fun q10 => ((h.1 q7).2 q10))) (fun q8 => Exists.intro 86 (And.intro (lf_71_21 ()) (Exists.intro 8 (And.intro (la_86 ()) (And.intro (h.2 q8).1 (And.intro (h.2 q8).2.1 (And.intro (lo_71 ()) (s_R_placeOf (d := d + 0)  (((h.2 q8).2.2 _ rfl).1) (Exists.intro 86 (And.intro (lf_71_21 ()) (Exists.intro 8 (And.intro (la_86 ()) (And.intro (((h.2 q8).2.2 _ rfl).2 _ rfl).1 (And.intro (((h.2 q8).2.2 _ rfl).2 _ rfl).2.1 (And.intro (lo_71 ()) (s_R_placeOf (d := d + 0)  (((((h.2 q8).2.2 _ rfl).2 _ rfl).2.2 _ rfl).1) (And.intro (((((h.2 q8).2.2 _ rfl).2 _ rfl).2.2 _ rfl).2 _ rfl).1 (And.intro (((((h.2 q8).2.2 _ rfl).2 _ rfl).2.2 _ rfl).2 _ rfl).2.1 (And.intro (((((h.2 q8).2.2 _ rfl).2 _ rfl).2.2 _ rfl).2 _ rfl).2.2.1 ((((((h.2 q8).2.2 _ rfl).2 _ rfl).2.2 _ rfl).2 _ rfl).2.2.2 _ _ _))))))))))))))))))))))
theorem en_R_costOf  {n : Nat} {w p u v : Nat → Nat} {d : Nat} {K : qm_K} {M : qm_M} {m : Int} {c : Int} (h :
    (qMR M n w p ∧ rKn M n w p) ∧
    (0 ≤ (m : Int) ∧ (m : Int) < (cN n w p : Int)) ∧
    (8 ≤ (8 : Nat) ∧ 86 ≠ 71 ∧ 86 ≠ 85 ∧ 86 ≠ 89 ∧ 86 ≠ 90 ∧ 86 ≠ 95) ∧
    (∀ (M2 : qm_M), (qAr M2 86 n (mU n w p (bS (cE n w p (Int.toNat m)))) ∧ ∀ c, c ≠ 86 → M2 c = M c) →
     at_R_costOf_20  d K M2 c 0 0 0 0)) : qm_Runs qm_P (d + 3) 192 [(.inr (some 71)), (.inl m), (.inl c)] (qL qLM) M K :=
  And.intro (Nat.le_of_ble_eq_true rfl) (show qm_TT qi_192 (qm_Runs qm_P (d + 2)) K 0 [some (.inr (some 71)), some (.inl m), some (.inl c), none, none, none, none, none, none] [] (qL qLM) M 0 0 from qm_wp_TT [20] 42 (Exists.intro 86 (And.intro (lf_71_21 ()) (And.intro (lo_71 ()) (s_R_makes (d := d + 0) (And.intro (la_86 ()) (by decide)) (h.1) (h.2.1) (h.2.2.1) (fun M2 p17 => (h.2.2.2 M2 p17) _ _ _))))))
theorem lp_R_costOf {n d : Nat} {w p u : Nat → Nat} {K : qm_K} {M : qm_M} {c : Int} (hp0 : qMR M n w p) (hu8 : qAr M 86 n u) (hp2 : qTot n u) (hK : K (.inl (csF n p u c)) (qL qLM) M) :
    ∀ (j a : Nat), a + j = n → at_R_costOf_20 d K M c (cs0 a p u : Int) (cs1 a p u : Int) (csm a p u : Int) (a : Int)
  | 0, a, ha => fun d1 d7 d8 => by
    have h8 := hp0.2.2.2.2.1
    have hI := hp0.2.2.2.2.2
    have b0 := sumN_le (f := fun a => p (ix 0 a (u a))) (b := 8) (n := a) (fun j hj => by have := (hI 0 j (by omega) (by omega) (u j) (hp2 j (by omega))).2.2.1; omega)
    have b1 := sumN_le (f := fun a => p (ix 1 (u a) a)) (b := 8) (n := a) (fun j hj => by have := (hI 1 (u j) (by omega) (hp2 j (by omega)) j (by omega)).2.2.1; omega)
    have ha : a = n := by omega
    subst ha
    refine rg_R_costOf_20 (n := a) (w := w) (p := p) (u := u) (v := u) (And.intro (fun _ => ?_) (fun h => absurd h (by rw [hp0.1]; omega))) d1 d7 d8
    unfold csF at hK
    refine And.intro (fun h0 => And.intro (fun h1 => And.intro (fun h2 => And.intro (fun h3 => ?_) (fun h3 => ?_)) (fun h2 => ?_)) (fun h1 => ?_)) (fun h0 => ?_)
    · rw [if_neg h0, if_neg h1, if_neg h2, if_neg h3] at hK; exact hK
    · rw [if_neg h0, if_neg h1, if_neg h2, if_pos (Classical.not_not.mp h3)] at hK
      refine And.intro ?_ (And.intro ?_ hK)
      · unfold cs0 cs1 qm_R; omega
      · unfold cs0 cs1 qm_R; omega
    · rw [if_neg h0, if_neg h1, if_pos (Classical.not_not.mp h2)] at hK
      refine And.intro ?_ hK
      unfold cs0 cs1 qm_R; omega
    · rw [if_neg h0, if_pos (Classical.not_not.mp h1)] at hK; exact hK
    · rw [if_pos (Classical.not_not.mp h0)] at hK; exact hK
  | j + 1, a, ha => fun d1 d7 d8 => by
    have h8 := hp0.2.2.2.2.1
    have hI := hp0.2.2.2.2.2
    have b0 := sumN_le (f := fun a => p (ix 0 a (u a))) (b := 8) (n := a) (fun j hj => by have := (hI 0 j (by omega) (by omega) (u j) (hp2 j (by omega))).2.2.1; omega)
    have b1 := sumN_le (f := fun a => p (ix 1 (u a) a)) (b := 8) (n := a) (fun j hj => by have := (hI 1 (u j) (by omega) (hp2 j (by omega)) j (by omega)).2.2.1; omega)
    have hu := hp2 a (by omega)
    have c0 := (hI 0 a (by omega) (by omega) (u a) hu).2.2.1
    have c1 := (hI 1 (u a) (by omega) hu a (by omega)).2.2.1
    refine rg_R_costOf_20 (n := n) (w := w) (p := p) (u := u) (v := u) (And.intro (fun h => absurd h (by rw [hp0.1]; omega)) (fun _ => And.intro (by omega) (And.intro (by omega) ?_))) d1 d7 d8
    intro y3 e3
    rw [Int.toNat_natCast, hu8 a (by omega)] at e3
    refine And.intro (by omega) ?_
    intro y4 e4
    rw [e3, show (64 * 0 + 8 * (a : Int) + (u a : Int)) = 64 * ((0 : Nat) : Int) + 8 * (a : Int) + (u a : Int) by omega, rPl hp0 (by omega) (by omega) hu] at e4
    refine And.intro (by omega) (And.intro (by omega) ?_)
    intro y5 e5
    rw [Int.toNat_natCast, hu8 a (by omega)] at e5
    refine And.intro (by omega) ?_
    intro y6 e6
    rw [e5, show (64 * 1 + 8 * (u a : Int) + (a : Int)) = 64 * ((1 : Nat) : Int) + 8 * (u a : Int) + (a : Int) by omega, rPl hp0 (by omega) hu (by omega)] at e6
    rw [e4, e6]
    have hm : (max (csm a p u : Int) (max (p (ix 0 a (u a)) : Int) (p (ix 1 (u a) a) : Int))) = ((csm (a + 1) p u : Nat) : Int) := by
      show _ = ((max (csm a p u) (max (p (ix 0 a (u a))) (p (ix 1 (u a) a))) : Nat) : Int)
      omega
    rw [hm]
    refine And.intro ?_ (And.intro ?_ (And.intro (by unfold qm_R; omega) ?_))
    · unfold cs0 qm_R; omega
    · unfold cs1 qm_R; omega
    · exact lp_R_costOf hp0 hu8 hp2 hK j (a + 1) (by omega)
theorem s_R_costOf  {n : Nat} {w p : Nat → Nat} {d : Nat} {K : qm_K} {M : qm_M} {m : Int} {c : Int} (hp0 : qMR M n w p ∧ rKn M n w p) (hp1 : 0 ≤ (m : Int) ∧ (m : Int) < (cN n w p : Int)) (hK : ∀ (r : Int) (M2 : qm_M), (r = csF n p (mU n w p (bS (cE n w p (Int.toNat m)))) c ∧ ∀ c, c ≠ 86 → M2 c = M c) → K (.inl r) (qL qLM) M2) : qm_Runs qm_P (d + 3) 192 [(.inr (some 71)), (.inl m), (.inl c)] (qL qLM) M K := by
  have hI := hp0.1.2.2.2
  have hs := cE_spec (n := n) (w := w) (p := p) (m := m.toNat) (by omega)
  refine en_R_costOf (n := n) (w := w) (p := p) (u := p) (v := p) (And.intro hp0 (And.intro hp1 (And.intro ⟨by decide, by decide, by decide, by decide, by decide, by decide⟩ ?_)))
  intro M2 q2
  exact lp_R_costOf (M := M2) (qMR_mem hp0.1 (by rw [q2.2 71 (by decide)]) (q2.2 _ (by decide)) (q2.2 _ (by decide))) q2.1 (fun a ha => (m_inv hI hs.2.1 ha).1) (hK _ M2 ⟨rfl, q2.2⟩) n 0 (by omega)
