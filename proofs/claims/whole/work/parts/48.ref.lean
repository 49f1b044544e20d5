noncomputable def csE (n : Nat) (w p : Nat → Nat) (c : Int) (m : Nat) : Int := csF n p (mU n w p (bS (cE n w p m))) c
noncomputable def anCost (n : Nat) (w p : Nat → Nat) (m c : Int) : Int := if m < 0 ∨ c < 0 ∨ 4 < c then -1 else if m < (cN n w p : Int) then csE n w p c m.toNat else -2
def pkI (f : Nat → Int) : Nat → Nat
  | 0 => 0
  | k + 1 => if f k < f (pkI f k) then k else pkI f k
theorem pkI_lt {f : Nat → Int} : ∀ {k : Nat}, 0 < k → pkI f k < k
  | 0, h => absurd h (Nat.lt_irrefl _)
  | k + 1, _ => by
    show (if f k < f (pkI f k) then k else pkI f k) < k + 1
    rcases Nat.eq_zero_or_pos k with rfl | h
    · split <;> exact Nat.zero_lt_one
    · have := pkI_lt (f := f) h
      split <;> omega
noncomputable def anPick (n : Nat) (w p : Nat → Nat) (c : Int) : Int := if c < 0 ∨ 4 < c then -1 else (pkI (csE n w p c) (cN n w p) : Int)
theorem cN_pos {n : Nat} {w p : Nat → Nat} : 0 < cN n w p := by
  have := (cE_of (n := n) (w := w) (p := p) cQ_0).2
  omega
theorem en_R_cost  {n : Nat} {w p : Nat → Nat} {d : Nat} {K : qm_K} {M : qm_M} {m : Int} {c : Int} (h :
    (m < 0 →
     K (.inl ((-1))) (qL qLM) M) ∧
    (¬ m < 0 →
     ((0 ≤ c ∧ c ≤ 4) →
      (qMR M n w p) ∧
      (M 71 35 ≠ 0 → rKn M n w p) ∧
      (∀ (r1 : Int) (M2 : qm_M), (r1 = qm_b (0 ≤ m ∧ m < (cN n w p : Int)) ∧ rKn M2 n w p ∧ M2 71 35 ≠ 0 ∧ kF M2 M) →
       (r1 = 0 →
        K (.inl ((-2))) (qL qLM) M2) ∧
       (¬ r1 = 0 →
        (qMR M2 n w p ∧ rKn M2 n w p) ∧
        (0 ≤ (m : Int) ∧ (m : Int) < (cN n w p : Int)) ∧
        (∀ (r3 : Int) (M4 : qm_M), (r3 = csF n p (mU n w p (bS (cE n w p (Int.toNat m)))) c ∧ ∀ c, c ≠ 86 → M4 c = M2 c) →
         K (.inl r3) (qL qLM) M4)))) ∧
     (¬ (0 ≤ c ∧ c ≤ 4) →
      K (.inl ((-1))) (qL qLM) M))) : qm_Runs qm_P (d + 9) 193 [(.inr (some 71)), (.inl m), (.inl c)] (qL qLM) M K :=
  And.intro (Nat.le_of_ble_eq_true rfl) (show qm_TT qi_193 (qm_Runs qm_P (d + 8)) K 0 [some (.inr (some 71)), some (.inl m), some (.inl c)] [] (qL qLM) M 0 0 from qm_wp_TT [] 20 (And.intro (fun q5 => (h.1 q5)) (fun q6 => And.intro True.intro (s_R_isIn (d := d + 7)   (And.intro (fun q7 => And.intro (lo_71 ()) (s_R_isMatch (d := d + 0)  (((h.2 q6).1 (qm_b1 q7)).1) (((h.2 q6).1 (qm_b1 q7)).2.1) (fun r1 M2 p9 => And.intro (fun q10 => ((((h.2 q6).1 (qm_b1 q7)).2.2 r1 M2 p9).1 q10)) (fun q11 => And.intro (lo_71 ()) (s_R_costOf (d := d + 5)  (((((h.2 q6).1 (qm_b1 q7)).2.2 r1 M2 p9).2 q11).1) (((((h.2 q6).1 (qm_b1 q7)).2.2 r1 M2 p9).2 q11).2.1) (fun r3 M4 p12 => (((((h.2 q6).1 (qm_b1 q7)).2.2 r1 M2 p9).2 q11).2.2 r3 M4 p12))))))) (fun q8 => ((h.2 q6).2 (qm_b2 q8))))))))
theorem s_R_cost  {n : Nat} {w p : Nat → Nat} {d : Nat} {K : qm_K} {M : qm_M} {m : Int} {c : Int} (hp0 : qMR M n w p) (hp1 : M 71 35 ≠ 0 → rKn M n w p) (hK : ∀ (r : Int) (M2 : qm_M), (r = anCost n w p m c ∧ (M2 71 35 ≠ 0 → rKn M2 n w p) ∧ mF M2 M) → K (.inl r) (qL qLM) M2) : qm_Runs qm_P (d + 9) 193 [(.inr (some 71)), (.inl m), (.inl c)] (qL qLM) M K := by
  refine en_R_cost (n := n) (w := w) (p := p)  ?_
  have self : mF M M := fun _ _ _ _ => rfl
  have bad : (m < 0 ∨ c < 0 ∨ 4 < c) → K (.inl (-1)) (qL qLM) M := fun h => hK _ M ⟨by unfold anCost; rw [if_pos h], hp1, self⟩
  refine And.intro (fun h => bad (by omega)) (fun h => And.intro (fun h2 => And.intro hp0 (And.intro hp1 ?_)) (fun h2 => bad (by omega)))
  intro r1 M2 q2
  refine And.intro (fun h4 => hK _ M2 ⟨?_, fun _ => q2.2.1, mF_k q2.2.2.2⟩) (fun h4 => And.intro ⟨kF_MR hp0 q2.2.2.2, q2.2.1⟩ ?_)
  · have : ¬ (0 ≤ m ∧ m < (cN n w p : Int)) := fun q => by rw [q2.1, qm_bt q] at h4; omega
    unfold anCost
    rw [if_neg (by omega), if_neg (by omega)]
  · have hm : 0 ≤ m ∧ m < (cN n w p : Int) := Classical.byContradiction fun q => h4 (by rw [q2.1, qm_bff q])
    refine And.intro hm ?_
    intro r3 M4 q4
    refine hK r3 M4 ⟨?_, fun _ => rKn_86 q2.2.1 q4.2, mF_trans (mF_k (kF_86 q4.2)) (mF_k q2.2.2.2)⟩
    unfold anCost
    rw [if_neg (by omega), if_pos hm.2]
    exact q4.1
def at_R_pick_19  (d : Nat) (K : qm_K) (M : qm_M) (x1 x2 x3 : Int) : Prop := qm_TT qi_194 (qm_Runs qm_P (d + 7)) K 19 [some (.inr (some 71)), some (.inl x1), some (.inl x2), some (.inl x3)] [] (qL qLM) M 0 0
theorem rg_R_pick_19  {n : Nat} {w p : Nat → Nat} {d : Nat} {K : qm_K} {M : qm_M} {x1 x2 x3 : Int} (h :
    ((M 71 34) ≤ x3 →
     K (.inl x2) (qL qLM) M) ∧
    (¬ (M 71 34) ≤ x3 →
     (qMR M n w p ∧ rKn M n w p) ∧
     (0 ≤ (x3 : Int) ∧ (x3 : Int) < (cN n w p : Int)) ∧
     (∀ (r3 : Int) (M4 : qm_M), (r3 = csF n p (mU n w p (bS (cE n w p (Int.toNat x3)))) x1 ∧ ∀ c, c ≠ 86 → M4 c = M c) →
      (qMR M4 n w p ∧ rKn M4 n w p) ∧
      (0 ≤ (x2 : Int) ∧ (x2 : Int) < (cN n w p : Int)) ∧
      (∀ (r5 : Int) (M6 : qm_M), (r5 = csF n p (mU n w p (bS (cE n w p (Int.toNat x2)))) x1 ∧ ∀ c, c ≠ 86 → M6 c = M4 c) →
       (r5 ≤ r3 →
        qm_R (x3 + 1) ∧
        at_R_pick_19  d K M6 x1 x2 ((x3 + 1))) ∧
       (¬ r5 ≤ r3 →
        qm_R (x3 + 1) ∧
        at_R_pick_19  d K M6 x1 x3 ((x3 + 1))))))) : at_R_pick_19  d K M x1 x2 x3 :=
  qm_wp_TT [19] 22 (And.intro (lf_71_34 ()) (And.intro (fun q7 => (h.1 q7)) (fun q8 => And.intro (lo_71 ()) (s_R_costOf (d := d + 4)  ((h.2 q8).1) ((h.2 q8).2.1) (fun r3 M4 p9 => And.intro (lo_71 ()) (s_R_costOf (d := d + 4)  (((h.2 q8).2.2 r3 M4 p9).1) (((h.2 q8).2.2 r3 M4 p9).2.1) (fun r5 M6 p10 => And.intro (fun q11 => And.intro ((((h.2 q8).2.2 r3 M4 p9).2.2 r5 M6 p10).1 q11).1 (((((h.2 q8).2.2 r3 M4 p9).2.2 r5 M6 p10).1 q11).2)) (fun q12 => And.intro ((((h.2 q8).2.2 r3 M4 p9).2.2 r5 M6 p10).2 q12).1 (((((h.2 q8).2.2 r3 M4 p9).2.2 r5 M6 p10).2 q12).2)))))))))
theorem en_R_pick  {n : Nat} {w p : Nat → Nat} {d : Nat} {K : qm_K} {M : qm_M} {c : Int} (h :
    ((0 ≤ c ∧ c ≤ 4) →
     (qMR M n w p) ∧
     (M 71 35 ≠ 0 → rKn M n w p) ∧
     (∀ (M2 : qm_M), (rKn M2 n w p ∧ M2 71 35 ≠ 0 ∧ kF M2 M) →
      at_R_pick_19  d K M2 c 0 1)) ∧
    (¬ (0 ≤ c ∧ c ≤ 4) →
     K (.inl ((-1))) (qL qLM) M)) : qm_Runs qm_P (d + 8) 194 [(.inr (some 71)), (.inl c)] (qL qLM) M K :=
  And.intro (Nat.le_of_ble_eq_true rfl) (show qm_TT qi_194 (qm_Runs qm_P (d + 7)) K 0 [some (.inr (some 71)), some (.inl c), none, none] [] (qL qLM) M 0 0 from qm_wp_TT [19] 22 (And.intro True.intro (s_R_isIn (d := d + 6)   (And.intro (fun q13 => And.intro (lo_71 ()) (s_R_knows (d := d + 0)  ((h.1 (qm_b1 q13)).1) ((h.1 (qm_b1 q13)).2.1) (fun M2 p15 => ((h.1 (qm_b1 q13)).2.2 M2 p15)))) (fun q14 => (h.2 (qm_b2 q14)))))))
theorem lp_R_pick {d : Nat} {K : qm_K} {M0 : qm_M} {n : Nat} {w p : Nat → Nat} {c : Int} (hMR : qMR M0 n w p) (hK : ∀ M2 : qm_M, (rKn M2 n w p ∧ mF M2 M0) → K (.inl (pkI (csE n w p c) (cN n w p) : Int)) (qL qLM) M2) : ∀ (j m : Nat) (M : qm_M), m + j = cN n w p → 0 < m → rKn M n w p → mF M M0 → at_R_pick_19 d K M c (pkI (csE n w p c) m : Int) (m : Int)
  | 0, m, M, hm, h0, hKn, hF => by
    have hm : m = cN n w p := by omega
    subst hm
    exact rg_R_pick_19 (n := n) (w := w) (p := p) (And.intro (fun _ => hK M ⟨hKn, hF⟩) (fun q => absurd q (by rw [hKn.2.2.2.1]; omega)))
  | j + 1, m, M, hm, h0, hKn, hF => by
    have h4 := cN_le hMR.2.2.2
    have m1 := mF_MR hMR hF
    have hp := pkI_lt (f := csE n w p c) h0
    refine rg_R_pick_19 (n := n) (w := w) (p := p) (And.intro (fun q => absurd q (by rw [hKn.2.2.2.1]; omega)) (fun _ => And.intro ⟨m1, hKn⟩ (And.intro ⟨by omega, by omega⟩ ?_)))
    intro r3 M4 q4
    rw [Int.toNat_natCast] at q4
    have f4 : mF M4 M0 := mF_trans (mF_k (kF_86 q4.2)) hF
    have k4 := rKn_86 hKn q4.2
    refine And.intro ⟨mF_MR hMR f4, k4⟩ (And.intro ⟨by omega, by omega⟩ ?_)
    intro r5 M6 q6
    rw [Int.toNat_natCast] at q6
    have f6 : mF M6 M0 := mF_trans (mF_k (kF_86 q6.2)) f4
    have k6 := rKn_86 k4 q6.2
    have hr : qm_R ((m : Int) + 1) := by unfold qm_R; omega
    have ih := lp_R_pick (d := d) hMR hK j (m + 1) M6 (by omega) (by omega) k6 f6
    have e3 : r3 = csE n w p c m := q4.1
    have e5 : r5 = csE n w p c (pkI (csE n w p c) m) := q6.1
    have e : pkI (csE n w p c) (m + 1) = if csE n w p c m < csE n w p c (pkI (csE n w p c) m) then m else pkI (csE n w p c) m := rfl
    rw [e] at ih
    refine And.intro (fun h => And.intro hr ?_) (fun h => And.intro hr ?_)
    · rw [if_neg (by omega)] at ih
      exact ih
    · rw [if_pos (by omega)] at ih
      exact ih
theorem s_R_pick  {n : Nat} {w p : Nat → Nat} {d : Nat} {K : qm_K} {M : qm_M} {c : Int} (hp0 : qMR M n w p) (hp1 : M 71 35 ≠ 0 → rKn M n w p) (hK : ∀ (r : Int) (M2 : qm_M), (r = anPick n w p c ∧ (M2 71 35 ≠ 0 → rKn M2 n w p) ∧ mF M2 M) → K (.inl r) (qL qLM) M2) : qm_Runs qm_P (d + 8) 194 [(.inr (some 71)), (.inl c)] (qL qLM) M K := by
  refine en_R_pick (n := n) (w := w) (p := p)  ?_
  have self : mF M M := fun _ _ _ _ => rfl
  refine And.intro (fun h => And.intro hp0 (And.intro hp1 ?_)) (fun h => hK _ M ⟨by unfold anPick; rw [if_pos (by omega)], hp1, self⟩)
  intro M2 q2
  have hpos := cN_pos (n := n) (w := w) (p := p)
  have h1 : pkI (csE n w p c) 1 = 0 := by have := pkI_lt (f := csE n w p c) Nat.zero_lt_one; omega
  have := lp_R_pick (d := d) (c := c) hp0 (fun M3 q3 => hK _ M3 ⟨by unfold anPick; rw [if_neg (by omega)], fun _ => q3.1, q3.2⟩) (cN n w p - 1) 1 M2 (by omega) Nat.zero_lt_one q2.1 (mF_k q2.2.2)
  rw [h1] at this
  exact this
