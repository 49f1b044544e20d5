/-! what the calls on turns and matches answer -/
noncomputable def anRounds (n : Nat) (w p : Nat → Nat) (t : Int) : Int := if t < -1 then -1 else if t < 0 then (rT n w p : Int) else if t < (rT n w p : Int) then (rlen n w p t.toNat : Int) else -2
noncomputable def anPair (n : Nat) (w p : Nat → Nat) (t k : Int) : Int := if t < 0 ∨ k < 0 then -1 else if t < (rT n w p : Int) ∧ k < (rlen n w p t.toNat : Int) then (rPk n w p t.toNat k.toNat : Int) else -2
noncomputable def anAhead (n : Nat) (w p : Nat → Nat) (t : Int) : Int := if t < 0 then -1 else if t < (rT n w p : Int) then (rnd n w p t.toNat : Int) else -2
noncomputable def anOf (n : Nat) (w p : Nat → Nat) (t k : Int) : Int := if t < 0 ∨ k < 0 ∨ 1 < k then -1 else if t < (rT n w p : Int) then (if k = 0 then (rdp n w p t.toNat : Int) else 1000 + rgn n w p t.toNat) else -2
noncomputable def anMatch (n : Nat) (w p : Nat → Nat) (m : Int) : Int := if m < -1 then -1 else if m < 0 then (cN n w p : Int) else if m < (cN n w p : Int) then (cE n w p m.toNat : Int) else -2
theorem en_R_rounds  {n : Nat} {w p : Nat → Nat} {d : Nat} {K : qm_K} {M : qm_M} {t : Int} (h :
    ((-1) ≤ t →
     (qMR M n w p) ∧
     (M 71 35 ≠ 0 → rKn M n w p) ∧
     (∀ (M2 : qm_M), (rKn M2 n w p ∧ M2 71 35 ≠ 0 ∧ kF M2 M) →
      (0 ≤ t →
       ((M2 71 31) ≤ t →
        K (.inl ((-2))) (qL qLM) M2) ∧
       (¬ (M2 71 31) ≤ t →
        0 ≤ t ∧ t < 28 ∧
        ∀ (y3 : Int), y3 = (M2 90 (Int.toNat t)) →
        K (.inl y3) (qL qLM) M2)) ∧
      (¬ 0 ≤ t →
       K (.inl ((M2 71 31))) (qL qLM) M2))) ∧
    (¬ (-1) ≤ t →
     K (.inl ((-1))) (qL qLM) M)) : qm_Runs qm_P (d + 8) 180 [(.inr (some 71)), (.inl t)] (qL qLM) M K :=
  And.intro (Nat.le_of_ble_eq_true rfl) (show qm_TT qi_180 (qm_Runs qm_P (d + 7)) K 0 [some (.inr (some 71)), some (.inl t)] [] (qL qLM) M 0 0 from qm_wp_TT [] 20 (And.intro (fun q4 => And.intro (lo_71 ()) (s_R_knows (d := d + 0)  ((h.1 q4).1) ((h.1 q4).2.1) (fun M2 p6 => And.intro (fun q7 => And.intro (lf_71_31 ()) (And.intro (fun q9 => ((((h.1 q4).2.2 M2 p6).1 q7).1 q9)) (fun q10 => Exists.intro 90 (And.intro (lf_71_26 ()) (Exists.intro 28 (And.intro (la_90 ()) (And.intro ((((h.1 q4).2.2 M2 p6).1 q7).2 q10).1 (And.intro ((((h.1 q4).2.2 M2 p6).1 q7).2 q10).2.1 ((((((h.1 q4).2.2 M2 p6).1 q7).2 q10).2.2 _ rfl)))))))))) (fun q8 => And.intro (lf_71_31 ()) ((((h.1 q4).2.2 M2 p6).2 q8)))))) (fun q5 => (h.2 q5))))
theorem s_R_rounds  {n : Nat} {w p : Nat → Nat} {d : Nat} {K : qm_K} {M : qm_M} {t : Int} (hp0 : qMR M n w p) (hp1 : M 71 35 ≠ 0 → rKn M n w p) (hK : ∀ (r : Int) (M2 : qm_M), (r = anRounds n w p t ∧ (M2 71 35 ≠ 0 → rKn M2 n w p) ∧ mF M2 M) → K (.inl r) (qL qLM) M2) : qm_Runs qm_P (d + 8) 180 [(.inr (some 71)), (.inl t)] (qL qLM) M K := by
  refine en_R_rounds (n := n) (w := w) (p := p)  ?_
  have hI := hp0.2.2.2
  have h28 := (r_T hI).1
  have h4 := cN_le hI
  have self : mF M M := fun _ _ _ _ => rfl
  
  refine And.intro (fun h => And.intro hp0 (And.intro hp1 ?_)) (fun h => hK _ M ⟨by unfold anRounds; rw [if_pos (by omega)], hp1, self⟩)
  intro M2 q2
  have fin : ∀ r, r = anRounds n w p t → K (.inl r) (qL qLM) M2 := fun r hr => hK r M2 ⟨hr, fun _ => q2.1, mF_k q2.2.2⟩
  rw [q2.1.2.1.1]
  unfold anRounds at fin
  rw [if_neg (by omega)] at fin
  refine And.intro (fun h0 => And.intro (fun h1 => fin _ (by rw [if_neg (by omega), if_neg (by omega)])) (fun h1 => And.intro h0 (And.intro (by omega) ?_))) (fun h0 => fin _ (by rw [if_pos (by omega)]))
  intro y3 e3
  refine fin _ ?_
  rw [if_neg (by omega), if_pos (by omega), e3]
  exact (q2.1.2.1.2 t.toNat (by omega)).1
theorem en_R_pair  {n : Nat} {w p : Nat → Nat} {d : Nat} {K : qm_K} {M : qm_M} {t : Int} {k : Int} (h :
    (t < 0 →
     K (.inl ((-1))) (qL qLM) M) ∧
    (¬ t < 0 →
     (0 ≤ k →
      (qMR M n w p) ∧
      (M 71 35 ≠ 0 → rKn M n w p) ∧
      (∀ (M2 : qm_M), (rKn M2 n w p ∧ M2 71 35 ≠ 0 ∧ kF M2 M) →
       ((M2 71 31) ≤ t →
        K (.inl ((-2))) (qL qLM) M2) ∧
       (¬ (M2 71 31) ≤ t →
        0 ≤ t ∧ t < 28 ∧
        ∀ (y3 : Int), y3 = (M2 90 (Int.toNat t)) →
        (y3 ≤ k →
         K (.inl ((-2))) (qL qLM) M2) ∧
        (¬ y3 ≤ k →
         qm_R (8 * t) ∧
         qm_R ((8 * t) + k) ∧
         0 ≤ ((8 * t) + k) ∧ ((8 * t) + k) < 224 ∧
         ∀ (y4 : Int), y4 = (M2 89 (Int.toNat ((8 * t) + k))) →
         K (.inl y4) (qL qLM) M2)))) ∧
     (¬ 0 ≤ k →
      K (.inl ((-1))) (qL qLM) M))) : qm_Runs qm_P (d + 8) 181 [(.inr (some 71)), (.inl t), (.inl k)] (qL qLM) M K :=
  And.intro (Nat.le_of_ble_eq_true rfl) (show qm_TT qi_181 (qm_Runs qm_P (d + 7)) K 0 [some (.inr (some 71)), some (.inl t), some (.inl k)] [] (qL qLM) M 0 0 from qm_wp_TT [] 29 (And.intro (fun q5 => (h.1 q5)) (fun q6 => And.intro (fun q7 => And.intro (lo_71 ()) (s_R_knows (d := d + 0)  (((h.2 q6).1 q7).1) (((h.2 q6).1 q7).2.1) (fun M2 p9 => And.intro (lf_71_31 ()) (And.intro (fun q10 => ((((h.2 q6).1 q7).2.2 M2 p9).1 q10)) (fun q11 => Exists.intro 90 (And.intro (lf_71_26 ()) (Exists.intro 28 (And.intro (la_90 ()) (And.intro ((((h.2 q6).1 q7).2.2 M2 p9).2 q11).1 (And.intro ((((h.2 q6).1 q7).2.2 M2 p9).2 q11).2.1 (And.intro (fun q12 => ((((((h.2 q6).1 q7).2.2 M2 p9).2 q11).2.2 _ rfl).1 q12)) (fun q13 => Exists.intro 89 (And.intro (lf_71_25 ()) (And.intro ((((((h.2 q6).1 q7).2.2 M2 p9).2 q11).2.2 _ rfl).2 q13).1 (And.intro ((((((h.2 q6).1 q7).2.2 M2 p9).2 q11).2.2 _ rfl).2 q13).2.1 (Exists.intro 224 (And.intro (la_89 ()) (And.intro ((((((h.2 q6).1 q7).2.2 M2 p9).2 q11).2.2 _ rfl).2 q13).2.2.1 (And.intro ((((((h.2 q6).1 q7).2.2 M2 p9).2 q11).2.2 _ rfl).2 q13).2.2.2.1 ((((((((h.2 q6).1 q7).2.2 M2 p9).2 q11).2.2 _ rfl).2 q13).2.2.2.2 _ rfl))))))))))))))))))))) (fun q8 => ((h.2 q6).2 q8)))))
theorem s_R_pair  {n : Nat} {w p : Nat → Nat} {d : Nat} {K : qm_K} {M : qm_M} {t : Int} {k : Int} (hp0 : qMR M n w p) (hp1 : M 71 35 ≠ 0 → rKn M n w p) (hK : ∀ (r : Int) (M2 : qm_M), (r = anPair n w p t k ∧ (M2 71 35 ≠ 0 → rKn M2 n w p) ∧ mF M2 M) → K (.inl r) (qL qLM) M2) : qm_Runs qm_P (d + 8) 181 [(.inr (some 71)), (.inl t), (.inl k)] (qL qLM) M K := by
  refine en_R_pair (n := n) (w := w) (p := p)  ?_
  have hI := hp0.2.2.2
  have h28 := (r_T hI).1
  have h4 := cN_le hI
  have self : mF M M := fun _ _ _ _ => rfl
  
  refine And.intro (fun h => hK _ M ⟨by unfold anPair; rw [if_pos (by omega)], hp1, self⟩) (fun h => And.intro (fun h2 => And.intro hp0 (And.intro hp1 ?_)) (fun h2 => hK _ M ⟨by unfold anPair; rw [if_pos (by omega)], hp1, self⟩))
  intro M2 q2
  have fin : ∀ r, r = anPair n w p t k → K (.inl r) (qL qLM) M2 := fun r hr => hK r M2 ⟨hr, fun _ => q2.1, mF_k q2.2.2⟩
  rw [q2.1.2.1.1]
  unfold anPair at fin
  rw [if_neg (by omega)] at fin
  refine And.intro (fun h1 => fin _ (by rw [if_neg (by omega)])) (fun h1 => And.intro (by omega) (And.intro (by omega) ?_))
  intro y3 e3
  have hT := q2.1.2.1.2 t.toNat (by omega)
  have hl := rlen_ok hI (T_lt hI (show t.toNat < rT n w p by omega)).2
  have h8 := hI.2.1
  rw [hT.1] at e3
  refine And.intro (fun h3 => fin _ (by rw [if_neg (by omega)])) (fun h3 => And.intro (by unfold qm_R; omega) (And.intro (by unfold qm_R; omega) (And.intro (by omega) (And.intro (by omega) ?_))))
  intro y4 e4
  refine fin _ ?_
  rw [if_pos (by omega), e4, ← hT.2 k.toNat (by omega)]
  congr 1
  omega
theorem en_R_ahead  {n : Nat} {w p : Nat → Nat} {d : Nat} {K : qm_K} {M : qm_M} {t : Int} (h :
    (0 ≤ t →
     (qMR M n w p) ∧
     (M 71 35 ≠ 0 → rKn M n w p) ∧
     (∀ (M2 : qm_M), (rKn M2 n w p ∧ M2 71 35 ≠ 0 ∧ kF M2 M) →
      ((M2 71 31) ≤ t →
       K (.inl ((-2))) (qL qLM) M2) ∧
      (¬ (M2 71 31) ≤ t →
       0 ≤ t ∧ t < 28 ∧
       ∀ (y3 : Int), y3 = (M2 91 (Int.toNat t)) →
       K (.inl y3) (qL qLM) M2))) ∧
    (¬ 0 ≤ t →
     K (.inl ((-1))) (qL qLM) M)) : qm_Runs qm_P (d + 8) 182 [(.inr (some 71)), (.inl t)] (qL qLM) M K :=
  And.intro (Nat.le_of_ble_eq_true rfl) (show qm_TT qi_182 (qm_Runs qm_P (d + 7)) K 0 [some (.inr (some 71)), some (.inl t)] [] (qL qLM) M 0 0 from qm_wp_TT [] 17 (And.intro (fun q4 => And.intro (lo_71 ()) (s_R_knows (d := d + 0)  ((h.1 q4).1) ((h.1 q4).2.1) (fun M2 p6 => And.intro (lf_71_31 ()) (And.intro (fun q7 => (((h.1 q4).2.2 M2 p6).1 q7)) (fun q8 => Exists.intro 91 (And.intro (lf_71_27 ()) (Exists.intro 28 (And.intro (la_91 ()) (And.intro (((h.1 q4).2.2 M2 p6).2 q8).1 (And.intro (((h.1 q4).2.2 M2 p6).2 q8).2.1 (((((h.1 q4).2.2 M2 p6).2 q8).2.2 _ rfl)))))))))))) (fun q5 => (h.2 q5))))
theorem s_R_ahead  {n : Nat} {w p : Nat → Nat} {d : Nat} {K : qm_K} {M : qm_M} {t : Int} (hp0 : qMR M n w p) (hp1 : M 71 35 ≠ 0 → rKn M n w p) (hK : ∀ (r : Int) (M2 : qm_M), (r = anAhead n w p t ∧ (M2 71 35 ≠ 0 → rKn M2 n w p) ∧ mF M2 M) → K (.inl r) (qL qLM) M2) : qm_Runs qm_P (d + 8) 182 [(.inr (some 71)), (.inl t)] (qL qLM) M K := by
  refine en_R_ahead (n := n) (w := w) (p := p)  ?_
  have hI := hp0.2.2.2
  have h28 := (r_T hI).1
  have h4 := cN_le hI
  have self : mF M M := fun _ _ _ _ => rfl
  
  refine And.intro (fun h => And.intro hp0 (And.intro hp1 ?_)) (fun h => hK _ M ⟨by unfold anAhead; rw [if_pos (by omega)], hp1, self⟩)
  intro M2 q2
  have fin : ∀ r, r = anAhead n w p t → K (.inl r) (qL qLM) M2 := fun r hr => hK r M2 ⟨hr, fun _ => q2.1, mF_k q2.2.2⟩
  rw [q2.1.2.1.1]
  unfold anAhead at fin
  rw [if_neg (by omega)] at fin
  refine And.intro (fun h1 => fin _ (by rw [if_neg (by omega)])) (fun h1 => And.intro h (And.intro (by omega) ?_))
  intro y3 e3
  refine fin _ ?_
  rw [if_pos (by omega), e3]
  exact (q2.1.2.2.1 t.toNat (by omega)).1
theorem en_R_of  {n i : Nat} {w p : Nat → Nat} {d : Nat} {K : qm_K} {M : qm_M} {t : Int} {k : Int} (h :
    (t < 0 →
     K (.inl ((-1))) (qL qLM) M) ∧
    (¬ t < 0 →
     ((0 ≤ k ∧ k ≤ 1) →
      (qMR M n w p) ∧
      (M 71 35 ≠ 0 → rKn M n w p) ∧
      (∀ (M2 : qm_M), (rKn M2 n w p ∧ M2 71 35 ≠ 0 ∧ kF M2 M) →
       (t < (M2 71 31) →
        (k ≠ 0 →
         (qMR M2 n w p) ∧
         (i < rT n w p ∧ t = (i : Int) ∧ qRt M2 n w p i) ∧
         ∀ (y3 : Int), y3 = (rgn n w p i) →
         qm_R (1000 + y3) ∧
         K (.inl ((1000 + y3))) (qL qLM) M2) ∧
        (¬ k ≠ 0 →
         0 ≤ t ∧ t < 28 ∧
         ∀ (y4 : Int), y4 = (M2 92 (Int.toNat t)) →
         K (.inl y4) (qL qLM) M2)) ∧
       (¬ t < (M2 71 31) →
        K (.inl ((-2))) (qL qLM) M2))) ∧
     (¬ (0 ≤ k ∧ k ≤ 1) →
      K (.inl ((-1))) (qL qLM) M))) : qm_Runs qm_P (d + 8) 184 [(.inr (some 71)), (.inl t), (.inl k)] (qL qLM) M K :=
  And.intro (Nat.le_of_ble_eq_true rfl) (show qm_TT qi_184 (qm_Runs qm_P (d + 7)) K 0 [some (.inr (some 71)), some (.inl t), some (.inl k)] [] (qL qLM) M 0 0 from qm_wp_TT [] 24 (And.intro (fun q5 => (h.1 q5)) (fun q6 => And.intro True.intro (s_R_isIn (d := d + 6)   (And.intro (fun q7 => And.intro (lo_71 ()) (s_R_knows (d := d + 0)  (((h.2 q6).1 (qm_b1 q7)).1) (((h.2 q6).1 (qm_b1 q7)).2.1) (fun M2 p9 => And.intro (lf_71_31 ()) (And.intro (fun q10 => And.intro (fun q12 => And.intro (lo_71 ()) (s_R_gain (d := d + 4)  ((((((h.2 q6).1 (qm_b1 q7)).2.2 M2 p9).1 q10).1 q12).1) ((((((h.2 q6).1 (qm_b1 q7)).2.2 M2 p9).1 q10).1 q12).2.1) (And.intro ((((((h.2 q6).1 (qm_b1 q7)).2.2 M2 p9).1 q10).1 q12).2.2 _ rfl).1 (((((((h.2 q6).1 (qm_b1 q7)).2.2 M2 p9).1 q10).1 q12).2.2 _ rfl).2)))) (fun q13 => Exists.intro 92 (And.intro (lf_71_28 ()) (Exists.intro 28 (And.intro (la_92 ()) (And.intro (((((h.2 q6).1 (qm_b1 q7)).2.2 M2 p9).1 q10).2 q13).1 (And.intro (((((h.2 q6).1 (qm_b1 q7)).2.2 M2 p9).1 q10).2 q13).2.1 (((((((h.2 q6).1 (qm_b1 q7)).2.2 M2 p9).1 q10).2 q13).2.2 _ rfl))))))))) (fun q11 => ((((h.2 q6).1 (qm_b1 q7)).2.2 M2 p9).2 q11)))))) (fun q8 => ((h.2 q6).2 (qm_b2 q8))))))))
theorem s_R_of  {n : Nat} {w p : Nat → Nat} {d : Nat} {K : qm_K} {M : qm_M} {t : Int} {k : Int} (hp0 : qMR M n w p) (hp1 : M 71 35 ≠ 0 → rKn M n w p) (hK : ∀ (r : Int) (M2 : qm_M), (r = anOf n w p t k ∧ (M2 71 35 ≠ 0 → rKn M2 n w p) ∧ mF M2 M) → K (.inl r) (qL qLM) M2) : qm_Runs qm_P (d + 8) 184 [(.inr (some 71)), (.inl t), (.inl k)] (qL qLM) M K := by
  have hI := hp0.2.2.2
  have h28 := (r_T hI).1
  have self : mF M M := fun _ _ _ _ => rfl
  refine en_R_of (n := n) (i := t.toNat) (w := w) (p := p) (And.intro (fun h => hK _ M ⟨by unfold anOf; rw [if_pos (by omega)], hp1, self⟩) (fun h => And.intro (fun h2 => And.intro hp0 (And.intro hp1 ?_)) (fun h2 => hK _ M ⟨by unfold anOf; rw [if_pos (by omega)], hp1, self⟩)))
  intro M2 q2
  have fin : ∀ r, r = anOf n w p t k → K (.inl r) (qL qLM) M2 := fun r hr => hK r M2 ⟨hr, fun _ => q2.1, mF_k q2.2.2⟩
  rw [q2.1.2.1.1]
  unfold anOf at fin
  rw [if_neg (by omega)] at fin
  refine And.intro (fun h1 => And.intro (fun h3 => And.intro (kF_MR hp0 q2.2.2) (And.intro ⟨by omega, by omega, q2.1.2.1.2 _ (by omega)⟩ ?_)) (fun h3 => And.intro (by omega) (And.intro (by omega) ?_))) (fun h1 => fin _ (by rw [if_neg (by omega)]))
  · intro y3 e3
    have := rgn_le hI (T_lt hI (show t.toNat < rT n w p by omega)).2
    refine And.intro (by unfold qm_R; omega) (fin _ ?_)
    rw [if_pos (by omega), if_neg h3, e3]
  · intro y4 e4
    refine fin _ ?_
    rw [if_pos (by omega), if_pos (by omega), e4]
    exact (q2.1.2.2.1 t.toNat (by omega)).2
theorem en_R_match  {n : Nat} {w p : Nat → Nat} {d : Nat} {K : qm_K} {M : qm_M} {t : Int} (h :
    ((-1) ≤ t →
     (qMR M n w p) ∧
     (M 71 35 ≠ 0 → rKn M n w p) ∧
     (∀ (M2 : qm_M), (rKn M2 n w p ∧ M2 71 35 ≠ 0 ∧ kF M2 M) →
      (0 ≤ t →
       ((M2 71 34) ≤ t →
        K (.inl ((-2))) (qL qLM) M2) ∧
       (¬ (M2 71 34) ≤ t →
        0 ≤ t ∧ t < 4096 ∧
        ∀ (y3 : Int), y3 = (M2 95 (Int.toNat t)) →
        K (.inl y3) (qL qLM) M2)) ∧
      (¬ 0 ≤ t →
       K (.inl ((M2 71 34))) (qL qLM) M2))) ∧
    (¬ (-1) ≤ t →
     K (.inl ((-1))) (qL qLM) M)) : qm_Runs qm_P (d + 8) 190 [(.inr (some 71)), (.inl t)] (qL qLM) M K :=
  And.intro (Nat.le_of_ble_eq_true rfl) (show qm_TT qi_190 (qm_Runs qm_P (d + 7)) K 0 [some (.inr (some 71)), some (.inl t)] [] (qL qLM) M 0 0 from qm_wp_TT [] 20 (And.intro (fun q4 => And.intro (lo_71 ()) (s_R_knows (d := d + 0)  ((h.1 q4).1) ((h.1 q4).2.1) (fun M2 p6 => And.intro (fun q7 => And.intro (lf_71_34 ()) (And.intro (fun q9 => ((((h.1 q4).2.2 M2 p6).1 q7).1 q9)) (fun q10 => Exists.intro 95 (And.intro (lf_71_33 ()) (Exists.intro 4096 (And.intro (la_95 ()) (And.intro ((((h.1 q4).2.2 M2 p6).1 q7).2 q10).1 (And.intro ((((h.1 q4).2.2 M2 p6).1 q7).2 q10).2.1 ((((((h.1 q4).2.2 M2 p6).1 q7).2 q10).2.2 _ rfl)))))))))) (fun q8 => And.intro (lf_71_34 ()) ((((h.1 q4).2.2 M2 p6).2 q8)))))) (fun q5 => (h.2 q5))))
theorem s_R_match  {n : Nat} {w p : Nat → Nat} {d : Nat} {K : qm_K} {M : qm_M} {t : Int} (hp0 : qMR M n w p) (hp1 : M 71 35 ≠ 0 → rKn M n w p) (hK : ∀ (r : Int) (M2 : qm_M), (r = anMatch n w p t ∧ (M2 71 35 ≠ 0 → rKn M2 n w p) ∧ mF M2 M) → K (.inl r) (qL qLM) M2) : qm_Runs qm_P (d + 8) 190 [(.inr (some 71)), (.inl t)] (qL qLM) M K := by
  refine en_R_match (n := n) (w := w) (p := p)  ?_
  have hI := hp0.2.2.2
  have h28 := (r_T hI).1
  have h4 := cN_le hI
  have self : mF M M := fun _ _ _ _ => rfl
  
  refine And.intro (fun h => And.intro hp0 (And.intro hp1 ?_)) (fun h => hK _ M ⟨by unfold anMatch; rw [if_pos (by omega)], hp1, self⟩)
  intro M2 q2
  have fin : ∀ r, r = anMatch n w p t → K (.inl r) (qL qLM) M2 := fun r hr => hK r M2 ⟨hr, fun _ => q2.1, mF_k q2.2.2⟩
  rw [q2.1.2.2.2.1]
  unfold anMatch at fin
  rw [if_neg (by omega)] at fin
  refine And.intro (fun h0 => And.intro (fun h1 => fin _ (by rw [if_neg (by omega), if_neg (by omega)])) (fun h1 => And.intro h0 (And.intro (by omega) ?_))) (fun h0 => fin _ (by rw [if_pos (by omega)]))
  intro y3 e3
  refine fin _ ?_
  rw [if_neg (by omega), if_pos (by omega), e3]
  exact q2.1.2.2.2.2 t.toNat (by omega)
