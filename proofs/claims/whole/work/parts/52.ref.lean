def hnBad (n : Nat) (l r : Int) : Prop := l < 0 ∨ (n : Int) ≤ l ∨ (r ≠ -1 ∧ (r < 0 ∨ (n : Int) ≤ r))
noncomputable def anHand (n : Nat) (u : Nat → Nat) (l r : Int) : Int := @ite Int (hnBad n l r) (Classical.propDecidable _) (-1) (mz (u l.toNat))
noncomputable def hnP (n : Nat) (u v : Nat → Nat) (l r : Int) : (Nat → Nat) × (Nat → Nat) := @ite _ (hnBad n l r) (Classical.propDecidable _) (u, v) (if r < 0 then pmPartL u v l.toNat else pmJoin u v l.toNat r.toNat)
theorem en_R_hand  {n : Nat} {u v : Nat → Nat} {d : Nat} {K : qm_K} {M : qm_M} {l : Int} {b : Int} (h :
    (1 ≤ M 71 0 ∧ M 71 0 ≤ 8) ∧
    ((0 ≤ l ∧ l < M 71 0) →
     (b = (-1) →
      0 ≤ l ∧ l < 8 ∧
      ∀ (y1 : Int), y1 = (M 79 (Int.toNat l)) →
      (0 ≤ b →
       (M 71 0 = (n : Int) ∧ qHa M 79 n u ∧ qPm n u v ∧ n ≤ 8 ∧ 8 ≤ (8 : Nat)) ∧
       (0 ≤ (l : Int) ∧ (l : Int) < (n : Int) ∧ 0 ≤ (b : Int) ∧ (b : Int) < (n : Int)) ∧
       (∀ (M3 : qm_M), (qHa M3 79 n (pmJoin u v (Int.toNat l) (Int.toNat b)).1 ∧ ∀ c, c ≠ 79 → M3 c = M c) →
        K (.inl y1) (qL qLM) M3)) ∧
      (¬ 0 ≤ b →
       0 ≤ l ∧ l < 8 ∧
       ∀ (M4 : qm_M), M4 = (qm_u M 79 (Int.toNat l) (-2)) →
       K (.inl y1) (qL qLM) M4)) ∧
     (¬ b = (-1) →
      (1 ≤ M 71 0 ∧ M 71 0 ≤ 8) ∧
      ((0 ≤ b ∧ b < M 71 0) →
       0 ≤ l ∧ l < 8 ∧
       ∀ (y5 : Int), y5 = (M 79 (Int.toNat l)) →
       (0 ≤ b →
        (M 71 0 = (n : Int) ∧ qHa M 79 n u ∧ qPm n u v ∧ n ≤ 8 ∧ 8 ≤ (8 : Nat)) ∧
        (0 ≤ (l : Int) ∧ (l : Int) < (n : Int) ∧ 0 ≤ (b : Int) ∧ (b : Int) < (n : Int)) ∧
        (∀ (M7 : qm_M), (qHa M7 79 n (pmJoin u v (Int.toNat l) (Int.toNat b)).1 ∧ ∀ c, c ≠ 79 → M7 c = M c) →
         K (.inl y5) (qL qLM) M7)) ∧
       (¬ 0 ≤ b →
        0 ≤ l ∧ l < 8 ∧
        ∀ (M8 : qm_M), M8 = (qm_u M 79 (Int.toNat l) (-2)) →
        K (.inl y5) (qL qLM) M8)) ∧
      (¬ (0 ≤ b ∧ b < M 71 0) →
       K (.inl ((-1))) (qL qLM) M))) ∧
    (¬ (0 ≤ l ∧ l < M 71 0) →
     K (.inl ((-1))) (qL qLM) M)) : qm_Runs qm_P (d + 3) 206 [(.inr (some 71)), (.inl l), (.inl b)] (qL qLM) M K :=
  And.intro (Nat.le_of_ble_eq_true rfl) (show qm_TT qi_206 (qm_Runs qm_P (d + 2)) K 0 [some (.inr (some 71)), some (.inl l), some (.inl b), none] [] (qL qLM) M 0 0 from qm_wp_TT [] 29 (And.intro (lo_71 ()) (s_R_isOne (d := d + 0)  (h.1) (And.intro (fun q9 => (h.2.2 (qm_b0 q9))) (fun q10 => And.intro (fun q11 => Exists.intro 79 (And.intro (lf_71_11 ()) (Exists.intro 8 (And.intro (la_79 ()) (And.intro ((h.2.1 (qm_b1 q10)).1 q11).1 (And.intro ((h.2.1 (qm_b1 q10)).1 q11).2.1 (And.intro (fun q13 => Exists.intro 79 (And.intro (lf_71_11 ()) (And.intro (lo_71 ()) (s_R_gives (d := d + 0) (And.intro (la_79 ()) (by decide)) (((((h.2.1 (qm_b1 q10)).1 q11).2.2 _ rfl).1 q13).1) (((((h.2.1 (qm_b1 q10)).1 q11).2.2 _ rfl).1 q13).2.1) (fun M3 p15 => (((((h.2.1 (qm_b1 q10)).1 q11).2.2 _ rfl).1 q13).2.2 M3 p15)))))) (fun q14 => Exists.intro 79 (And.intro (lf_71_11 ()) (Exists.intro 8 (And.intro (la_79 ()) (And.intro ((((h.2.1 (qm_b1 q10)).1 q11).2.2 _ rfl).2 q14).1 (And.intro ((((h.2.1 (qm_b1 q10)).1 q11).2.2 _ rfl).2 q14).2.1 ((((((h.2.1 (qm_b1 q10)).1 q11).2.2 _ rfl).2 q14).2.2 _ rfl))))))))))))))) (fun q12 => And.intro (lo_71 ()) (s_R_isOne (d := d + 0)  (((h.2.1 (qm_b1 q10)).2 q12).1) (And.intro (fun q16 => Exists.intro 79 (And.intro (lf_71_11 ()) (Exists.intro 8 (And.intro (la_79 ()) (And.intro (((h.2.1 (qm_b1 q10)).2 q12).2.1 (qm_b1 q16)).1 (And.intro (((h.2.1 (qm_b1 q10)).2 q12).2.1 (qm_b1 q16)).2.1 (And.intro (fun q18 => Exists.intro 79 (And.intro (lf_71_11 ()) (And.intro (lo_71 ()) (s_R_gives (d := d + 0) (And.intro (la_79 ()) (by decide)) ((((((h.2.1 (qm_b1 q10)).2 q12).2.1 (qm_b1 q16)).2.2 _ rfl).1 q18).1) ((((((h.2.1 (qm_b1 q10)).2 q12).2.1 (qm_b1 q16)).2.2 _ rfl).1 q18).2.1) (fun M7 p20 => ((((((h.2.1 (qm_b1 q10)).2 q12).2.1 (qm_b1 q16)).2.2 _ rfl).1 q18).2.2 M7 p20)))))) (fun q19 => Exists.intro 79 (And.intro (lf_71_11 ()) (Exists.intro 8 (And.intro (la_79 ()) (And.intro (((((h.2.1 (qm_b1 q10)).2 q12).2.1 (qm_b1 q16)).2.2 _ rfl).2 q19).1 (And.intro (((((h.2.1 (qm_b1 q10)).2 q12).2.1 (qm_b1 q16)).2.2 _ rfl).2 q19).2.1 (((((((h.2.1 (qm_b1 q10)).2 q12).2.1 (qm_b1 q16)).2.2 _ rfl).2 q19).2.2 _ rfl))))))))))))))) (fun q17 => (((h.2.1 (qm_b1 q10)).2 q12).2.2 (qm_b2 q17)))))))))))
theorem s_R_hand  {n : Nat} {u v : Nat → Nat} {d : Nat} {K : qm_K} {M : qm_M} {l : Int} {b : Int} (hp0 : M 71 0 = (n : Int) ∧ 1 ≤ n ∧ n ≤ 8 ∧ qHa M 79 n u ∧ qPm n u v) (hK : ∀ (r : Int) (M2 : qm_M), (r = anHand n u l b ∧ qHa M2 79 n (hnP n u v l b).1 ∧ ∀ c, c ≠ 79 → M2 c = M c) → K (.inl r) (qL qLM) M2) : qm_Runs qm_P (d + 3) 206 [(.inr (some 71)), (.inl l), (.inl b)] (qL qLM) M K := by
  obtain ⟨h0, h1, h8, hu, hpm⟩ := hp0
  have bad : hnBad n l b → K (.inl (-1)) (qL qLM) M := fun h => hK _ M ⟨by unfold anHand; rw [if_pos h], by unfold hnP; rw [if_pos h]; exact hu, fun _ _ => rfl⟩
  refine en_R_hand (n := n) (u := u) (v := v) ?_
  rw [h0]
  have join : ∀ M3 : qm_M, 0 ≤ l → l < (n : Int) → 0 ≤ b → b < (n : Int) → (qHa M3 79 n (pmJoin u v (Int.toNat l) (Int.toNat b)).1 ∧ ∀ c, c ≠ 79 → M3 c = M c) → ∀ y, y = M 79 (Int.toNat l) → K (.inl y) (qL qLM) M3 := fun M3 g1 g2 g3 g4 q y hy => by
    have hbb : ¬ hnBad n l b := by unfold hnBad; omega
    exact hK y M3 ⟨by unfold anHand; rw [if_neg hbb, hy]; exact hu _ (by omega), by unfold hnP; rw [if_neg hbb, if_neg (by omega)]; exact q.1, q.2⟩
  refine And.intro (by omega) (And.intro (fun h => And.intro (fun h2 => And.intro (by omega) (And.intro (by omega) ?_)) (fun h2 => And.intro (by omega) (And.intro (fun h3 => And.intro (by omega) (And.intro (by omega) ?_)) (fun h3 => bad (by unfold hnBad; omega))))) (fun h => bad (by unfold hnBad; omega)))
  · intro y1 e1
    refine And.intro (fun h3 => absurd h3 (by omega)) (fun _ => And.intro (by omega) (And.intro (by omega) ?_))
    intro M4 e4
    have hbb : ¬ hnBad n l b := by unfold hnBad; omega
    refine hK y1 M4 ⟨by unfold anHand; rw [if_neg hbb, e1]; exact hu _ (by omega), ?_, fun c hc => by rw [e4, qu_cf hc]⟩
    unfold hnP
    rw [if_neg hbb, if_pos (by omega)]
    intro x hx
    show M4 79 x = mz (updF u l.toNat 9 x)
    unfold updF
    rw [e4]
    by_cases hxl : x = l.toNat
    · rw [hxl, qu_s, if_pos rfl]; rfl
    · rw [qu_k hxl, if_neg hxl]; exact hu x hx
  · intro y5 e5
    refine And.intro (fun h4 => And.intro ⟨rfl, hu, hpm, h8, by decide⟩ (And.intro (by omega) ?_)) (fun h4 => absurd h3.1 h4)
    intro M7 q7
    exact join M7 (by omega) (by omega) (by omega) (by omega) q7 y5 e5
