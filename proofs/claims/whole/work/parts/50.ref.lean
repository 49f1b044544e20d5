noncomputable def anAsking (n : Nat) (w p : Nat → Nat) (s t : Int) : Int := if s < 0 ∨ 1 < s ∨ t < -1 then -1 else if t < 0 then (gN n w p s.toNat : Int) else if t < (gN n w p s.toNat : Int) then (gtold n w p s.toNat t.toNat : Int) else -2
theorem rGF_Kn {M M2 : qm_M} {n : Nat} {w p : Nat → Nat} (h : rKn M n w p) (hF : rGF M2 M) : rKn M2 n w p := by
  have e : ∀ c, c ≠ 71 → c ≠ 82 → c ≠ 83 → c ≠ 84 → M2 c = M c := fun c h1 h2 h3 h4 => funext fun x => hF c x h2 h3 h4 (Or.inl h1)
  exact rKn_keep h (e _ (by decide) (by decide) (by decide) (by decide)) (e _ (by decide) (by decide) (by decide) (by decide)) (e _ (by decide) (by decide) (by decide) (by decide)) (e _ (by decide) (by decide) (by decide) (by decide)) (e _ (by decide) (by decide) (by decide) (by decide)) (e _ (by decide) (by decide) (by decide) (by decide)) (hF 71 31 (by decide) (by decide) (by decide) (Or.inr (by decide))) (hF 71 34 (by decide) (by decide) (by decide) (Or.inr (by decide)))
theorem rGF_mF {M M2 : qm_M} (hF : rGF M2 M) : mF M2 M := fun c y q1 q2 => hF c y (by omega) (by omega) (by omega) (q2.imp id (fun q => q.1))
theorem en_R_asking  {n sg : Nat} {w p : Nat → Nat} {d : Nat} {K : qm_K} {M : qm_M} {s : Int} {t : Int} (h :
    ((0 ≤ s ∧ s ≤ 1) →
     ((-1) ≤ t →
      (qMR M n w p) ∧
      (sg < 2 ∧ s = (sg : Int)) ∧
      (∀ (M2 : qm_M), (rG M2 n w p sg (gN n w p sg) (gst n w p sg (gN n w p sg)).1 (gH n w p sg) ∧ rGF M2 M) →
       (0 ≤ t →
        ((M2 71 24) ≤ t →
         K (.inl ((-2))) (qL qLM) M2) ∧
        (¬ (M2 71 24) ≤ t →
         0 ≤ t ∧ t < 64 ∧
         ∀ (y3 : Int), y3 = (M2 82 (Int.toNat t)) →
         K (.inl y3) (qL qLM) M2)) ∧
       (¬ 0 ≤ t →
        K (.inl ((M2 71 24))) (qL qLM) M2))) ∧
     (¬ (-1) ≤ t →
      K (.inl ((-1))) (qL qLM) M)) ∧
    (¬ (0 ≤ s ∧ s ≤ 1) →
     K (.inl ((-1))) (qL qLM) M)) : qm_Runs qm_P (d + 5) 171 [(.inr (some 71)), (.inl s), (.inl t)] (qL qLM) M K :=
  And.intro (Nat.le_of_ble_eq_true rfl) (show qm_TT qi_171 (qm_Runs qm_P (d + 4)) K 0 [some (.inr (some 71)), some (.inl s), some (.inl t)] [] (qL qLM) M 0 0 from qm_wp_TT [] 26 (And.intro True.intro (s_R_isIn (d := d + 3)   (And.intro (fun q4 => (h.2 (qm_b0 q4))) (fun q5 => And.intro (fun q6 => And.intro (lo_71 ()) (s_R_asks (d := d + 0)  (((h.1 (qm_b1 q5)).1 q6).1) (((h.1 (qm_b1 q5)).1 q6).2.1) (fun M2 p8 => And.intro (fun q9 => And.intro (lf_71_24 ()) (And.intro (fun q11 => (((((h.1 (qm_b1 q5)).1 q6).2.2 M2 p8).1 q9).1 q11)) (fun q12 => Exists.intro 82 (And.intro (lf_71_17 ()) (Exists.intro 64 (And.intro (la_82 ()) (And.intro (((((h.1 (qm_b1 q5)).1 q6).2.2 M2 p8).1 q9).2 q12).1 (And.intro (((((h.1 (qm_b1 q5)).1 q6).2.2 M2 p8).1 q9).2 q12).2.1 (((((((h.1 (qm_b1 q5)).1 q6).2.2 M2 p8).1 q9).2 q12).2.2 _ rfl)))))))))) (fun q10 => And.intro (lf_71_24 ()) (((((h.1 (qm_b1 q5)).1 q6).2.2 M2 p8).2 q10)))))) (fun q7 => ((h.1 (qm_b1 q5)).2 q7)))))))
theorem s_R_asking  {n : Nat} {w p : Nat → Nat} {d : Nat} {K : qm_K} {M : qm_M} {s : Int} {t : Int} (hp0 : qMR M n w p) (hp1 : M 71 35 ≠ 0 → rKn M n w p) (hK : ∀ (r : Int) (M2 : qm_M), (r = anAsking n w p s t ∧ (M2 71 35 ≠ 0 → rKn M2 n w p) ∧ mF M2 M) → K (.inl r) (qL qLM) M2) : qm_Runs qm_P (d + 5) 171 [(.inr (some 71)), (.inl s), (.inl t)] (qL qLM) M K := by
  have hI := hp0.2.2.2
  have self : mF M M := fun _ _ _ _ => rfl
  refine en_R_asking (n := n) (sg := s.toNat) (w := w) (p := p) (And.intro (fun h => And.intro (fun h2 => And.intro hp0 (And.intro ⟨by omega, by omega⟩ ?_)) (fun h2 => hK _ M ⟨by unfold anAsking; rw [if_pos (by omega)], hp1, self⟩)) (fun h => hK _ M ⟨by unfold anAsking; rw [if_pos (by omega)], hp1, self⟩))
  intro M2 q2
  have hN := gN_le hI (s := s.toNat) (by omega)
  have fin : ∀ r, r = anAsking n w p s t → K (.inl r) (qL qLM) M2 := fun r hr => hK r M2 ⟨hr, fun h5 => rGF_Kn (hp1 (by rw [← q2.2 71 35 (by decide) (by decide) (by decide) (Or.inr (by decide))]; exact h5)) q2.2, rGF_mF q2.2⟩
  unfold anAsking at fin
  rw [if_neg (by omega)] at fin
  rw [q2.1.2.2.1]
  refine And.intro (fun h3 => And.intro (fun h4 => fin _ (by rw [if_neg (by omega), if_neg (by omega)])) (fun h4 => And.intro h3 (And.intro (by omega) ?_))) (fun h3 => fin _ (by rw [if_pos (by omega)]))
  intro y3 e3
  refine fin _ ?_
  rw [if_neg (by omega), if_pos (by omega), e3]
  exact q2.1.2.2.2 t.toNat (by omega)
