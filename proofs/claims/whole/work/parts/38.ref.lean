def at_R_firstExposed_7 (a N : Nat) (d : Nat) (K : qm_K) (M : qm_M) (x2 x3 : Int) : Prop := qm_TT qi_176 (qm_Runs qm_P (d + 4)) K 7 [some (.inr (some 71)), some (.inr (some a)), some (.inl x2), some (.inl x3)] [] (qL qLM) M 0 0
theorem rg_R_firstExposed_7 {a N : Nat} {n i tt : Nat} {w p u v : Nat → Nat} {d : Nat} {K : qm_K} {M : qm_M} {x2 x3 : Int} (hA : qArr (qL qLM) a N) (h :
    ((M 71 0) ≤ x3 →
     K (.inl ((-2))) (qL qLM) M) ∧
    (¬ (M 71 0) ≤ x3 →
     (qInv n w p ∧ M 71 0 = (n : Int) ∧ rNx M n w p u v) ∧
     (qAr M a n u ∧ qMt n u v ∧ 8 ≤ (N : Nat) ∧ a ≠ 94 ∧ a ≠ 71) ∧
     (i < n ∧ x3 = (i : Int)) ∧
     (∀ (r3 : Int) (M4 : qm_M), (r3 = qm_b (isF (fo n w p u v) i) ∧ (isF (fo n w p u v) i → rCy M4 (fo n w p u v) u i) ∧ ∀ c x, c ≠ 94 → c ≠ 71 ∨ x ≠ 32 → M4 c x = M c x) →
      (r3 = 0 →
       qm_R (x3 + 1) ∧
       at_R_firstExposed_7 a N d K M4 x2 ((x3 + 1))) ∧
      (¬ r3 = 0 →
       (qInv n w p ∧ qRp M4 n w p (rT n w p)) ∧
       (tt < rT n w p ∧ rCt M4 n w p tt) ∧
       ∀ (y5 : Int), y5 = (tt : Int) →
       (y5 = x2 →
        qm_R (x3 + 1) ∧
        at_R_firstExposed_7 a N d K M4 x2 ((x3 + 1))) ∧
       (¬ y5 = x2 →
        (qInv n w p ∧ qRp M4 n w p (rT n w p)) ∧
        (tt < rT n w p ∧ rCt M4 n w p tt) ∧
        ∀ (y6 : Int), y6 = (tt : Int) →
        K (.inl y6) (qL qLM) M4))))) : at_R_firstExposed_7 a N d K M x2 x3 :=
  qm_wp_TT [7] 19 (And.intro (lf_71_0 ()) (And.intro (fun q7 => (h.1 q7)) (fun q8 => And.intro (lo_71 ()) (s_R_isFirst (d := d + 2) hA ((h.2 q8).1) ((h.2 q8).2.1) ((h.2 q8).2.2.1) (fun r3 M4 p9 => And.intro (fun q10 => And.intro (((h.2 q8).2.2.2 r3 M4 p9).1 q10).1 ((((h.2 q8).2.2.2 r3 M4 p9).1 q10).2)) (fun q11 => And.intro (lo_71 ()) (s_R_numberOf (d := d + 3)  ((((h.2 q8).2.2.2 r3 M4 p9).2 q11).1) ((((h.2 q8).2.2.2 r3 M4 p9).2 q11).2.1) (And.intro (fun q12 => And.intro (((((h.2 q8).2.2.2 r3 M4 p9).2 q11).2.2 _ rfl).1 q12).1 ((((((h.2 q8).2.2.2 r3 M4 p9).2 q11).2.2 _ rfl).1 q12).2)) (fun q13 => And.intro (lo_71 ()) (s_R_numberOf (d := d + 3)  ((((((h.2 q8).2.2.2 r3 M4 p9).2 q11).2.2 _ rfl).2 q13).1) ((((((h.2 q8).2.2.2 r3 M4 p9).2 q11).2.2 _ rfl).2 q13).2.1) (((((((h.2 q8).2.2.2 r3 M4 p9).2 q11).2.2 _ rfl).2 q13).2.2 _ rfl))))))))))))
theorem en_R_firstExposed {a N : Nat} {n i tt : Nat} {w p u v : Nat → Nat} {d : Nat} {K : qm_K} {M : qm_M} {x : Int} (hA : qArr (qL qLM) a N) (h :
    (qMR M n w p) ∧
    (qAr M a n u ∧ qMt n u v ∧ 8 ≤ (N : Nat) ∧ a ≠ 93) ∧
    (∀ (M2 : qm_M), (rNx M2 n w p u v ∧ ∀ c, c ≠ 93 → M2 c = M c) →
     at_R_firstExposed_7 a N d K M2 x 0)) : qm_Runs qm_P (d + 5) 176 [(.inr (some 71)), (.inr (some a)), (.inl x)] (qL qLM) M K :=
  And.intro (Nat.le_of_ble_eq_true rfl) (show qm_TT qi_176 (qm_Runs qm_P (d + 4)) K 0 [some (.inr (some 71)), some (.inr (some a)), some (.inl x), none] [] (qL qLM) M 0 0 from qm_wp_TT [7] 19 (And.intro (lo_71 ()) (s_R_nexts (d := d + 0) hA (h.1) (h.2.1) (fun M2 p14 => (h.2.2 M2 p14)))))
theorem lp_R_firstExposed {a N d : Nat} {K : qm_K} {M0 : qm_M} {n : Nat} {w p : Nat → Nat} {S : Nat → Prop} {x : Int} (hA : qArr (qL qLM) a N) (h8N : 8 ≤ N) (hne : a ≠ 93 ∧ a ≠ 94 ∧ a ≠ 71) (hMR : qMR M0 n w p) (hS : rId n w p S) (hR : qRp M0 n w p (rT n w p)) (hu : qAr M0 a n (mU n w p S)) (hK : ∀ (r : Int) (M2 : qm_M), (((∃ t, r = ((t : Nat) : Int) ∧ t < rT n w p ∧ ¬ S t ∧ (∀ u, rNd n w p t u → S u) ∧ ((t : Nat) : Int) ≠ x) ∨ (r = -2 ∧ ∀ t, t < rT n w p → ¬ S t → (∀ u, rNd n w p t u → S u) → ((t : Nat) : Int) = x)) ∧ ∀ c y, c ≠ 93 → c ≠ 94 → c ≠ 71 ∨ y ≠ 32 → M2 c y = M0 c y) → K (.inl r) (qL qLM) M2) : ∀ (j c : Nat) (M : qm_M), c + j = n → (∀ c y, c ≠ 93 → c ≠ 94 → c ≠ 71 ∨ y ≠ 32 → M c y = M0 c y) → rNx M n w p (mU n w p S) (mV n w p S) → (∀ b t, b < c → t < rT n w p → ¬ S t → (∀ u, rNd n w p t u → S u) → rL n w p t = b → (t : Int) = x) → at_R_firstExposed_7 a N d K M x (c : Int)
  | 0, c, M, hc, hF, hx, hn => by
    have hI := hMR.2.2.2
    refine rg_R_firstExposed_7 (n := n) (i := 0) (tt := 0) (w := w) (p := p) (u := mU n w p S) (v := mV n w p S) hA (And.intro (fun _ => hK _ M ⟨Or.inr ⟨rfl, fun t ht h1 h2 => hn (rL n w p t) t (by have := (r_lt ht).1; omega) ht h1 h2 rfl⟩, hF⟩) (fun z => absurd z (by rw [hF 71 0 (by decide) (by decide) (Or.inr (by decide)), hMR.1]; omega)))
  | j + 1, c, M, hc, hF, hx, hn => by
    have hI := hMR.2.2.2
    have h8 := hI.2.1
    have h28 := (r_T hI).1
    have hm := m_qMt hI hS
    have h0 : M 71 0 = (n : Int) := by rw [hF 71 0 (by decide) (by decide) (Or.inr (by decide))]; exact hMR.1
    have hua : qAr M a n (mU n w p S) := qAr_mem hu (funext fun y => hF a y hne.1 hne.2.1 (Or.inl hne.2.2))
    by_cases hcF : isF (fo n w p (mU n w p S) (mV n w p S)) c
    · obtain ⟨t, ht, h1, h2, h3⟩ := cyc_turn hI hS (by omega) hcF
      refine rg_R_firstExposed_7 (n := n) (i := c) (tt := t) (w := w) (p := p) (u := mU n w p S) (v := mV n w p S) hA (And.intro (fun z => absurd z (by rw [h0]; omega)) (fun _ => And.intro ⟨hI, h0, hx⟩ (And.intro ⟨hua, hm, h8N, hne.2.1, hne.2.2⟩ (And.intro ⟨by omega, rfl⟩ ?_))))
      intro r3 M4 h4
      have e3 : r3 = 1 := by rw [h4.1]; exact qm_bt hcF
      have hF4 : ∀ c y, c ≠ 93 → c ≠ 94 → c ≠ 71 ∨ y ≠ 32 → M4 c y = M0 c y := fun c y q1 q2 q3 => by rw [h4.2.2 c y q2 q3]; exact hF c y q1 q2 q3
      have hR4 : qRp M4 n w p (rT n w p) := ⟨by rw [hF4 71 31 (by decide) (by decide) (Or.inr (by decide))]; exact hR.1, fun y hy => ⟨by rw [hF4 90 _ (by decide) (by decide) (Or.inl (by decide))]; exact (hR.2 y hy).1, fun k hk => by rw [hF4 89 _ (by decide) (by decide) (Or.inl (by decide))]; exact (hR.2 y hy).2 k hk⟩⟩
      have hC4 := h4.2.1 hcF
      rw [h3] at hC4
      have hT4 := rCy_t hI hS ht h1 h2 hC4
      refine And.intro (fun z => absurd z (by omega)) (fun _ => And.intro ⟨hI, hR4⟩ (And.intro ⟨ht, hT4⟩ ?_))
      intro y5 e5
      refine And.intro (fun z => And.intro (by unfold qm_R; omega) (lp_R_firstExposed hA h8N hne hMR hS hR hu hK j (c + 1) M4 (by omega) hF4 (fun y hy => by rw [h4.2.2 93 y (by decide) (Or.inl (by decide))]; exact hx y hy) (fun b t2 hb ht2 g1 g2 g3 => ?_))) (fun z => And.intro ⟨hI, hR4⟩ (And.intro ⟨ht, hT4⟩ ?_))
      · by_cases hbc : b = c
        · have q1 := turn_cyc hI hS ht h1 h2
          have q2 := turn_cyc hI hS ht2 g1 g2
          have e : rPk n w p t2 0 = rPk n w p t 0 := by
            have a1 := (q1.2.2 0).2
            have a2 := (q2.2.2 0).2
            have a3 : rle n w p t2 0 = rle n w p t 0 := by
              show rL n w p t2 = rL n w p t
              rw [g3, hbc, h3]
            unfold rPk
            rw [← a1, ← a2, a3]
          rw [turn_one hI ht2 ht e, ← e5]
          exact z
        · exact hn b t2 (by omega) ht2 g1 g2 g3
      · intro y6 e6
        refine hK y6 M4 ⟨Or.inl ⟨t, e6, ht, h1, h2, by rw [← e5]; exact z⟩, hF4⟩
    · refine rg_R_firstExposed_7 (n := n) (i := c) (tt := 0) (w := w) (p := p) (u := mU n w p S) (v := mV n w p S) hA (And.intro (fun z => absurd z (by rw [h0]; omega)) (fun _ => And.intro ⟨hI, h0, hx⟩ (And.intro ⟨hua, hm, h8N, hne.2.1, hne.2.2⟩ (And.intro ⟨by omega, rfl⟩ ?_))))
      intro r3 M4 h4
      have e3 : r3 = 0 := by rw [h4.1]; exact qm_bff hcF
      refine And.intro (fun _ => And.intro (by unfold qm_R; omega) (lp_R_firstExposed hA h8N hne hMR hS hR hu hK j (c + 1) M4 (by omega) (fun c y q1 q2 q3 => by rw [h4.2.2 c y q2 q3]; exact hF c y q1 q2 q3) (fun y hy => by rw [h4.2.2 93 y (by decide) (Or.inl (by decide))]; exact hx y hy) (fun b t2 hb ht2 g1 g2 g3 => ?_))) (fun z => absurd e3 z)
      by_cases hbc : b = c
      · exfalso
        have q2 := (turn_cyc hI hS ht2 g1 g2).1
        rw [g3, hbc] at q2
        exact hcF q2
      · exact hn b t2 (by omega) ht2 g1 g2 g3
theorem s_R_firstExposed {a N : Nat} {n : Nat} {w p : Nat → Nat} {S : Nat → Prop} {d : Nat} {K : qm_K} {M : qm_M} {x : Int} (hA : qArr (qL qLM) a N) (hp0 : qMR M n w p ∧ rId n w p S ∧ qRp M n w p (rT n w p)) (hp1 : qAr M a n (mU n w p S) ∧ 8 ≤ (N : Nat) ∧ a ≠ 93 ∧ a ≠ 94 ∧ a ≠ 71) (hK : ∀ (r : Int) (M2 : qm_M), (((∃ t, r = ((t : Nat) : Int) ∧ t < rT n w p ∧ ¬ S t ∧ (∀ u, rNd n w p t u → S u) ∧ ((t : Nat) : Int) ≠ x) ∨ (r = -2 ∧ ∀ t, t < rT n w p → ¬ S t → (∀ u, rNd n w p t u → S u) → ((t : Nat) : Int) = x)) ∧ ∀ c y, c ≠ 93 → c ≠ 94 → c ≠ 71 ∨ y ≠ 32 → M2 c y = M c y) → K (.inl r) (qL qLM) M2) : qm_Runs qm_P (d + 5) 176 [(.inr (some 71)), (.inr (some a)), (.inl x)] (qL qLM) M K := by
  obtain ⟨hMR, hS, hR⟩ := hp0
  obtain ⟨hu, h8N, hne⟩ := hp1
  have hI := hMR.2.2.2
  refine en_R_firstExposed (n := n) (i := 0) (tt := 0) (w := w) (p := p) (u := mU n w p S) (v := mV n w p S) hA (And.intro hMR (And.intro ⟨hu, m_qMt hI hS, h8N, hne.1⟩ ?_))
  intro M2 h2
  exact lp_R_firstExposed hA h8N hne hMR hS hR hu hK n 0 M2 (by omega) (fun c y q1 _ _ => by rw [h2.2 c q1]) h2.1 (fun b t hb => absurd hb (Nat.not_lt_zero _))
