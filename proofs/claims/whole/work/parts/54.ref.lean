/-! the reference: changes, undone and done again; count -/
def nH (H : Nat → Nat → Nat) (b : Nat) (w : Nat → Nat) : Nat → Nat → Nat := if b < 12 then (fun i => if i < b + 1 then H i else w) else (fun i => if i < 12 then H (i + 1) else w)
def nB (b : Nat) : Nat := if b < 12 then b + 1 else 12
theorem nH_top {H : Nat → Nat → Nat} {b : Nat} {w : Nat → Nat} : nH H b w (nB b) = w := by
  unfold nH nB
  split
  · exact if_neg (by omega)
  · exact if_neg (by omega)
theorem nH_lt {H : Nat → Nat → Nat} {b i : Nat} {w : Nat → Nat} (h : b < 12) (hi : i < b + 1) : nH H b w i = H i := by unfold nH; rw [if_pos h, if_pos hi]
theorem nH_12 {H : Nat → Nat → Nat} {b i : Nat} {w : Nat → Nat} (h : ¬ b < 12) (hi : i < 12) : nH H b w i = H (i + 1) := by unfold nH; rw [if_neg h, if_pos hi]
theorem hRow_cp {M : qm_M} {i n a c : Nat} {w : Nat → Nat} {j : Int} (hj : j = ((128 * i : Nat) : Int)) (h8 : n ≤ 8) (hw : qAt M a n w) (hB : mB M a 128) : hRow (cpM M a 0 c j 128) c i n w := by
  subst hj
  have g : ∀ x, x < 128 → cpM M a 0 c ((128 * i : Nat) : Int) 128 c (128 * i + x) = M a x := fun x hx => by
    rw [cpM_in (by omega)]
    congr 1
    all_goals omega
  exact ⟨fun s a' k hs ha hk => by rw [g _ (ix_lt hs (by omega) (by omega))]; exact hw s a' k hs ha hk, fun x hx => by rw [g x hx]; exact hB x hx⟩
theorem hRow_ot {M : qm_M} {i m n a c : Nat} {w : Nat → Nat} {j : Int} (hj : j = ((128 * i : Nat) : Int)) (hm : m ≠ i) (h8 : n ≤ 8) (h : hRow M c m n w) : hRow (cpM M a 0 c j 128) c m n w := by
  subst hj
  have g : ∀ x, x < 128 → cpM M a 0 c ((128 * i : Nat) : Int) 128 c (128 * m + x) = M c (128 * m + x) := fun x hx => cpM_out (by omega)
  exact ⟨fun s a' k hs ha hk => by rw [g _ (ix_lt hs (by omega) (by omega))]; exact h.1 s a' k hs ha hk, fun x hx => by rw [g x hx]; exact h.2 x hx⟩
theorem hRow_dn {M : qm_M} {m n c : Nat} {w : Nat → Nat} (hm : m < 11) (h8 : n ≤ 8) (h : hRow M c (m + 1) n w) : hRow (cpM M c 128 c 0 1408) c m n w := by
  have g : ∀ x, x < 128 → cpM M c 128 c 0 1408 c (128 * m + x) = M c (128 * (m + 1) + x) := fun x hx => by
    rw [cpM_in (by omega)]
    congr 1
    all_goals omega
  exact ⟨fun s a' k hs ha hk => by rw [g _ (ix_lt hs (by omega) (by omega))]; exact h.1 s a' k hs ha hk, fun x hx => by rw [g x hx]; exact h.2 x hx⟩
theorem hRow_lst {M M2 : qm_M} {i n c a : Nat} {w : Nat → Nat} {j : Int} (hj : j = ((128 * i : Nat) : Int)) (h8 : n ≤ 8) (h : hRow M c i n w) : qAt (cpM M c j a 0 128) a n w ∧ mB (cpM M c j a 0 128) a 128 := by
  subst hj
  have g : ∀ x, x < 128 → cpM M c ((128 * i : Nat) : Int) a 0 128 a x = M c (128 * i + x) := fun x hx => by
    rw [cpM_in (by omega)]
    congr 1
    all_goals omega
  exact ⟨fun s a' k hs ha hk => by rw [g _ (ix_lt hs (by omega) (by omega))]; exact h.1 s a' k hs ha hk, fun x hx => by rw [g x hx]; exact h.2 x hx⟩
def chF (M2 M : qm_M) : Prop := ∀ c y, c ≠ 72 → c ≠ 73 → c ≠ 76 → c ≠ 71 ∨ (y ≠ 8 ∧ y ≠ 9 ∧ y ≠ 35) → M2 c y = M c y
theorem en_R_changes  {n : Nat} {w p : Nat → Nat} {d : Nat} {K : qm_K} {M : qm_M}  (h :
    ((M 71 8) ≠ 12 →
     qm_R (128 * (M 71 8)) ∧
     (0 ≤ ((0 : Int) : Int) ∧ 0 ≤ ((128 * (M 71 8)) : Int) ∧ 0 ≤ ((128 : Int) : Int) ∧ ((0 : Int) : Int) + (128 : Int) ≤ (128 : Int) ∧ ((128 * (M 71 8)) : Int) + (128 : Int) ≤ (1536 : Int)) ∧
     ((72 : Nat) ≠ 76 ∨ ((128 * (M 71 8)) : Int) ≤ (0 : Int)) ∧
     ∀ (M1 : qm_M), M1 = (cpM M 72 0 76 (128 * (M 71 8)) 128) →
     qm_R ((M1 71 8) + 1) ∧
     ∀ (M2 : qm_M), M2 = (qm_u M1 71 8 ((M1 71 8) + 1)) →
     ∀ (M3 : qm_M), M3 = (qm_u M2 71 9 0) →
     (0 ≤ ((0 : Int) : Int) ∧ 0 ≤ ((0 : Int) : Int) ∧ 0 ≤ ((128 : Int) : Int) ∧ ((0 : Int) : Int) + (128 : Int) ≤ (128 : Int) ∧ ((0 : Int) : Int) + (128 : Int) ≤ (128 : Int)) ∧
     ((75 : Nat) ≠ 72 ∨ ((0 : Int) : Int) ≤ (0 : Int)) ∧
     ∀ (M4 : qm_M), M4 = (cpM M3 75 0 72 0 128) →
     (M4 71 0 = (n : Int) ∧ qAt M4 72 n w ∧ qInv n w p) ∧
     (mB M4 72 128) ∧
     (∀ (M6 : qm_M), (qMR M6 n w p ∧ M6 71 35 = 0 ∧ ∀ c x, c ≠ 73 → c ≠ 71 ∨ x ≠ 35 → M6 c x = M4 c x) →
      K (.inl 0) (qL qLM) M6)) ∧
    (¬ (M 71 8) ≠ 12 →
     (0 ≤ ((128 : Int) : Int) ∧ 0 ≤ ((0 : Int) : Int) ∧ 0 ≤ ((1408 : Int) : Int) ∧ ((128 : Int) : Int) + (1408 : Int) ≤ (1536 : Int) ∧ ((0 : Int) : Int) + (1408 : Int) ≤ (1536 : Int)) ∧
     ((76 : Nat) ≠ 76 ∨ ((0 : Int) : Int) ≤ (128 : Int)) ∧
     ∀ (M7 : qm_M), M7 = (cpM M 76 128 76 0 1408) →
     qm_R ((M7 71 8) - 1) ∧
     ∀ (M8 : qm_M), M8 = (qm_u M7 71 8 ((M7 71 8) - 1)) →
     qm_R (128 * (M8 71 8)) ∧
     (0 ≤ ((0 : Int) : Int) ∧ 0 ≤ ((128 * (M8 71 8)) : Int) ∧ 0 ≤ ((128 : Int) : Int) ∧ ((0 : Int) : Int) + (128 : Int) ≤ (128 : Int) ∧ ((128 * (M8 71 8)) : Int) + (128 : Int) ≤ (1536 : Int)) ∧
     ((72 : Nat) ≠ 76 ∨ ((128 * (M8 71 8)) : Int) ≤ (0 : Int)) ∧
     ∀ (M9 : qm_M), M9 = (cpM M8 72 0 76 (128 * (M8 71 8)) 128) →
     qm_R ((M9 71 8) + 1) ∧
     ∀ (M10 : qm_M), M10 = (qm_u M9 71 8 ((M9 71 8) + 1)) →
     ∀ (M11 : qm_M), M11 = (qm_u M10 71 9 0) →
     (0 ≤ ((0 : Int) : Int) ∧ 0 ≤ ((0 : Int) : Int) ∧ 0 ≤ ((128 : Int) : Int) ∧ ((0 : Int) : Int) + (128 : Int) ≤ (128 : Int) ∧ ((0 : Int) : Int) + (128 : Int) ≤ (128 : Int)) ∧
     ((75 : Nat) ≠ 72 ∨ ((0 : Int) : Int) ≤ (0 : Int)) ∧
     ∀ (M12 : qm_M), M12 = (cpM M11 75 0 72 0 128) →
     (M12 71 0 = (n : Int) ∧ qAt M12 72 n w ∧ qInv n w p) ∧
     (mB M12 72 128) ∧
     (∀ (M14 : qm_M), (qMR M14 n w p ∧ M14 71 35 = 0 ∧ ∀ c x, c ≠ 73 → c ≠ 71 ∨ x ≠ 35 → M14 c x = M12 c x) →
      K (.inl 0) (qL qLM) M14))) : qm_Runs qm_P (d + 2) 157 [(.inr (some 71))] (qL qLM) M K :=
  And.intro (Nat.le_of_ble_eq_true rfl) (show qm_TT qi_157 (qm_Runs qm_P (d + 1)) K 0 [some (.inr (some 71))] [] (qL qLM) M 0 0 from qm_wp_TT [] 52 (And.intro (lf_71_8 ()) (And.intro (fun q15 => Exists.intro 72 (And.intro (lf_71_2 ()) (Exists.intro 76 (And.intro (lf_71_6 ()) (And.intro (lf_71_8 ()) (And.intro (h.1 q15).1 (And.intro True.intro (s_R_copies (d := d + 0) (And.intro (la_72 ()) (by decide)) (And.intro (la_76 ()) (by decide)) ((h.1 q15).2.1) ((h.1 q15).2.2.1) (And.intro (lf_71_8 ()) (And.intro ((h.1 q15).2.2.2 _ rfl).1 (And.intro (lf_71_8 ()) (And.intro (lf_71_9 ()) (Exists.intro 75 (And.intro (lf_71_5 ()) (Exists.intro 72 (And.intro (lf_71_2 ()) (And.intro True.intro (s_R_copies (d := d + 0) (And.intro (la_75 ()) (by decide)) (And.intro (la_72 ()) (by decide)) (((((h.1 q15).2.2.2 _ rfl).2 _ rfl) _ rfl).1) (((((h.1 q15).2.2.2 _ rfl).2 _ rfl) _ rfl).2.1) (And.intro (lo_71 ()) (s_R_places (d := d + 0)  ((((((h.1 q15).2.2.2 _ rfl).2 _ rfl) _ rfl).2.2 _ rfl).1) ((((((h.1 q15).2.2.2 _ rfl).2 _ rfl) _ rfl).2.2 _ rfl).2.1) (fun M6 p17 => ((((((h.1 q15).2.2.2 _ rfl).2 _ rfl) _ rfl).2.2 _ rfl).2.2 M6 p17)))))))))))))))))))))) (fun q16 => Exists.intro 76 (And.intro (lf_71_6 ()) (Exists.intro 76 (And.intro (lf_71_6 ()) (And.intro True.intro (s_R_copies (d := d + 0) (And.intro (la_76 ()) (by decide)) (And.intro (la_76 ()) (by decide)) ((h.2 q16).1) ((h.2 q16).2.1) (And.intro (lf_71_8 ()) (And.intro ((h.2 q16).2.2 _ rfl).1 (And.intro (lf_71_8 ()) (Exists.intro 72 (And.intro (lf_71_2 ()) (Exists.intro 76 (And.intro (lf_71_6 ()) (And.intro (lf_71_8 ()) (And.intro (((h.2 q16).2.2 _ rfl).2 _ rfl).1 (And.intro True.intro (s_R_copies (d := d + 0) (And.intro (la_72 ()) (by decide)) (And.intro (la_76 ()) (by decide)) ((((h.2 q16).2.2 _ rfl).2 _ rfl).2.1) ((((h.2 q16).2.2 _ rfl).2 _ rfl).2.2.1) (And.intro (lf_71_8 ()) (And.intro ((((h.2 q16).2.2 _ rfl).2 _ rfl).2.2.2 _ rfl).1 (And.intro (lf_71_8 ()) (And.intro (lf_71_9 ()) (Exists.intro 75 (And.intro (lf_71_5 ()) (Exists.intro 72 (And.intro (lf_71_2 ()) (And.intro True.intro (s_R_copies (d := d + 0) (And.intro (la_75 ()) (by decide)) (And.intro (la_72 ()) (by decide)) (((((((h.2 q16).2.2 _ rfl).2 _ rfl).2.2.2 _ rfl).2 _ rfl) _ rfl).1) (((((((h.2 q16).2.2 _ rfl).2 _ rfl).2.2.2 _ rfl).2 _ rfl) _ rfl).2.1) (And.intro (lo_71 ()) (s_R_places (d := d + 0)  ((((((((h.2 q16).2.2 _ rfl).2 _ rfl).2.2.2 _ rfl).2 _ rfl) _ rfl).2.2 _ rfl).1) ((((((((h.2 q16).2.2 _ rfl).2 _ rfl).2.2.2 _ rfl).2 _ rfl) _ rfl).2.2 _ rfl).2.1) (fun M14 p18 => ((((((((h.2 q16).2.2 _ rfl).2 _ rfl).2.2.2 _ rfl).2 _ rfl) _ rfl).2.2 _ rfl).2.2 M14 p18))))))))))))))))))))))))))))))))))
theorem s_R_changes  {n b f : Nat} {H : Nat → Nat → Nat} {w p : Nat → Nat} {d : Nat} {K : qm_K} {M : qm_M}  (hp0 : M 71 0 = (n : Int) ∧ qAt M 72 n (H b) ∧ mB M 72 128) (hp1 : rHs M n H b f) (hp2 : qAt M 75 n w ∧ qInv n w p ∧ mB M 75 128) (hK : ∀ (M2 : qm_M), (qMR M2 n w p ∧ mB M2 72 128 ∧ rHs M2 n (nH H b w) (nB b) 0 ∧ M2 71 35 = 0 ∧ chF M2 M) → K (.inl 0) (qL qLM) M2) : qm_Runs qm_P (d + 2) 157 [(.inr (some 71))] (qL qLM) M K := by
  obtain ⟨h0, hw0, hB0⟩ := hp0
  obtain ⟨b1, b2, b3, b4, b5, b6⟩ := hp1
  obtain ⟨w1, w2, w3⟩ := hp2
  have h8 := w2.2.1
  refine en_R_changes (n := n) (w := w) (p := p) (And.intro (fun h => ?_) (fun h => ?_))
  · have hb : b < 12 := by omega
    have hB : nB b = b + 1 := if_pos hb
    rw [b1]
    refine And.intro (by unfold qm_R; omega) (And.intro (by omega) (And.intro (Or.inl (by decide)) ?_))
    intro M1 e1
    have f1 : M1 71 = M 71 := by rw [e1, cpM_c (by decide)]
    rw [f1, b1]
    refine And.intro (by unfold qm_R; omega) ?_
    intro M2 e2 M3 e3
    refine And.intro (by decide) (And.intro (by decide) ?_)
    intro M4 e4
    have c3 : ∀ c, c ≠ 71 → M3 c = M1 c := fun c hc => by rw [e3, qu_cf hc, e2, qu_cf hc]
    have c4 : ∀ c, c ≠ 71 → c ≠ 72 → M4 c = M1 c := fun c hc h2 => by rw [e4, cpM_c h2, c3 c hc]
    have g75 : M3 75 = M 75 := by rw [c3 75 (by decide), e1, cpM_c (by decide)]
    have f4 : ∀ y, y ≠ 8 → y ≠ 9 → M4 71 y = M 71 y := fun y q1 q2 => by rw [e4, cpM_c (by decide), e3, qu_k q2, e2, qu_k q1, f1]
    have a4 : qAt M4 72 n w := fun s a k hs ha hk => by rw [e4, cpM_L (ix_lt hs (by omega) (by omega)), g75]; exact w1 s a k hs ha hk
    have m4 : mB M4 72 128 := fun x hx => by rw [e4, cpM_L hx, g75]; exact w3 x hx
    refine And.intro ⟨by rw [f4 0 (by decide) (by decide)]; exact h0, a4, w2⟩ (And.intro m4 ?_)
    intro M6 q
    obtain ⟨q1, q2, q3⟩ := q
    have c6 : ∀ c, c ≠ 71 → c ≠ 73 → M6 c = M4 c := fun c g1 g2 => funext fun y => q3 c y g2 (Or.inl g1)
    refine hK M6 ⟨q1, mB_mem m4 (c6 72 (by decide) (by decide)), ⟨?_, ?_, by omega, fun i hi => ?_, fun i hi => absurd hi (by omega), fun i hi => ?_⟩, q2, fun c y g1 g2 g3 g4 => ?_⟩
    · rw [q3 71 8 (by decide) (Or.inr (by decide)), e4, cpM_c (by decide), e3, qu_k (by decide), e2, qu_s]; omega
    · rw [q3 71 9 (by decide) (Or.inr (by decide)), e4, cpM_c (by decide), e3, qu_s]; rfl
    · refine hRow_mem (M := M1) ?_ (by rw [c6 76 (by decide) (by decide), c4 76 (by decide) (by decide)])
      rw [nH_lt hb (by omega), e1]
      by_cases hib : i = b
      · rw [hib]
        exact hRow_cp (by omega) h8 hw0 hB0
      · exact hRow_ot (i := b) (by omega) hib h8 (b4 i (by omega))
    · by_cases hib : i = nB b
      · rw [hib, nH_top]; exact ⟨p, w2⟩
      · rw [nH_lt hb (by omega)]; exact b6 i (by omega)
    · rcases g4 with g4 | g4
      · rw [c6 c g4 g2, c4 c g4 g1, e1, cpM_c g3]
      · by_cases hc : c = 71
        · rw [hc, q3 71 y (by decide) (Or.inr g4.2.2), f4 y g4.1 g4.2.1]
        · rw [c6 c hc g2, c4 c hc g1, e1, cpM_c g3]
  · have hb : b = 12 := by omega
    subst hb
    have hB : nB 12 = 12 := rfl
    refine And.intro (by decide) (And.intro (by decide) ?_)
    intro M7 e7
    have f7 : M7 71 = M 71 := by rw [e7, cpM_c (by decide)]
    rw [f7, b1]
    refine And.intro (by unfold qm_R; omega) ?_
    intro M8 e8
    have f8 : M8 71 8 = 11 := by rw [e8, qu_s]; rfl
    rw [f8]
    refine And.intro (by unfold qm_R; omega) (And.intro (by decide) (And.intro (by decide) ?_))
    intro M1 e1
    have f1 : M1 71 = M8 71 := by rw [e1, cpM_c (by decide)]
    rw [f1, f8]
    refine And.intro (by unfold qm_R; omega) ?_
    intro M2 e2 M3 e3
    refine And.intro (by decide) (And.intro (by decide) ?_)
    intro M4 e4
    have c8 : ∀ c, c ≠ 71 → c ≠ 76 → M8 c = M c := fun c hc h2 => by rw [e8, qu_cf hc, e7, cpM_c h2]
    have c3 : ∀ c, c ≠ 71 → M3 c = M1 c := fun c hc => by rw [e3, qu_cf hc, e2, qu_cf hc]
    have c4 : ∀ c, c ≠ 71 → c ≠ 72 → M4 c = M1 c := fun c hc h2 => by rw [e4, cpM_c h2, c3 c hc]
    have g75 : M3 75 = M 75 := by rw [c3 75 (by decide), e1, cpM_c (by decide), c8 75 (by decide) (by decide)]
    have f4 : ∀ y, y ≠ 8 → y ≠ 9 → M4 71 y = M 71 y := fun y q1 q2 => by rw [e4, cpM_c (by decide), e3, qu_k q2, e2, qu_k q1, f1, e8, qu_k q1, f7]
    have a4 : qAt M4 72 n w := fun s a k hs ha hk => by rw [e4, cpM_L (ix_lt hs (by omega) (by omega)), g75]; exact w1 s a k hs ha hk
    have m4 : mB M4 72 128 := fun x hx => by rw [e4, cpM_L hx, g75]; exact w3 x hx
    refine And.intro ⟨by rw [f4 0 (by decide) (by decide)]; exact h0, a4, w2⟩ (And.intro m4 ?_)
    intro M6 q
    obtain ⟨q1, q2, q3⟩ := q
    have c6 : ∀ c, c ≠ 71 → c ≠ 73 → M6 c = M4 c := fun c g1 g2 => funext fun y => q3 c y g2 (Or.inl g1)
    refine hK M6 ⟨q1, mB_mem m4 (c6 72 (by decide) (by decide)), ⟨?_, ?_, by omega, fun i hi => ?_, fun i hi => absurd hi (by omega), fun i hi => ?_⟩, q2, fun c y g1 g2 g3 g4 => ?_⟩
    · rw [q3 71 8 (by decide) (Or.inr (by decide)), e4, cpM_c (by decide), e3, qu_k (by decide), e2, qu_s]; rfl
    · rw [q3 71 9 (by decide) (Or.inr (by decide)), e4, cpM_c (by decide), e3, qu_s]; rfl
    · refine hRow_mem (M := M1) ?_ (by rw [c6 76 (by decide) (by decide), c4 76 (by decide) (by decide)])
      rw [nH_12 (by omega) (by omega), e1]
      by_cases hib : i = 11
      · rw [hib]
        exact hRow_cp (by omega) h8 (qAt_mem hw0 (c8 72 (by decide) (by decide))) (mB_mem hB0 (c8 72 (by decide) (by decide)))
      · refine hRow_ot (i := 11) (by omega) hib h8 (hRow_mem (M := M7) ?_ (by rw [e8, qu_cf (by decide)]))
        rw [e7]
        exact hRow_dn (by omega) h8 (b4 (i + 1) (by omega))
    · by_cases hib : i = 12
      · rw [hib]; exact ⟨p, (show nH H 12 w 12 = w from nH_top (b := 12)) ▸ w2⟩
      · rw [nH_12 (by omega) (by omega)]; exact b6 (i + 1) (by omega)
    · rcases g4 with g4 | g4
      · rw [c6 c g4 g2, c4 c g4 g1, e1, cpM_c g3, c8 c g4 g3]
      · by_cases hc : c = 71
        · rw [hc, q3 71 y (by decide) (Or.inr g4.2.2), f4 y g4.1 g4.2.1]
        · rw [c6 c hc g2, c4 c hc g1, e1, cpM_c g3, c8 c hc g3]
theorem en_R_undo  {n : Nat} {w p : Nat → Nat} {d : Nat} {K : qm_K} {M : qm_M}  (h :
    ((M 71 8) ≠ 0 →
     qm_R (128 * (M 71 9)) ∧
     (0 ≤ ((0 : Int) : Int) ∧ 0 ≤ ((128 * (M 71 9)) : Int) ∧ 0 ≤ ((128 : Int) : Int) ∧ ((0 : Int) : Int) + (128 : Int) ≤ (128 : Int) ∧ ((128 * (M 71 9)) : Int) + (128 : Int) ≤ (1536 : Int)) ∧
     ((72 : Nat) ≠ 77 ∨ ((128 * (M 71 9)) : Int) ≤ (0 : Int)) ∧
     ∀ (M1 : qm_M), M1 = (cpM M 72 0 77 (128 * (M 71 9)) 128) →
     qm_R ((M1 71 9) + 1) ∧
     ∀ (M2 : qm_M), M2 = (qm_u M1 71 9 ((M1 71 9) + 1)) →
     qm_R ((M2 71 8) - 1) ∧
     ∀ (M3 : qm_M), M3 = (qm_u M2 71 8 ((M2 71 8) - 1)) →
     qm_R (128 * (M3 71 8)) ∧
     (0 ≤ ((128 * (M3 71 8)) : Int) ∧ 0 ≤ ((0 : Int) : Int) ∧ 0 ≤ ((128 : Int) : Int) ∧ ((128 * (M3 71 8)) : Int) + (128 : Int) ≤ (1536 : Int) ∧ ((0 : Int) : Int) + (128 : Int) ≤ (128 : Int)) ∧
     ((76 : Nat) ≠ 72 ∨ ((0 : Int) : Int) ≤ (128 * (M3 71 8))) ∧
     ∀ (M4 : qm_M), M4 = (cpM M3 76 (128 * (M3 71 8)) 72 0 128) →
     (M4 71 0 = (n : Int) ∧ qAt M4 72 n w ∧ qInv n w p) ∧
     (mB M4 72 128) ∧
     (∀ (M6 : qm_M), (qMR M6 n w p ∧ M6 71 35 = 0 ∧ ∀ c x, c ≠ 73 → c ≠ 71 ∨ x ≠ 35 → M6 c x = M4 c x) →
      K (.inl ((M6 71 8))) (qL qLM) M6)) ∧
    (¬ (M 71 8) ≠ 0 →
     K (.inl ((-5))) (qL qLM) M)) : qm_Runs qm_P (d + 2) 164 [(.inr (some 71))] (qL qLM) M K :=
  And.intro (Nat.le_of_ble_eq_true rfl) (show qm_TT qi_164 (qm_Runs qm_P (d + 1)) K 0 [some (.inr (some 71))] [] (qL qLM) M 0 0 from qm_wp_TT [] 45 (And.intro (lf_71_8 ()) (And.intro (fun q7 => Exists.intro 72 (And.intro (lf_71_2 ()) (Exists.intro 77 (And.intro (lf_71_7 ()) (And.intro (lf_71_9 ()) (And.intro (h.1 q7).1 (And.intro True.intro (s_R_copies (d := d + 0) (And.intro (la_72 ()) (by decide)) (And.intro (la_77 ()) (by decide)) ((h.1 q7).2.1) ((h.1 q7).2.2.1) (And.intro (lf_71_9 ()) (And.intro ((h.1 q7).2.2.2 _ rfl).1 (And.intro (lf_71_9 ()) (And.intro (lf_71_8 ()) (And.intro (((h.1 q7).2.2.2 _ rfl).2 _ rfl).1 (And.intro (lf_71_8 ()) (Exists.intro 76 (And.intro (lf_71_6 ()) (And.intro (lf_71_8 ()) (And.intro ((((h.1 q7).2.2.2 _ rfl).2 _ rfl).2 _ rfl).1 (Exists.intro 72 (And.intro (lf_71_2 ()) (And.intro True.intro (s_R_copies (d := d + 0) (And.intro (la_76 ()) (by decide)) (And.intro (la_72 ()) (by decide)) (((((h.1 q7).2.2.2 _ rfl).2 _ rfl).2 _ rfl).2.1) (((((h.1 q7).2.2.2 _ rfl).2 _ rfl).2 _ rfl).2.2.1) (And.intro (lo_71 ()) (s_R_places (d := d + 0)  ((((((h.1 q7).2.2.2 _ rfl).2 _ rfl).2 _ rfl).2.2.2 _ rfl).1) ((((((h.1 q7).2.2.2 _ rfl).2 _ rfl).2 _ rfl).2.2.2 _ rfl).2.1) (fun M6 p9 => And.intro (lf_71_8 ()) (((((((h.1 q7).2.2.2 _ rfl).2 _ rfl).2 _ rfl).2.2.2 _ rfl).2.2 M6 p9))))))))))))))))))))))))))) (fun q8 => (h.2 q8)))))
theorem s_R_undo  {n b f ln kn : Nat} {H : Nat → Nat → Nat} {p u v tp kw kp ku kv : Nat → Nat} {p2 : Nat → Nat} {d : Nat} {K : qm_K} {M : qm_M}  (hp0 : rI M n H b f p u v ln tp kn kw kp ku kv) (hp1 : 0 < b → qInv n (H (b - 1)) p2) (hK : ∀ (r : Int) (M2 : qm_M), ((b = 0 → r = -5 ∧ rI M2 n H b f p u v ln tp kn kw kp ku kv) ∧ (0 < b → r = ((b - 1 : Nat) : Int) ∧ rI M2 n H (b - 1) (f + 1) p2 u v ln tp kn kw kp ku kv) ∧ (∀ c, c < 71 → M2 c = M c)) → K (.inl r) (qL qLM) M2) : qm_Runs qm_P (d + 2) 164 [(.inr (some 71))] (qL qLM) M K := by
  have hI := hp0.1.1.2.2.2
  have h8 := hI.2.1
  have hT := hp0.2.2.2.1
  have hm := hp0.2.2.2.2.1
  obtain ⟨b1, b2, b3, b4, b5, b6⟩ := hp0.2.2.1
  refine en_R_undo (n := n) (w := H (b - 1)) (p := p2) (And.intro (fun h => ?_) (fun h => hK _ M ⟨fun _ => ⟨rfl, hp0⟩, fun q => absurd q (by omega), fun _ _ => rfl⟩))
  have hb : 0 < b := by omega
  rw [b2]
  refine And.intro (by unfold qm_R; omega) (And.intro (by omega) (And.intro (Or.inl (by decide)) ?_))
  intro M1 e1
  have f1 : M1 71 = M 71 := by rw [e1, cpM_c (by decide)]
  rw [f1, b2]
  refine And.intro (by unfold qm_R; omega) ?_
  intro M2 e2
  have f2 : M2 71 8 = (b : Int) := by rw [e2, qu_k (by decide), f1]; exact b1
  rw [f2]
  refine And.intro (by unfold qm_R; omega) ?_
  intro M3 e3
  have f3 : M3 71 8 = (b : Int) - 1 := by rw [e3, qu_s]
  rw [f3]
  refine And.intro (by unfold qm_R; omega) (And.intro (by omega) (And.intro (Or.inl (by decide)) ?_))
  intro M4 e4
  have c3 : ∀ c, c ≠ 71 → M3 c = M1 c := fun c hc => by rw [e3, qu_cf hc, e2, qu_cf hc]
  have c4 : ∀ c, c ≠ 71 → c ≠ 72 → M4 c = M1 c := fun c hc h2 => by rw [e4, cpM_c h2, c3 c hc]
  have f4 : ∀ y, y ≠ 8 → y ≠ 9 → M4 71 y = M 71 y := fun y q1 q2 => by rw [e4, cpM_c (by decide), e3, qu_k q1, e2, qu_k q2, f1]
  have row : hRow M3 76 (b - 1) n (H (b - 1)) := hRow_mem (M := M) (by exact b4 (b - 1) (by omega)) (by rw [c3 _ (by decide), e1, cpM_c (by decide)])
  obtain ⟨a4, m4⟩ := hRow_lst (M2 := M) (a := 72) (j := 128 * ((b : Int) - 1)) (by omega) h8 row
  rw [← e4] at a4 m4
  refine And.intro ⟨by rw [f4 0 (by decide) (by decide)]; exact hp0.1.1.1, a4, hp1 hb⟩ (And.intro m4 ?_)
  intro M6 q
  obtain ⟨q1, q2, q3⟩ := q
  have c6 : ∀ c, c ≠ 71 → c ≠ 73 → M6 c = M4 c := fun c g1 g2 => funext fun y => q3 c y g2 (Or.inl g1)
  have c7 : ∀ c, c ≠ 71 → c ≠ 72 → c ≠ 73 → c ≠ 77 → M6 c = M c := fun c g1 g2 g3 g4 => by rw [c6 c g1 g3, c4 c g1 g2, e1, cpM_c g4]
  have f7 : ∀ y, y ≠ 8 → y ≠ 9 → y ≠ 35 → M6 71 y = M 71 y := fun y g1 g2 g3 => by rw [q3 71 y (by decide) (Or.inr g3), f4 y g1 g2]
  have kb : M6 71 8 = ((b - 1 : Nat) : Int) := by rw [q3 71 _ (by decide) (Or.inr (by decide)), e4, cpM_c (by decide), f3]; omega
  have kf : M6 71 9 = ((f + 1 : Nat) : Int) := by rw [q3 71 _ (by decide) (Or.inr (by decide)), e4, cpM_c (by decide), e3, qu_k (by decide), e2, qu_s]; omega
  refine hK _ M6 ⟨fun z => absurd z (by omega), fun _ => ⟨kb, ⟨q1, mB_mem m4 (c6 72 (by decide) (by decide))⟩, ⟨qHa_mem hp0.2.1.1 (c7 _ (by decide) (by decide) (by decide) (by decide)), hp0.2.1.2⟩, ⟨kb, kf, by omega, fun i hi => hRow_mem (b4 i (by omega)) (c7 _ (by decide) (by decide) (by decide) (by decide)), fun i hi => ?_, fun i hi => b6 i (by omega)⟩, rTp_mem hT (c7 _ (by decide) (by decide) (by decide) (by decide)) (f7 _ (by decide) (by decide) (by decide)), rIm_mem hm (c7 _ (by decide) (by decide) (by decide) (by decide)) (c7 _ (by decide) (by decide) (by decide) (by decide)) (f7 _ (by decide) (by decide) (by decide)), fun z => absurd q2 z⟩, fun c hc => c7 c (by omega) (by omega) (by omega) (by omega)⟩
  refine hRow_mem (M := M1) ?_ (by rw [c6 77 (by decide) (by decide), c4 77 (by decide) (by decide)])
  rw [show b - 1 + (f + 1) - i = b + f - i by omega, e1]
  by_cases hif : i = f
  · rw [hif, show b + f - f = b by omega]
    exact hRow_cp (by omega) h8 hp0.1.1.2.1 hp0.1.2
  · exact hRow_ot (i := f) (by omega) hif h8 (b5 i (by omega))
theorem en_R_redo  {n : Nat} {w p : Nat → Nat} {d : Nat} {K : qm_K} {M : qm_M}  (h :
    ((M 71 9) ≠ 0 →
     qm_R (128 * (M 71 8)) ∧
     (0 ≤ ((0 : Int) : Int) ∧ 0 ≤ ((128 * (M 71 8)) : Int) ∧ 0 ≤ ((128 : Int) : Int) ∧ ((0 : Int) : Int) + (128 : Int) ≤ (128 : Int) ∧ ((128 * (M 71 8)) : Int) + (128 : Int) ≤ (1536 : Int)) ∧
     ((72 : Nat) ≠ 76 ∨ ((128 * (M 71 8)) : Int) ≤ (0 : Int)) ∧
     ∀ (M1 : qm_M), M1 = (cpM M 72 0 76 (128 * (M 71 8)) 128) →
     qm_R ((M1 71 8) + 1) ∧
     ∀ (M2 : qm_M), M2 = (qm_u M1 71 8 ((M1 71 8) + 1)) →
     qm_R ((M2 71 9) - 1) ∧
     ∀ (M3 : qm_M), M3 = (qm_u M2 71 9 ((M2 71 9) - 1)) →
     qm_R (128 * (M3 71 9)) ∧
     (0 ≤ ((128 * (M3 71 9)) : Int) ∧ 0 ≤ ((0 : Int) : Int) ∧ 0 ≤ ((128 : Int) : Int) ∧ ((128 * (M3 71 9)) : Int) + (128 : Int) ≤ (1536 : Int) ∧ ((0 : Int) : Int) + (128 : Int) ≤ (128 : Int)) ∧
     ((77 : Nat) ≠ 72 ∨ ((0 : Int) : Int) ≤ (128 * (M3 71 9))) ∧
     ∀ (M4 : qm_M), M4 = (cpM M3 77 (128 * (M3 71 9)) 72 0 128) →
     (M4 71 0 = (n : Int) ∧ qAt M4 72 n w ∧ qInv n w p) ∧
     (mB M4 72 128) ∧
     (∀ (M6 : qm_M), (qMR M6 n w p ∧ M6 71 35 = 0 ∧ ∀ c x, c ≠ 73 → c ≠ 71 ∨ x ≠ 35 → M6 c x = M4 c x) →
      K (.inl ((M6 71 9))) (qL qLM) M6)) ∧
    (¬ (M 71 9) ≠ 0 →
     K (.inl ((-5))) (qL qLM) M)) : qm_Runs qm_P (d + 2) 165 [(.inr (some 71))] (qL qLM) M K :=
  And.intro (Nat.le_of_ble_eq_true rfl) (show qm_TT qi_165 (qm_Runs qm_P (d + 1)) K 0 [some (.inr (some 71))] [] (qL qLM) M 0 0 from qm_wp_TT [] 45 (And.intro (lf_71_9 ()) (And.intro (fun q7 => Exists.intro 72 (And.intro (lf_71_2 ()) (Exists.intro 76 (And.intro (lf_71_6 ()) (And.intro (lf_71_8 ()) (And.intro (h.1 q7).1 (And.intro True.intro (s_R_copies (d := d + 0) (And.intro (la_72 ()) (by decide)) (And.intro (la_76 ()) (by decide)) ((h.1 q7).2.1) ((h.1 q7).2.2.1) (And.intro (lf_71_8 ()) (And.intro ((h.1 q7).2.2.2 _ rfl).1 (And.intro (lf_71_8 ()) (And.intro (lf_71_9 ()) (And.intro (((h.1 q7).2.2.2 _ rfl).2 _ rfl).1 (And.intro (lf_71_9 ()) (Exists.intro 77 (And.intro (lf_71_7 ()) (And.intro (lf_71_9 ()) (And.intro ((((h.1 q7).2.2.2 _ rfl).2 _ rfl).2 _ rfl).1 (Exists.intro 72 (And.intro (lf_71_2 ()) (And.intro True.intro (s_R_copies (d := d + 0) (And.intro (la_77 ()) (by decide)) (And.intro (la_72 ()) (by decide)) (((((h.1 q7).2.2.2 _ rfl).2 _ rfl).2 _ rfl).2.1) (((((h.1 q7).2.2.2 _ rfl).2 _ rfl).2 _ rfl).2.2.1) (And.intro (lo_71 ()) (s_R_places (d := d + 0)  ((((((h.1 q7).2.2.2 _ rfl).2 _ rfl).2 _ rfl).2.2.2 _ rfl).1) ((((((h.1 q7).2.2.2 _ rfl).2 _ rfl).2 _ rfl).2.2.2 _ rfl).2.1) (fun M6 p9 => And.intro (lf_71_9 ()) (((((((h.1 q7).2.2.2 _ rfl).2 _ rfl).2 _ rfl).2.2.2 _ rfl).2.2 M6 p9))))))))))))))))))))))))))) (fun q8 => (h.2 q8)))))
theorem s_R_redo  {n b f ln kn : Nat} {H : Nat → Nat → Nat} {p u v tp kw kp ku kv : Nat → Nat} {p2 : Nat → Nat} {d : Nat} {K : qm_K} {M : qm_M}  (hp0 : rI M n H b f p u v ln tp kn kw kp ku kv) (hp1 : 0 < f → qInv n (H (b + 1)) p2) (hK : ∀ (r : Int) (M2 : qm_M), ((f = 0 → r = -5 ∧ rI M2 n H b f p u v ln tp kn kw kp ku kv) ∧ (0 < f → r = ((f - 1 : Nat) : Int) ∧ rI M2 n H (b + 1) (f - 1) p2 u v ln tp kn kw kp ku kv) ∧ (∀ c, c < 71 → M2 c = M c)) → K (.inl r) (qL qLM) M2) : qm_Runs qm_P (d + 2) 165 [(.inr (some 71))] (qL qLM) M K := by
  have hI := hp0.1.1.2.2.2
  have h8 := hI.2.1
  have hT := hp0.2.2.2.1
  have hm := hp0.2.2.2.2.1
  obtain ⟨b1, b2, b3, b4, b5, b6⟩ := hp0.2.2.1
  refine en_R_redo (n := n) (w := H (b + 1)) (p := p2) (And.intro (fun h => ?_) (fun h => hK _ M ⟨fun _ => ⟨rfl, hp0⟩, fun q => absurd q (by omega), fun _ _ => rfl⟩))
  have hb : 0 < f := by omega
  rw [b1]
  refine And.intro (by unfold qm_R; omega) (And.intro (by omega) (And.intro (Or.inl (by decide)) ?_))
  intro M1 e1
  have f1 : M1 71 = M 71 := by rw [e1, cpM_c (by decide)]
  rw [f1, b1]
  refine And.intro (by unfold qm_R; omega) ?_
  intro M2 e2
  have f2 : M2 71 9 = (f : Int) := by rw [e2, qu_k (by decide), f1]; exact b2
  rw [f2]
  refine And.intro (by unfold qm_R; omega) ?_
  intro M3 e3
  have f3 : M3 71 9 = (f : Int) - 1 := by rw [e3, qu_s]
  rw [f3]
  refine And.intro (by unfold qm_R; omega) (And.intro (by omega) (And.intro (Or.inl (by decide)) ?_))
  intro M4 e4
  have c3 : ∀ c, c ≠ 71 → M3 c = M1 c := fun c hc => by rw [e3, qu_cf hc, e2, qu_cf hc]
  have c4 : ∀ c, c ≠ 71 → c ≠ 72 → M4 c = M1 c := fun c hc h2 => by rw [e4, cpM_c h2, c3 c hc]
  have f4 : ∀ y, y ≠ 8 → y ≠ 9 → M4 71 y = M 71 y := fun y q1 q2 => by rw [e4, cpM_c (by decide), e3, qu_k q2, e2, qu_k q1, f1]
  have row : hRow M3 77 (f - 1) n (H (b + 1)) := hRow_mem (M := M) (by have := b5 (f - 1) (by omega); rw [show b + f - (f - 1) = b + 1 by omega] at this; exact this) (by rw [c3 _ (by decide), e1, cpM_c (by decide)])
  obtain ⟨a4, m4⟩ := hRow_lst (M2 := M) (a := 72) (j := 128 * ((f : Int) - 1)) (by omega) h8 row
  rw [← e4] at a4 m4
  refine And.intro ⟨by rw [f4 0 (by decide) (by decide)]; exact hp0.1.1.1, a4, hp1 hb⟩ (And.intro m4 ?_)
  intro M6 q
  obtain ⟨q1, q2, q3⟩ := q
  have c6 : ∀ c, c ≠ 71 → c ≠ 73 → M6 c = M4 c := fun c g1 g2 => funext fun y => q3 c y g2 (Or.inl g1)
  have c7 : ∀ c, c ≠ 71 → c ≠ 72 → c ≠ 73 → c ≠ 76 → M6 c = M c := fun c g1 g2 g3 g4 => by rw [c6 c g1 g3, c4 c g1 g2, e1, cpM_c g4]
  have f7 : ∀ y, y ≠ 8 → y ≠ 9 → y ≠ 35 → M6 71 y = M 71 y := fun y g1 g2 g3 => by rw [q3 71 y (by decide) (Or.inr g3), f4 y g1 g2]
  have kb : M6 71 9 = ((f - 1 : Nat) : Int) := by rw [q3 71 _ (by decide) (Or.inr (by decide)), e4, cpM_c (by decide), f3]; omega
  have kf : M6 71 8 = ((b + 1 : Nat) : Int) := by rw [q3 71 _ (by decide) (Or.inr (by decide)), e4, cpM_c (by decide), e3, qu_k (by decide), e2, qu_s]; omega
  refine hK _ M6 ⟨fun z => absurd z (by omega), fun _ => ⟨kb, ⟨q1, mB_mem m4 (c6 72 (by decide) (by decide))⟩, ⟨qHa_mem hp0.2.1.1 (c7 _ (by decide) (by decide) (by decide) (by decide)), hp0.2.1.2⟩, ⟨kf, kb, by omega, fun i hi => ?_, fun i hi => by rw [show b + 1 + (f - 1) - i = b + f - i by omega]; exact hRow_mem (b5 i (by omega)) (c7 _ (by decide) (by decide) (by decide) (by decide)), fun i hi => b6 i (by omega)⟩, rTp_mem hT (c7 _ (by decide) (by decide) (by decide) (by decide)) (f7 _ (by decide) (by decide) (by decide)), rIm_mem hm (c7 _ (by decide) (by decide) (by decide) (by decide)) (c7 _ (by decide) (by decide) (by decide) (by decide)) (f7 _ (by decide) (by decide) (by decide)), fun z => absurd q2 z⟩, fun c hc => c7 c (by omega) (by omega) (by omega) (by omega)⟩
  refine hRow_mem (M := M1) ?_ (by rw [c6 76 (by decide) (by decide), c4 76 (by decide) (by decide)])
  rw [e1]
  by_cases hif : i = b
  · rw [hif]
    exact hRow_cp (by omega) h8 hp0.1.1.2.1 hp0.1.2
  · exact hRow_ot (i := b) (by omega) hif h8 (b4 i (by omega))
noncomputable def anCount (n ln b f : Nat) (u : Nat → Nat) (x : Int) : Int := if x = 0 then (n : Int) else if x = 1 then (ln : Int) else if x = 2 then (b : Int) else if x = 3 then (f : Int) else if x = 4 then (cnt (fun l => u l = 9) n : Int) else -1
def at_R_count_60  (d : Nat) (K : qm_K) (M : qm_M) (x2 x3 : Int) : Prop := ∀ (d1 : Option qm_V), qm_TT qi_216 (qm_Runs qm_P (d + 0)) K 60 [some (.inr (some 71)), d1, some (.inl x2), some (.inl x3)] [] (qL qLM) M 0 0
theorem rg_R_count_60   {d : Nat} {K : qm_K} {M : qm_M} {x2 x3 : Int} (h :
    ((M 71 0) ≤ x3 →
     K (.inl x2) (qL qLM) M) ∧
    (¬ (M 71 0) ≤ x3 →
     0 ≤ x3 ∧ x3 < 8 ∧
     ∀ (y1 : Int), y1 = (M 79 (Int.toNat x3)) →
     (0 ≤ y1 →
      qm_R (x2 + 0) ∧
      qm_R (x3 + 1) ∧
      at_R_count_60  d K M ((x2 + 0)) ((x3 + 1))) ∧
     (¬ 0 ≤ y1 →
      qm_R (x2 + 1) ∧
      qm_R (x3 + 1) ∧
      at_R_count_60  d K M ((x2 + 1)) ((x3 + 1))))) : at_R_count_60  d K M x2 x3 :=
  fun d1 => qm_wp_TT [60] 20 (And.intro (lf_71_0 ()) (And.intro (fun q2 => (h.1 q2)) (fun q3 => Exists.intro 79 (And.intro (lf_71_11 ()) (Exists.intro 8 (And.intro (la_79 ()) (And.intro (h.2 q3).1 (And.intro (h.2 q3).2.1 (And.intro (fun q4 => And.intro (((h.2 q3).2.2 _ rfl).1 q4).1 (And.intro (((h.2 q3).2.2 _ rfl).1 q4).2.1 ((((h.2 q3).2.2 _ rfl).1 q4).2.2 _))) (fun q5 => And.intro (((h.2 q3).2.2 _ rfl).2 q5).1 (And.intro (((h.2 q3).2.2 _ rfl).2 q5).2.1 ((((h.2 q3).2.2 _ rfl).2 q5).2.2 _))))))))))))
theorem en_R_count   {d : Nat} {K : qm_K} {M : qm_M} {x : Int} (h :
    (x = 0 →
     K (.inl ((M 71 0))) (qL qLM) M) ∧
    (x ≠ 0 →
     (x = 1 →
      K (.inl ((M 71 14))) (qL qLM) M) ∧
     (x ≠ 1 →
      (x = 2 →
       K (.inl ((M 71 8))) (qL qLM) M) ∧
      (x ≠ 2 →
       (x = 3 →
        K (.inl ((M 71 9))) (qL qLM) M) ∧
       (x ≠ 3 →
        (x = 4 →
         at_R_count_60  d K M 0 0) ∧
        (x ≠ 4 →
         K (.inl ((-1))) (qL qLM) M)))))) : qm_Runs qm_P (d + 1) 216 [(.inr (some 71)), (.inl x)] (qL qLM) M K :=
  And.intro (Nat.le_of_ble_eq_true rfl) (show qm_TT qi_216 (qm_Runs qm_P (d + 0)) K 0 [some (.inr (some 71)), some (.inl x), none, none] [] (qL qLM) M 0 0 from qm_wp_TT [60] 20 (And.intro (fun q6 => And.intro (lf_71_0 ()) ((h.1 q6))) (fun q7 => And.intro (fun q8 => And.intro (lf_71_14 ()) (((h.2 q7).1 q8))) (fun q9 => And.intro (fun q10 => And.intro (lf_71_8 ()) ((((h.2 q7).2 q9).1 q10))) (fun q11 => And.intro (fun q12 => And.intro (lf_71_9 ()) (((((h.2 q7).2 q9).2 q11).1 q12))) (fun q13 => And.intro (fun q14 => (((((h.2 q7).2 q9).2 q11).2 q13).1 q14) _) (fun q15 => (((((h.2 q7).2 q9).2 q11).2 q13).2 q15))))))))
theorem lp_R_count {d : Nat} {K : qm_K} {M : qm_M} {n : Nat} {u : Nat → Nat} (h0 : M 71 0 = (n : Int)) (h8 : n ≤ 8) (hu : qHa M 79 n u) (hK : K (.inl (cnt (fun l => u l = 9) n : Int)) (qL qLM) M) : ∀ (j x : Nat), x + j = n → at_R_count_60 d K M (cnt (fun l => u l = 9) x : Int) (x : Int)
  | 0, x, hx => fun d1 => by
    have hx : x = n := by omega
    subst hx
    exact rg_R_count_60 (And.intro (fun _ => hK) (fun z => absurd z (by omega))) d1
  | j + 1, x, hx => fun d1 => by
    have hc := cnt_le (fun l => u l = 9) x
    refine rg_R_count_60 (And.intro (fun z => absurd z (by omega)) (fun _ => And.intro (by omega) (And.intro (by omega) ?_))) d1
    intro y1 e1
    rw [Int.toNat_natCast, hu x (by omega)] at e1
    have ih := lp_R_count (d := d) h0 h8 hu hK j (x + 1) (by omega)
    refine And.intro (fun z => And.intro (by unfold qm_R; omega) (And.intro (by unfold qm_R; omega) ?_)) (fun z => And.intro (by unfold qm_R; omega) (And.intro (by unfold qm_R; omega) ?_))
    · rw [cnt_f (fun q => by rw [e1, q] at z; exact absurd z (by decide))] at ih
      rw [Int.add_zero]
      exact ih
    · rw [cnt_t (by
        refine Classical.byContradiction fun q => z ?_
        rw [e1, mz_n q]
        omega)] at ih
      exact ih
theorem s_R_count  {n b f ln kn : Nat} {H : Nat → Nat → Nat} {p u v tp kw kp ku kv : Nat → Nat} {d : Nat} {K : qm_K} {M : qm_M} {x : Int} (hp0 : rI M n H b f p u v ln tp kn kw kp ku kv) (hK : ∀ (r : Int) (M2 : qm_M), (r = anCount n ln b f u x ∧ M2 = M) → K (.inl r) (qL qLM) M2) : qm_Runs qm_P (d + 1) 216 [(.inr (some 71)), (.inl x)] (qL qLM) M K := by
  obtain ⟨b1, b2, b3, b4, b5, b6⟩ := hp0.2.2.1
  have fin : ∀ r, r = anCount n ln b f u x → K (.inl r) (qL qLM) M := fun r hr => hK r M ⟨hr, rfl⟩
  unfold anCount at fin
  have h0 := hp0.1.1.1
  refine en_R_count (And.intro (fun h => fin _ ?_) (fun h => And.intro (fun h1 => fin _ ?_) (fun h1 => And.intro (fun h2 => fin _ ?_) (fun h2 => And.intro (fun h3 => fin _ ?_) (fun h3 => And.intro (fun h4 => ?_) (fun h4 => fin _ ?_))))))
  · rw [if_pos h, h0]
  · rw [if_neg h, if_pos h1, hp0.2.2.2.1.1]
  · rw [if_neg h, if_neg h1, if_pos h2, b1]
  · rw [if_neg h, if_neg h1, if_neg h2, if_pos h3, b2]
  · exact lp_R_count h0 hp0.1.1.2.2.2.2.1 hp0.2.1.1 (fin _ (by rw [if_neg h, if_neg h1, if_neg h2, if_neg h3, if_pos h4])) n 0 (by omega)
  · rw [if_neg h, if_neg h1, if_neg h2, if_neg h3, if_neg h4]
