/-! the class: its state -/
def cIm (M : qm_M) (kn : Nat) (kw kp ku kv : Nat → Nat) : Prop := (kn = 0 → M 62 2 = 0) ∧ (0 < kn → M 62 2 = 1 ∧ qLR M 63 kn kw kp ∧ qPR M 68 kn ku kv)
def cI (M : qm_M) (n : Nat) (H : Nat → Nat → Nat) (b f : Nat) (p u v : Nat → Nat) (ln : Nat) (tp : Nat → Nat) (kn : Nat) (kw kp ku kv : Nat → Nat) : Prop := qLR M 4 n (H b) p ∧ qPR M 56 n u v ∧ qY M n H b f ∧ cTp M ln tp ∧ cIm M kn kw kp ku kv ∧ (M 0 10 ≠ 0 → qTn M n (H b) p ∧ qMs M n (H b) p)
def qcF (M2 M : qm_M) : Prop := ∀ c y, c < 17 ∨ 55 < c → c ≠ 0 ∨ y ≠ 10 → M2 c y = M c y
theorem qcF_c {M M2 : qm_M} (h : qcF M2 M) {c : Nat} (h0 : c ≠ 0) (hc : c < 17 ∨ 55 < c) : M2 c = M c := funext fun y => h c y hc (Or.inl h0)
theorem qcF_trans {M M1 M2 : qm_M} (h : qcF M2 M1) (h2 : qcF M1 M) : qcF M2 M := fun c y q1 q2 => by rw [h c y q1 q2]; exact h2 c y q1 q2
theorem qTn_mem {M M2 : qm_M} {n : Nat} {w p : Nat → Nat} (h : qTn M n w p) (e25 : M2 25 = M 25) (e27 : M2 27 = M 27) (e29 : M2 29 = M 29) (e31 : M2 31 = M 31) (e33 : M2 33 = M 33) (e35 : M2 35 = M 35) (e37 : M2 37 = M 37) : qTn M2 n w p := by
  unfold qTn qTd qTp at *
  rw [e25, e27, e29, e31, e33, e35, e37]
  exact h
theorem qMs_mem {M M2 : qm_M} {n : Nat} {w p : Nat → Nat} (h : qMs M n w p) (e47 : M2 47 = M 47) (e49 : M2 49 = M 49) (e52 : M2 52 = M 52) : qMs M2 n w p := by
  unfold qMs qCl at *
  rw [e47, e49]
  exact ⟨h.1, qPR_mem h.2 e52⟩
theorem qY_mem {M M2 : qm_M} {n b f : Nat} {H : Nat → Nat → Nat} (h : qY M n H b f) (e14 : M2 14 = M 14) (e16 : M2 16 = M 16) : qY M2 n H b f := by unfold qY at *; rw [e14, e16]; exact h
theorem cIm_mem {M M2 : qm_M} {kn : Nat} {kw kp ku kv : Nat → Nat} (h : cIm M kn kw kp ku kv) (e62 : M2 62 = M 62) (e63 : M2 63 = M 63) (e65 : M2 65 = M 65) (e67 : M2 67 = M 67) (e70 : M2 70 = M 70) : cIm M2 kn kw kp ku kv := by
  unfold cIm at *
  rw [e62]
  exact ⟨h.1, fun z => ⟨(h.2 z).1, qLR_mem (h.2 z).2.1 e63 e65 e67, qPR_mem (h.2 z).2.2 e70⟩⟩
theorem cI_F {M M2 : qm_M} {n b f ln kn : Nat} {H : Nat → Nat → Nat} {p u v tp kw kp ku kv : Nat → Nat} (h : cI M n H b f p u v ln tp kn kw kp ku kv) (hF : qcF M2 M) (hs : M2 0 10 ≠ 0 → qTn M2 n (H b) p ∧ qMs M2 n (H b) p) : cI M2 n H b f p u v ln tp kn kw kp ku kv :=
  ⟨qLR_mem h.1 (qcF_c hF (by decide) (by decide)) (qcF_c hF (by decide) (by decide)) (qcF_c hF (by decide) (by decide)), qPR_mem h.2.1 (qcF_c hF (by decide) (by decide)), qY_mem h.2.2.1 (qcF_c hF (by decide) (by decide)) (qcF_c hF (by decide) (by decide)), cTp_mem h.2.2.2.1 (qcF_c hF (by decide) (by decide)) (qcF_c hF (by decide) (by decide)), cIm_mem h.2.2.2.2.1 (qcF_c hF (by decide) (by decide)) (qcF_c hF (by decide) (by decide)) (qcF_c hF (by decide) (by decide)) (qcF_c hF (by decide) (by decide)) (qcF_c hF (by decide) (by decide)), hs⟩
theorem en_C_isSide {T : qm_L}  {d : Nat} {K : qm_K} {M : qm_M} {s : Int} (h :
    (s = 0 →
     K (.inl 1) (qL T) M) ∧
    (¬ s = 0 →
     (s ≠ 1 →
      K (.inl 0) (qL T) M) ∧
     (¬ s ≠ 1 →
      K (.inl 1) (qL T) M))) : qm_Runs qm_P (d + 1) 132 [(.inl s)] (qL T) M K :=
  And.intro (Nat.le_of_ble_eq_true rfl) (show qm_TT qi_132 (qm_Runs qm_P (d + 0)) K 0 [some (.inl s)] [] (qL T) M 0 0 from qm_wp_TT [] 11 (And.intro (fun q1 => And.intro (Or.inr rfl) (h.1 q1)) (fun q2 => And.intro (fun q3 => And.intro (Or.inl rfl) ((h.2 q2).1 q3)) (fun q4 => And.intro (Or.inr rfl) ((h.2 q2).2 q4)))))
theorem s_C_isSide {T : qm_L}  {d : Nat} {K : qm_K} {M : qm_M} {s : Int}  (hK : K (.inl (qm_b (0 ≤ s ∧ s ≤ 1))) (qL T) M) : qm_Runs qm_P (d + 1) 132 [(.inl s)] (qL T) M K := by
  refine en_C_isSide   ?_
  repeat' first | (intro _) | (refine And.intro ?_ ?_)
  all_goals first | exact qk_eq hK (qm_bt (by omega)) | exact qk_eq hK (qm_bff (by omega))
theorem en_C_isCost {T : qm_L}  {d : Nat} {K : qm_K} {M : qm_M} {s : Int} (h :
    (s < 0 →
     K (.inl 0) (qL T) M) ∧
    (¬ s < 0 →
     (4 < s →
      K (.inl 0) (qL T) M) ∧
     (¬ 4 < s →
      K (.inl 1) (qL T) M))) : qm_Runs qm_P (d + 1) 133 [(.inl s)] (qL T) M K :=
  And.intro (Nat.le_of_ble_eq_true rfl) (show qm_TT qi_133 (qm_Runs qm_P (d + 0)) K 0 [some (.inl s)] [] (qL T) M 0 0 from qm_wp_TT [] 11 (And.intro (fun q1 => And.intro (Or.inl rfl) (h.1 q1)) (fun q2 => And.intro (fun q3 => And.intro (Or.inl rfl) ((h.2 q2).1 q3)) (fun q4 => And.intro (Or.inr rfl) ((h.2 q2).2 q4)))))
theorem s_C_isCost {T : qm_L}  {d : Nat} {K : qm_K} {M : qm_M} {s : Int}  (hK : K (.inl (qm_b (0 ≤ s ∧ s ≤ 4))) (qL T) M) : qm_Runs qm_P (d + 1) 133 [(.inl s)] (qL T) M K := by
  refine en_C_isCost   ?_
  repeat' first | (intro _) | (refine And.intro ?_ ?_)
  all_goals first | exact qk_eq hK (qm_bt (by omega)) | exact qk_eq hK (qm_bff (by omega))
theorem en_C_isOne {T : qm_L}  {d : Nat} {K : qm_K} {M : qm_M} {x : Int} (h :
    (x < 0 →
     K (.inl 0) (qL T) M) ∧
    (¬ x < 0 →
     ((M 4 2) ≤ x →
      K (.inl 0) (qL T) M) ∧
     (¬ (M 4 2) ≤ x →
      K (.inl 1) (qL T) M))) : qm_Runs qm_P (d + 2) 134 [(.inr (some 0)), (.inl x)] (qL T) M K :=
  And.intro (Nat.le_of_ble_eq_true rfl) (show qm_TT qi_134 (qm_Runs qm_P (d + 1)) K 0 [some (.inr (some 0)), some (.inl x)] [] (qL T) M 0 0 from qm_wp_TT [] 13 (And.intro (fun q1 => And.intro (Or.inl rfl) (h.1 q1)) (fun q2 => Exists.intro 4 (And.intro (lf_0_1 T) (And.intro (lo_4 T) (s_Lists_each (d := d + 0) (lLs_4 T)  (And.intro (fun q3 => And.intro (Or.inl rfl) ((h.2 q2).1 q3)) (fun q4 => And.intro (Or.inr rfl) ((h.2 q2).2 q4)))))))))
theorem s_C_isOne {T : qm_L}  {d : Nat} {K : qm_K} {M : qm_M} {x : Int}  (hK : K (.inl (qm_b (0 ≤ x ∧ x < M 4 2))) (qL T) M) : qm_Runs qm_P (d + 2) 134 [(.inr (some 0)), (.inl x)] (qL T) M K := by
  refine en_C_isOne   ?_
  repeat' first | (intro _) | (refine And.intro ?_ ?_)
  all_goals first | exact qk_eq hK (qm_bt (by omega)) | exact qk_eq hK (qm_bff (by omega))
theorem en_C_canStir {T : qm_L}  {d : Nat} {K : qm_K} {M : qm_M} {s : Int} {a : Int} {k : Int} (h :
    ((0 ≤ s ∧ s ≤ 1) →
     ((0 ≤ a ∧ a < M 4 2) →
      (k < 0 →
       K (.inl 0) (qL T) M) ∧
      (¬ k < 0 →
       qm_R ((M 4 2) - 1) ∧
       (((M 4 2) - 1) ≤ k →
        K (.inl 0) (qL T) M) ∧
       (¬ ((M 4 2) - 1) ≤ k →
        K (.inl 1) (qL T) M))) ∧
     (¬ (0 ≤ a ∧ a < M 4 2) →
      K (.inl 0) (qL T) M)) ∧
    (¬ (0 ≤ s ∧ s ≤ 1) →
     K (.inl 0) (qL T) M)) : qm_Runs qm_P (d + 3) 135 [(.inr (some 0)), (.inl s), (.inl a), (.inl k)] (qL T) M K :=
  And.intro (Nat.le_of_ble_eq_true rfl) (show qm_TT qi_135 (qm_Runs qm_P (d + 2)) K 0 [some (.inr (some 0)), some (.inl s), some (.inl a), some (.inl k)] [] (qL T) M 0 0 from qm_wp_TT [] 22 (And.intro True.intro (s_C_isSide (d := d + 1)   (And.intro (fun q1 => And.intro (Or.inl rfl) (h.2 (qm_b0 q1))) (fun q2 => And.intro (lo_0 T) (s_C_isOne (d := d + 0)   (And.intro (fun q3 => And.intro (Or.inl rfl) ((h.1 (qm_b1 q2)).2 (qm_b0 q3))) (fun q4 => And.intro (fun q5 => And.intro (Or.inl rfl) (((h.1 (qm_b1 q2)).1 (qm_b1 q4)).1 q5)) (fun q6 => Exists.intro 4 (And.intro (lf_0_1 T) (And.intro (lo_4 T) (s_Lists_each (d := d + 1) (lLs_4 T)  (And.intro (((h.1 (qm_b1 q2)).1 (qm_b1 q4)).2 q6).1 (And.intro (fun q7 => And.intro (Or.inl rfl) ((((h.1 (qm_b1 q2)).1 (qm_b1 q4)).2 q6).2.1 q7)) (fun q8 => And.intro (Or.inr rfl) ((((h.1 (qm_b1 q2)).1 (qm_b1 q4)).2 q6).2.2 q8))))))))))))))))
theorem s_C_canStir {T : qm_L}  {d : Nat} {K : qm_K} {M : qm_M} {s : Int} {a : Int} {k : Int} (hp0 : 1 ≤ M 4 2 ∧ M 4 2 ≤ 8) (hK : K (.inl (qm_b (0 ≤ s ∧ s ≤ 1 ∧ 0 ≤ a ∧ a < M 4 2 ∧ 0 ≤ k ∧ k + 1 < M 4 2))) (qL T) M) : qm_Runs qm_P (d + 3) 135 [(.inr (some 0)), (.inl s), (.inl a), (.inl k)] (qL T) M K := by
  refine en_C_canStir   ?_
  refine And.intro (fun h => And.intro (fun h2 => And.intro (fun h3 => ?_) (fun h3 => And.intro (by unfold qm_R; omega) (And.intro (fun h4 => ?_) (fun h4 => ?_)))) (fun h2 => ?_)) (fun h => ?_)
  · exact qk_eq hK (qm_bff (by omega))
  · exact qk_eq hK (qm_bff (by omega))
  · exact qk_eq hK (qm_bt (by omega))
  · exact qk_eq hK (qm_bff (by omega))
  · exact qk_eq hK (qm_bff (by omega))
theorem en_C_orNot {T : qm_L}  {d : Nat} {K : qm_K} {M : qm_M} {x : Int} (h :
    (x ≠ (-1) →
     K (.inl x) (qL T) M) ∧
    (¬ x ≠ (-1) →
     K (.inl ((-2))) (qL T) M)) : qm_Runs qm_P (d + 1) 136 [(.inl x)] (qL T) M K :=
  And.intro (Nat.le_of_ble_eq_true rfl) (show qm_TT qi_136 (qm_Runs qm_P (d + 0)) K 0 [some (.inl x)] [] (qL T) M 0 0 from qm_wp_TT [] 9 (And.intro (fun q1 => (h.1 q1)) (fun q2 => (h.2 q2))))
theorem s_C_orNot {T : qm_L}  {d : Nat} {K : qm_K} {M : qm_M} {x : Int}  (hK : K (.inl ((if x = -1 then -2 else x))) (qL T) M) : qm_Runs qm_P (d + 1) 136 [(.inl x)] (qL T) M K := by
  refine en_C_orNot   ?_
  refine And.intro (fun h => by rw [if_neg h] at hK; exact hK) (fun h => by rw [if_pos (Classical.not_not.mp h)] at hK; exact hK)
theorem en_C_settle {T : qm_L} {n sg : Nat} {w p : Nat → Nat} {d : Nat} {K : qm_K} {M : qm_M}  (h :
    ((M 0 10) = 0 →
     ((4 = 4 ∨ 4 = 9) ∧ sg < 2 ∧ (0 : Int) = (sg : Int)) ∧
     (qLR M 4 n w p) ∧
     (∀ (M2 : qm_M), (qG M2 n w p sg (gN n w p sg) (gst n w p sg (gN n w p sg)).1 (gH n w p sg) ∧ (∀ c, c ≠ 17 → c ≠ 20 → c ≠ 22 → c ≠ 24 → M2 c = M c)) →
      (qLR M2 4 n w p) ∧
      (qPR M2 18 n (rU n w p 0) (rV n w p 0)) ∧
      (∀ (M4 : qm_M), (qTn M4 n w p ∧ ∀ c, tF c → M4 c = M2 c) →
       (qInv n w p ∧ qTn M4 n w p) ∧
       (qPR M4 18 n (rU n w p 0) (rV n w p 0)) ∧
       (∀ (M6 : qm_M), (qMs M6 n w p ∧ ∀ c, c ≠ 47 → c ≠ 49 → c ≠ 52 → M6 c = M4 c) →
        ∀ (M7 : qm_M), M7 = (qm_u M6 0 10 1) →
        K (.inl 0) (qL T) M7)))) ∧
    (¬ (M 0 10) = 0 →
     K (.inl 0) (qL T) M)) : qm_Runs qm_P (d + 6) 137 [(.inr (some 0))] (qL T) M K :=
  And.intro (Nat.le_of_ble_eq_true rfl) (show qm_TT qi_137 (qm_Runs qm_P (d + 5)) K 0 [some (.inr (some 0))] [] (qL T) M 0 0 from qm_wp_TT [] 32 (And.intro (lf_0_10 T) (And.intro (fun q8 => Exists.intro 17 (And.intro (lf_0_4 T) (Exists.intro 4 (And.intro (lf_0_1 T) (And.intro (lo_17 T) (s_Ask_run (d := d + 0) (lLs_4 T) ((h.1 q8).1) ((h.1 q8).2.1) (fun M2 p10 => Exists.intro 25 (And.intro (lf_0_5 T) (Exists.intro 4 (And.intro (lf_0_1 T) (Exists.intro 17 (And.intro (lf_0_4 T) (And.intro (lo_17 T) (s_Ask_outcome (d := d + 4)   (And.intro (lo_25 T) (s_Turns_find (d := d + 0)  (((h.1 q8).2.2 M2 p10).1) (((h.1 q8).2.2 M2 p10).2.1) (fun M4 p11 => Exists.intro 47 (And.intro (lf_0_6 T) (Exists.intro 25 (And.intro (lf_0_5 T) (Exists.intro 17 (And.intro (lf_0_4 T) (And.intro (lo_17 T) (s_Ask_outcome (d := d + 4)   (And.intro (lo_47 T) (s_Mat_find (d := d + 1)  ((((h.1 q8).2.2 M2 p10).2.2 M4 p11).1) ((((h.1 q8).2.2 M2 p10).2.2 M4 p11).2.1) (fun M6 p12 => And.intro (Or.inr rfl) (And.intro (lf_0_10 T) ((((((h.1 q8).2.2 M2 p10).2.2 M4 p11).2.2 M6 p12) _ rfl)))))))))))))))))))))))))))))) (fun q9 => (h.2 q9)))))
theorem s_C_settle {T : qm_L} {n : Nat} {w p : Nat → Nat} {d : Nat} {K : qm_K} {M : qm_M}  (hp0 : qLR M 4 n w p) (hp1 : M 0 10 ≠ 0 → qTn M n w p ∧ qMs M n w p) (hK : ∀ (M2 : qm_M), (qTn M2 n w p ∧ qMs M2 n w p ∧ M2 0 10 ≠ 0 ∧ qcF M2 M) → K (.inl 0) (qL T) M2) : qm_Runs qm_P (d + 6) 137 [(.inr (some 0))] (qL T) M K := by
  have hI := hp0.2.2.2
  refine en_C_settle (n := n) (sg := 0) (w := w) (p := p) (And.intro (fun h => And.intro ⟨Or.inl rfl, by decide, rfl⟩ (And.intro hp0 ?_)) (fun h => hK M ⟨(hp1 h).1, (hp1 h).2, h, fun _ _ _ _ => rfl⟩))
  intro M2 q2
  have l2 := qLR_mem hp0 (q2.2 4 (by decide) (by decide) (by decide) (by decide)) (q2.2 6 (by decide) (by decide) (by decide) (by decide)) (q2.2 8 (by decide) (by decide) (by decide) (by decide))
  have p2 : qPR M2 18 n (rU n w p 0) (rV n w p 0) := q2.1.1.1 rfl
  refine And.intro l2 (And.intro p2 ?_)
  intro M4 q4
  have e20 : M4 20 = M2 20 := q4.2 20 (by unfold tF; decide)
  refine And.intro ⟨hI, q4.1⟩ (And.intro (qPR_mem p2 e20) ?_)
  intro M6 q6 M7 e7
  have c7 : ∀ c, c ≠ 0 → M7 c = M6 c := fun c hc => by rw [e7, qu_cf hc]
  have t6 : qTn M6 n w p := qTn_mem q4.1 (q6.2 _ (by decide) (by decide) (by decide)) (q6.2 _ (by decide) (by decide) (by decide)) (q6.2 _ (by decide) (by decide) (by decide)) (q6.2 _ (by decide) (by decide) (by decide)) (q6.2 _ (by decide) (by decide) (by decide)) (q6.2 _ (by decide) (by decide) (by decide)) (q6.2 _ (by decide) (by decide) (by decide))
  refine hK M7 ⟨qTn_mem t6 (c7 _ (by decide)) (c7 _ (by decide)) (c7 _ (by decide)) (c7 _ (by decide)) (c7 _ (by decide)) (c7 _ (by decide)) (c7 _ (by decide)), qMs_mem q6.1 (c7 _ (by decide)) (c7 _ (by decide)) (c7 _ (by decide)), by rw [e7, qu_s]; decide, fun c y hc hy => ?_⟩
  have h3 : M6 c y = M c y := by rw [q6.2 c (by omega) (by omega) (by omega), q4.2 c (by unfold tF; omega), q2.2 c (by omega) (by omega) (by omega) (by omega)]
  rw [e7, ← h3]
  rcases hy with hy | hy
  · rw [qu_c hy]
  · rw [qu_k hy]
def at_C_leftsAlone_4 (T : qm_L) (d : Nat) (K : qm_K) (M : qm_M) (x1 x2 : Int) : Prop := qm_TT qi_140 (qm_Runs qm_P (d + 2)) K 4 [some (.inr (some 0)), some (.inl x1), some (.inl x2)] [] (qL T) M 0 0
theorem rg_C_leftsAlone_4 {T : qm_L}  {d : Nat} {K : qm_K} {M : qm_M} {x1 x2 : Int} (h :
    ∀ (y1 : Int), y1 = (M 4 2) →
    (y1 ≤ x2 →
     K (.inl x1) (qL T) M) ∧
    (¬ y1 ≤ x2 →
     ∀ (y2 : Int), y2 = (gPar M 56 0 x2) →
     (y2 ≠ (-1) →
      qm_R (x2 + 1) ∧
      at_C_leftsAlone_4 T d K M x1 ((x2 + 1))) ∧
     (¬ y2 ≠ (-1) →
      qm_R (x1 + 1) ∧
      qm_R (x2 + 1) ∧
      at_C_leftsAlone_4 T d K M ((x1 + 1)) ((x2 + 1))))) : at_C_leftsAlone_4 T d K M x1 x2 :=
  qm_wp_TT [4] 19 (Exists.intro 4 (And.intro (lf_0_1 T) (And.intro (lo_4 T) (s_Lists_each (d := d + 1) (lLs_4 T)  (And.intro (fun q3 => ((h _ rfl).1 q3)) (fun q4 => Exists.intro 56 (And.intro (lf_0_7 T) (And.intro (lo_56 T) (s_Pair_partner (d := d + 0) (lPr_56 T)  (And.intro (fun q5 => And.intro ((((h _ rfl).2 q4) _ rfl).1 q5).1 (((((h _ rfl).2 q4) _ rfl).1 q5).2)) (fun q6 => And.intro ((((h _ rfl).2 q4) _ rfl).2 q6).1 (And.intro ((((h _ rfl).2 q4) _ rfl).2 q6).2.1 (((((h _ rfl).2 q4) _ rfl).2 q6).2.2)))))))))))))
theorem en_C_leftsAlone {T : qm_L}  {d : Nat} {K : qm_K} {M : qm_M}  (h :
    at_C_leftsAlone_4 T d K M 0 0) : qm_Runs qm_P (d + 3) 140 [(.inr (some 0))] (qL T) M K :=
  And.intro (Nat.le_of_ble_eq_true rfl) (show qm_TT qi_140 (qm_Runs qm_P (d + 2)) K 0 [some (.inr (some 0)), none, none] [] (qL T) M 0 0 from qm_wp_TT [4] 19 (h))
theorem lp_C_leftsAlone {T : qm_L} {d : Nat} {K : qm_K} {M : qm_M} {n : Nat} {u v : Nat → Nat} (h0 : M 4 2 = (n : Int)) (h8 : n ≤ 8) (hu : qPR M 56 n u v) (hK : K (.inl (cnt (fun l => u l = 9) n : Int)) (qL T) M) : ∀ (j x : Nat), x + j = n → at_C_leftsAlone_4 T d K M (cnt (fun l => u l = 9) x : Int) (x : Int)
  | 0, x, hx => by
    have hx : x = n := by omega
    subst hx
    refine rg_C_leftsAlone_4 ?_
    intro y1 e1
    exact And.intro (fun _ => hK) (fun z => absurd (by omega) z)
  | j + 1, x, hx => by
    have hc := cnt_le (fun l => u l = 9) x
    have ih := lp_C_leftsAlone (T := T) (d := d) h0 h8 hu hK j (x + 1) (by omega)
    refine rg_C_leftsAlone_4 ?_
    intro y1 e1
    refine And.intro (fun z => absurd z (by omega)) (fun _ => ?_)
    intro y2 e2
    rw [gPar_l hu h8 (by omega)] at e2
    refine And.intro (fun z => And.intro (by unfold qm_R; omega) ?_) (fun z => And.intro (by unfold qm_R; omega) (And.intro (by unfold qm_R; omega) ?_))
    · rw [cnt_f (fun q => z (by rw [e2, q]; rfl))] at ih
      exact ih
    · have hz : u x = 9 := cz_iff.mp (by rw [← e2]; exact Classical.not_not.mp z)
      rw [cnt_t (P := fun l => u l = 9) hz] at ih
      exact ih
theorem s_C_leftsAlone {T : qm_L} {n : Nat} {u v : Nat → Nat} {d : Nat} {K : qm_K} {M : qm_M}  (hp0 : M 4 2 = (n : Int) ∧ n ≤ 8) (hp1 : qPR M 56 n u v) (hK : ∀ (r : Int), (r = (cnt (fun l => u l = 9) n : Int)) → K (.inl r) (qL T) M) : qm_Runs qm_P (d + 3) 140 [(.inr (some 0))] (qL T) M K := by
  exact en_C_leftsAlone (lp_C_leftsAlone hp0.1 hp0.2 hp1 (hK _ rfl) n 0 (by omega))
def at_C_mend_13 (T : qm_L) (d : Nat) (K : qm_K) (M : qm_M) (x1 : Int) : Prop := ∀ (d2 : Option qm_V), qm_TT qi_139 (qm_Runs qm_P (d + 5)) K 13 [some (.inr (some 0)), some (.inl x1), d2] [] (qL T) M 0 0
theorem rg_C_mend_13 {T : qm_L} {n : Nat} {w p u v : Nat → Nat} {d : Nat} {K : qm_K} {M : qm_M} {x1 : Int} (h :
    (200 < x1 →
     K (.inl ((-7))) (qL T) M) ∧
    (¬ 200 < x1 →
     (qLR M 4 n w p) ∧
     (qPR M 59 n u v) ∧
     ∀ (y2 : Int), y2 = (cz (if fbk n p u v = 99 then 9 else fbk n p u v + 10) - (if fbk n p u v = 99 then 0 else 10)) →
     (y2 ≠ (-1) →
      (0 : Int) < 10 ∧
      (0 : Int) < 10 ∧
      (0 ≤ (0 : Int) ∧ (0 : Int) ≤ 1) ∧
      ∀ (M3 : qm_M), M3 = (sJoin M 59 0 (Int.tdiv y2 10) (Int.tmod y2 10)) →
      qm_R (x1 + 1) ∧
      at_C_mend_13 T d K M3 ((x1 + 1))) ∧
     (¬ y2 ≠ (-1) →
      K (.inl x1) (qL T) M))) : at_C_mend_13 T d K M x1 :=
  fun d2 => qm_wp_TT [13] 28 (And.intro (fun q4 => (h.1 q4)) (fun q5 => Exists.intro 4 (And.intro (lf_0_1 T) (Exists.intro 59 (And.intro (lf_0_8 T) (And.intro (lo_4 T) (s_Lists_firstBlock (d := d + 0) (lLs_4 T) (lPr_59 T) ((h.2 q5).1) ((h.2 q5).2.1) (And.intro (fun q6 => Exists.intro 59 (And.intro (lf_0_8 T) (And.intro (((h.2 q5).2.2 _ rfl).1 q6).1 (And.intro (((h.2 q5).2.2 _ rfl).1 q6).2.1 (And.intro (lo_59 T) (s_Pair_join (d := d + 2) (lPr_59 T) ((((h.2 q5).2.2 _ rfl).1 q6).2.2.1) (And.intro ((((h.2 q5).2.2 _ rfl).1 q6).2.2.2 _ rfl).1 (((((h.2 q5).2.2 _ rfl).1 q6).2.2.2 _ rfl).2 _)))))))) (fun q7 => (((h.2 q5).2.2 _ rfl).2 q7))))))))))
theorem en_C_mend {T : qm_L} {n : Nat} {w p u v : Nat → Nat} {d : Nat} {K : qm_K} {M : qm_M}  (h :
    (¬ 58 = 61) ∧
    ∀ (M1 : qm_M), M1 = (cRow M 61 16 58) →
    at_C_mend_13 T d K M1 0) : qm_Runs qm_P (d + 6) 139 [(.inr (some 0))] (qL T) M K :=
  And.intro (Nat.le_of_ble_eq_true rfl) (show qm_TT qi_139 (qm_Runs qm_P (d + 5)) K 0 [some (.inr (some 0)), none, none] [] (qL T) M 0 0 from qm_wp_TT [13] 28 (Exists.intro 59 (And.intro (lf_0_8 T) (Exists.intro 56 (And.intro (lf_0_7 T) (And.intro (lo_59 T) (s_Pair_copyFrom (d := d + 2) (lPr_59 T) (lPr_56 T) (h.1) ((h.2 _ rfl) _))))))))
theorem lp_C_mend {T : qm_L} {d : Nat} {n : Nat} {w p u v : Nat → Nat} {K : qm_K} {M0 : qm_M} (hL : qLR M0 4 n w p) (hpm : qPm n u v) (hK : ∀ (r : Int) (M2 : qm_M), ((mdT n p u v = 201 → r = -7) ∧ (mdT n p u v < 201 → r = (mdT n p u v : Int) ∧ qPR M2 59 n (mds n p (u, v) (mdT n p u v)).1 (mds n p (u, v) (mdT n p u v)).2) ∧ ∀ c, c ≠ 61 → M2 c = M0 c) → K (.inl r) (qL T) M2) : ∀ (k i : Nat) (M : qm_M), i + k = 201 → (∀ c, c ≠ 61 → M c = M0 c) → qPR M 59 n (mds n p (u, v) i).1 (mds n p (u, v) i).2 → (∀ j, j < i → fbk n p (mds n p (u, v) j).1 (mds n p (u, v) j).2 ≠ 99) → at_C_mend_13 T d K M (i : Int)
  | 0, i, M, hk, hF, hP, hb => fun d2 => by
    have hT : mdT n p u v = 201 := lst_none (fun j hj => hb j (by omega))
    exact rg_C_mend_13 (n := n) (w := w) (p := p) (u := u) (v := v) (And.intro (fun _ => hK _ M ⟨fun _ => rfl, fun z => absurd z (by omega), hF⟩) (fun z => absurd z (by omega))) d2
  | k + 1, i, M, hk, hF, hP, hb => fun d2 => by
    have hI := hL.2.2.2
    have h8 := hI.2.1
    have hL2 := qLR_mem hL (hF 4 (by decide)) (hF 6 (by decide)) (hF 8 (by decide))
    refine rg_C_mend_13 (n := n) (w := w) (p := p) (u := (mds n p (u, v) i).1) (v := (mds n p (u, v) i).2) (And.intro (fun z => absurd z (by omega)) (fun _ => And.intro hL2 (And.intro hP ?_))) d2
    intro y2 e2
    by_cases q : fbk n p (mds n p (u, v) i).1 (mds n p (u, v) i).2 = 99
    · rw [if_pos q, if_pos q] at e2
      have e2 : y2 = -1 := e2
      have hT : mdT n p u v = i := lst_eq (by omega) q (fun j hj => hb j hj)
      exact And.intro (fun z => absurd e2 z) (fun _ => hK _ M ⟨fun z => absurd z (by omega), fun _ => ⟨by rw [hT], by rw [hT]; exact hP⟩, hF⟩)
    · have hok := fbk_ok q
      have hn := mds_n q
      rw [if_neg q, if_neg q, cz_n (by omega)] at e2
      have e2 : y2 = (fbk n p (mds n p (u, v) i).1 (mds n p (u, v) i).2 : Int) := by omega
      generalize hz : fbk n p (mds n p (u, v) i).1 (mds n p (u, v) i).2 = z at q hok hn e2
      have e3 : Int.tdiv y2 10 = ((z / 10 : Nat) : Int) := by rw [e2]; rfl
      have e4 : Int.tmod y2 10 = ((z % 10 : Nat) : Int) := by rw [e2]; rfl
      rw [e3, e4]
      refine And.intro (fun _ => And.intro (by decide) (And.intro (by decide) (And.intro (by decide) ?_))) (fun w => absurd (by omega) w)
      intro M3 e5
      have hP3 : qPR M3 59 n (mds n p (u, v) (i + 1)).1 (mds n p (u, v) (i + 1)).2 := by
        rw [e5, hn]
        exact sJoin_l hP h8 hok.1 hok.2.1
      refine And.intro (by unfold qm_R; omega) ?_
      have := lp_C_mend (T := T) (d := d) hL hpm hK k (i + 1) M3 (by omega) (fun c hc => by rw [e5, sJoin_c hc]; exact hF c hc) hP3 (fun j hj => by
        by_cases hji : j = i
        · rw [hji, hz]; exact q
        · exact hb j (by omega))
      exact this
theorem s_C_mend {T : qm_L} {n : Nat} {w p u v : Nat → Nat} {d : Nat} {K : qm_K} {M : qm_M}  (hp0 : qLR M 4 n w p) (hp1 : qPR M 56 n u v) (hK : ∀ (r : Int) (M2 : qm_M), ((mdT n p u v = 201 → r = -7) ∧ (mdT n p u v < 201 → r = (mdT n p u v : Int) ∧ qPR M2 59 n (mds n p (u, v) (mdT n p u v)).1 (mds n p (u, v) (mdT n p u v)).2) ∧ ∀ c, c ≠ 61 → M2 c = M c) → K (.inl r) (qL T) M2) : qm_Runs qm_P (d + 6) 139 [(.inr (some 0))] (qL T) M K := by
  have hI := hp0.2.2.2
  have h8 := hI.2.1
  refine en_C_mend (n := n) (w := w) (p := p) (u := u) (v := v) (And.intro (by decide) ?_)
  intro M1 e1
  have c1 : ∀ c, c ≠ 61 → M1 c = M c := fun c hc => by rw [e1]; funext y; unfold cRow; rw [if_neg hc]
  have e61 : ∀ x, x < 16 → M1 61 x = M 58 x := fun x hx => by rw [e1]; unfold cRow; rw [if_pos rfl, if_pos hx]
  exact lp_C_mend hp0 hp1.2.2 hK 201 0 M1 (by omega) c1 ⟨fun a ha => by rw [e61 a (by omega)]; exact hp1.1 a ha, fun a ha => by rw [e61 (8 + a) (by omega)]; exact hp1.2.1 a ha, hp1.2.2⟩ (fun j hj => absurd hj (Nat.not_lt_zero _))
