/-! the text of lists -/
def bt (ln : Nat) (tp : Nat → Nat) (i : Nat) : Nat := if i < ln then tp i else 0
def dgt (n c : Nat) : Prop := 48 ≤ c ∧ c < 48 + n
def psP (M : qm_M) (n ln : Nat) (tp : Nat → Nat) : Prop := M 71 0 = (n : Int) ∧ 1 ≤ n ∧ n ≤ 8 ∧ M 71 14 = (ln : Int) ∧ ln ≤ 120 ∧ (∀ i, i < ln → M 78 i = (tp i : Int) ∧ tp i ≤ 126) ∧ 0 ≤ M 71 15 ∧ M 71 15 ≤ (ln : Int)
def psF (M2 M : qm_M) : Prop := ∀ c y, c ≠ 71 ∨ (y ≠ 15 ∧ y ≠ 16) → M2 c y = M c y
def fq (f a : Int) : Int := if f < 0 then a else f
theorem psP_F {M M2 : qm_M} {n ln : Nat} {tp : Nat → Nat} (h : psP M n ln tp) (hF : psF M2 M) (ha : 0 ≤ M2 71 15 ∧ M2 71 15 ≤ (ln : Int)) : psP M2 n ln tp := ⟨by rw [hF 71 0 (by omega)]; exact h.1, h.2.1, h.2.2.1, by rw [hF 71 14 (by omega)]; exact h.2.2.2.1, h.2.2.2.2.1, fun i hi => by rw [hF 78 i (by omega)]; exact h.2.2.2.2.2.1 i hi, ha⟩
theorem bt_le {M : qm_M} {n ln : Nat} {tp : Nat → Nat} (h : psP M n ln tp) (i : Nat) : bt ln tp i ≤ 126 := by
  unfold bt
  split
  · rename_i q; exact (h.2.2.2.2.2.1 i q).2
  · omega
/-- the byte that is looked at -/
theorem bt_at {M : qm_M} {n ln : Nat} {tp : Nat → Nat} (h : psP M n ln tp) (hl : M 71 15 < (ln : Int)) : M 78 (Int.toNat (M 71 15)) = (bt ln tp (Int.toNat (M 71 15)) : Int) := by
  have := h.2.2.2.2.2.2.1
  unfold bt
  rw [if_pos (by omega)]
  exact (h.2.2.2.2.2.1 _ (by omega)).1
theorem bt_no {ln : Nat} {tp : Nat → Nat} {a : Int} (hl : (ln : Int) ≤ a) : bt ln tp (Int.toNat a) = 0 := if_neg (by omega)
theorem bt_lt {M : qm_M} {n ln : Nat} {tp : Nat → Nat} (h : psP M n ln tp) (hb : 0 < bt ln tp (Int.toNat (M 71 15))) : M 71 15 < (ln : Int) := by
  rcases Int.lt_or_le (M 71 15) ln with q | q
  · exact q
  · rw [bt_no q] at hb; omega
theorem en_R_sees   {d : Nat} {K : qm_K} {M : qm_M} {x : Int} {y : Int} (h :
    (0 ≤ (M 71 16) →
     K (.inl 0) (qL qLM) M) ∧
    (¬ 0 ≤ (M 71 16) →
     ((M 71 14) ≤ (M 71 15) →
      K (.inl 0) (qL qLM) M) ∧
     (¬ (M 71 14) ≤ (M 71 15) →
      0 ≤ (M 71 15) ∧ (M 71 15) < 120 ∧
      ∀ (y1 : Int), y1 = (M 78 (Int.toNat (M 71 15))) →
      ((x ≤ y1 ∧ y1 ≤ y) →
       K (.inl 1) (qL qLM) M) ∧
      (¬ (x ≤ y1 ∧ y1 ≤ y) →
       K (.inl 0) (qL qLM) M)))) : qm_Runs qm_P (d + 2) 153 [(.inr (some 71)), (.inl x), (.inl y)] (qL qLM) M K :=
  And.intro (Nat.le_of_ble_eq_true rfl) (show qm_TT qi_153 (qm_Runs qm_P (d + 1)) K 0 [some (.inr (some 71)), some (.inl x), some (.inl y)] [] (qL qLM) M 0 0 from qm_wp_TT [] 23 (And.intro (lf_71_16 ()) (And.intro (fun q2 => And.intro (Or.inl rfl) (h.1 q2)) (fun q3 => And.intro (lf_71_15 ()) (And.intro (lf_71_14 ()) (And.intro (fun q4 => And.intro (Or.inl rfl) ((h.2 q3).1 q4)) (fun q5 => Exists.intro 78 (And.intro (lf_71_10 ()) (And.intro (lf_71_15 ()) (Exists.intro 120 (And.intro (la_78 ()) (And.intro ((h.2 q3).2 q5).1 (And.intro ((h.2 q3).2 q5).2.1 (And.intro True.intro (s_R_isIn (d := d + 0)   (And.intro (fun q6 => And.intro (Or.inl rfl) ((((h.2 q3).2 q5).2.2 _ rfl).2 (qm_b0 q6))) (fun q7 => And.intro (Or.inr rfl) ((((h.2 q3).2 q5).2.2 _ rfl).1 (qm_b1 q7)))))))))))))))))))
theorem s_R_sees  {n ln : Nat} {tp : Nat → Nat} {d : Nat} {K : qm_K} {M : qm_M} {x : Int} {y : Int} (hp0 : psP M n ln tp) (hp1 : 32 ≤ (x : Int)) (hK : K (.inl (qm_b (M 71 16 < 0 ∧ (x : Int) ≤ (bt ln tp (Int.toNat (M 71 15)) : Int) ∧ (bt ln tp (Int.toNat (M 71 15)) : Int) ≤ y))) (qL qLM) M) : qm_Runs qm_P (d + 2) 153 [(.inr (some 71)), (.inl x), (.inl y)] (qL qLM) M K := by
  have h0 := hp0.2.2.2.2.2.2.1
  have h120 := hp0.2.2.2.2.1
  refine en_R_sees (And.intro (fun h => qk_eq hK (qm_bff (by omega))) (fun h => ?_))
  rw [hp0.2.2.2.1]
  refine And.intro (fun h2 => qk_eq hK (qm_bff (by rw [bt_no h2]; omega))) (fun h2 => And.intro h0 (And.intro (by omega) ?_))
  intro y1 e1
  rw [bt_at hp0 (by omega)] at e1
  refine And.intro (fun h3 => qk_eq hK (qm_bt (by omega))) (fun h3 => qk_eq hK (qm_bff (by omega)))
theorem en_R_takes  {n ln : Nat} {tp : Nat → Nat} {d : Nat} {K : qm_K} {M : qm_M} {x : Int} (h :
    (psP M n ln tp) ∧
    (32 ≤ (x : Int)) ∧
    ((M 71 16 < 0 ∧ (x : Int) ≤ (bt ln tp (Int.toNat (M 71 15)) : Int) ∧ (bt ln tp (Int.toNat (M 71 15)) : Int) ≤ x) →
     qm_R ((M 71 15) + 1) ∧
     ∀ (M1 : qm_M), M1 = (qm_u M 71 15 ((M 71 15) + 1)) →
     K (.inl 1) (qL qLM) M1) ∧
    (¬ (M 71 16 < 0 ∧ (x : Int) ≤ (bt ln tp (Int.toNat (M 71 15)) : Int) ∧ (bt ln tp (Int.toNat (M 71 15)) : Int) ≤ x) →
     (0 ≤ (M 71 16) →
      K (.inl 0) (qL qLM) M) ∧
     (¬ 0 ≤ (M 71 16) →
      ∀ (M2 : qm_M), M2 = (qm_u M 71 16 (M 71 15)) →
      K (.inl 0) (qL qLM) M2))) : qm_Runs qm_P (d + 3) 154 [(.inr (some 71)), (.inl x)] (qL qLM) M K :=
  And.intro (Nat.le_of_ble_eq_true rfl) (show qm_TT qi_154 (qm_Runs qm_P (d + 2)) K 0 [some (.inr (some 71)), some (.inl x)] [] (qL qLM) M 0 0 from qm_wp_TT [] 17 (And.intro (lo_71 ()) (s_R_sees (d := d + 0)  (h.1) (h.2.1) (And.intro (fun q3 => And.intro (lf_71_16 ()) (And.intro (fun q5 => And.intro (Or.inl rfl) ((h.2.2.2 (qm_b0 q3)).1 q5)) (fun q6 => And.intro (lf_71_15 ()) (And.intro (lf_71_16 ()) (And.intro (Or.inl rfl) (((h.2.2.2 (qm_b0 q3)).2 q6) _ rfl)))))) (fun q4 => And.intro (lf_71_15 ()) (And.intro (h.2.2.1 (qm_b1 q4)).1 (And.intro (lf_71_15 ()) (And.intro (Or.inr rfl) ((h.2.2.1 (qm_b1 q4)).2 _ rfl)))))))))
theorem s_R_takes  {n ln : Nat} {tp : Nat → Nat} {d : Nat} {K : qm_K} {M : qm_M} {x : Int} (hp0 : psP M n ln tp) (hp1 : 32 ≤ (x : Int)) (hK : ∀ (r : Int) (M2 : qm_M), ((M 71 16 < 0 ∧ (bt ln tp (Int.toNat (M 71 15)) : Int) = x → r = 1 ∧ M2 71 15 = M 71 15 + 1 ∧ M2 71 16 = M 71 16) ∧ (¬ (M 71 16 < 0 ∧ (bt ln tp (Int.toNat (M 71 15)) : Int) = x) → r = 0 ∧ M2 71 15 = M 71 15 ∧ M2 71 16 = fq (M 71 16) (M 71 15)) ∧ psF M2 M) → K (.inl r) (qL qLM) M2) : qm_Runs qm_P (d + 3) 154 [(.inr (some 71)), (.inl x)] (qL qLM) M K := by
  have h0 := hp0.2.2.2.2.2.2.1
  have h120 := hp0.2.2.2.2.1
  refine en_R_takes (n := n) (ln := ln) (tp := tp) (And.intro hp0 (And.intro hp1 (And.intro (fun h => ?_) (fun h => ?_))))
  · have hl := bt_lt hp0 (by omega)
    refine And.intro (by unfold qm_R; omega) ?_
    intro M4 e4
    exact hK 1 M4 ⟨fun _ => ⟨rfl, by rw [e4, qu_s], by rw [e4, qu_k (by decide)]⟩, fun z => absurd ⟨h.1, by omega⟩ z, fun c y hc => by
      rw [e4]
      rcases hc with hc | hc
      · rw [qu_c hc]
      · rw [qu_k hc.1]⟩
  · refine And.intro (fun h2 => hK 0 M ⟨fun z => absurd z (by omega), fun _ => ⟨rfl, rfl, by unfold fq; rw [if_neg (by omega)]⟩, fun _ _ _ => rfl⟩) (fun h2 => ?_)
    intro M3 e3
    exact hK 0 M3 ⟨fun z => absurd z (by omega), fun _ => ⟨rfl, by rw [e3, qu_k (by decide)], by unfold fq; rw [if_pos (by omega), e3, qu_s]⟩, fun c y hc => by
      rw [e3]
      rcases hc with hc | hc
      · rw [qu_c hc]
      · rw [qu_k hc.2]⟩
theorem en_R_figure  {n ln : Nat} {tp : Nat → Nat} {d : Nat} {K : qm_K} {M : qm_M} {x : Int} (h :
    qm_R (48 + (M 71 0)) ∧
    qm_R ((48 + (M 71 0)) - 1) ∧
    (psP M n ln tp) ∧
    (32 ≤ ((48 : Int) : Int)) ∧
    ((M 71 16 < 0 ∧ (48 : Int) ≤ (bt ln tp (Int.toNat (M 71 15)) : Int) ∧ (bt ln tp (Int.toNat (M 71 15)) : Int) ≤ ((48 + (M 71 0)) - 1)) →
     0 ≤ (M 71 15) ∧ (M 71 15) < 120 ∧
     ∀ (y1 : Int), y1 = (M 78 (Int.toNat (M 71 15))) →
     qm_R (y1 - 48) ∧
     ((qm_and (qm_shr x (y1 - 48)) 1 = 1) →
      (0 ≤ (M 71 16) →
       K (.inl 0) (qL qLM) M) ∧
      (¬ 0 ≤ (M 71 16) →
       ∀ (M2 : qm_M), M2 = (qm_u M 71 16 (M 71 15)) →
       K (.inl 0) (qL qLM) M2)) ∧
     (¬ (qm_and (qm_shr x (y1 - 48)) 1 = 1) →
      qm_R ((M 71 15) + 1) ∧
      ∀ (M3 : qm_M), M3 = (qm_u M 71 15 ((M 71 15) + 1)) →
      qm_R ((M3 71 15) - 1) ∧
      0 ≤ ((M3 71 15) - 1) ∧ ((M3 71 15) - 1) < 120 ∧
      ∀ (y4 : Int), y4 = (M3 78 (Int.toNat ((M3 71 15) - 1))) →
      qm_R (y4 - 48) ∧
      K (.inl ((y4 - 48))) (qL qLM) M3)) ∧
    (¬ (M 71 16 < 0 ∧ (48 : Int) ≤ (bt ln tp (Int.toNat (M 71 15)) : Int) ∧ (bt ln tp (Int.toNat (M 71 15)) : Int) ≤ ((48 + (M 71 0)) - 1)) →
     (0 ≤ (M 71 16) →
      K (.inl 0) (qL qLM) M) ∧
     (¬ 0 ≤ (M 71 16) →
      ∀ (M5 : qm_M), M5 = (qm_u M 71 16 (M 71 15)) →
      K (.inl 0) (qL qLM) M5))) : qm_Runs qm_P (d + 3) 155 [(.inr (some 71)), (.inl x)] (qL qLM) M K :=
  And.intro (Nat.le_of_ble_eq_true rfl) (show qm_TT qi_155 (qm_Runs qm_P (d + 2)) K 0 [some (.inr (some 71)), some (.inl x)] [] (qL qLM) M 0 0 from qm_wp_TT [] 39 (And.intro (lf_71_0 ()) (And.intro h.1 (And.intro h.2.1 (And.intro (lo_71 ()) (s_R_sees (d := d + 0)  (h.2.2.1) (h.2.2.2.1) (And.intro (fun q6 => And.intro (lf_71_16 ()) (And.intro (fun q8 => ((h.2.2.2.2.2 (qm_b0 q6)).1 q8)) (fun q9 => And.intro (lf_71_15 ()) (And.intro (lf_71_16 ()) ((((h.2.2.2.2.2 (qm_b0 q6)).2 q9) _ rfl)))))) (fun q7 => Exists.intro 78 (And.intro (lf_71_10 ()) (And.intro (lf_71_15 ()) (Exists.intro 120 (And.intro (la_78 ()) (And.intro (h.2.2.2.2.1 (qm_b1 q7)).1 (And.intro (h.2.2.2.2.1 (qm_b1 q7)).2.1 (And.intro ((h.2.2.2.2.1 (qm_b1 q7)).2.2 _ rfl).1 (And.intro True.intro (s_R_has (d := d + 1)   (And.intro (fun q10 => And.intro (lf_71_15 ()) (And.intro (((h.2.2.2.2.1 (qm_b1 q7)).2.2 _ rfl).2.2 (qm_b0 q10)).1 (And.intro (lf_71_15 ()) (Exists.intro 78 (And.intro (lf_71_10 ()) (And.intro (lf_71_15 ()) (And.intro ((((h.2.2.2.2.1 (qm_b1 q7)).2.2 _ rfl).2.2 (qm_b0 q10)).2 _ rfl).1 (Exists.intro 120 (And.intro (la_78 ()) (And.intro ((((h.2.2.2.2.1 (qm_b1 q7)).2.2 _ rfl).2.2 (qm_b0 q10)).2 _ rfl).2.1 (And.intro ((((h.2.2.2.2.1 (qm_b1 q7)).2.2 _ rfl).2.2 (qm_b0 q10)).2 _ rfl).2.2.1 (And.intro (((((h.2.2.2.2.1 (qm_b1 q7)).2.2 _ rfl).2.2 (qm_b0 q10)).2 _ rfl).2.2.2 _ rfl).1 ((((((h.2.2.2.2.1 (qm_b1 q7)).2.2 _ rfl).2.2 (qm_b0 q10)).2 _ rfl).2.2.2 _ rfl).2))))))))))))) (fun q11 => And.intro (lf_71_16 ()) (And.intro (fun q12 => ((((h.2.2.2.2.1 (qm_b1 q7)).2.2 _ rfl).2.1 (qm_b1 q11)).1 q12)) (fun q13 => And.intro (lf_71_15 ()) (And.intro (lf_71_16 ()) ((((((h.2.2.2.2.1 (qm_b1 q7)).2.2 _ rfl).2.1 (qm_b1 q11)).2 q13) _ rfl))))))))))))))))))))))))
theorem s_R_figure  {n ln : Nat} {tp : Nat → Nat} {d : Nat} {K : qm_K} {M : qm_M} {x : Int} (hp0 : psP M n ln tp) (hp1 : 0 ≤ (x : Int) ∧ (x : Int) < 1024) (hK : ∀ (r : Int) (M2 : qm_M), (((M 71 16 < 0 ∧ dgt n (bt ln tp (Int.toNat (M 71 15))) ∧ ¬ bS (Int.toNat x) (bt ln tp (Int.toNat (M 71 15)) - 48)) → r = ((bt ln tp (Int.toNat (M 71 15)) - 48 : Nat) : Int) ∧ M2 71 15 = M 71 15 + 1 ∧ M2 71 16 = M 71 16) ∧ (¬ (M 71 16 < 0 ∧ dgt n (bt ln tp (Int.toNat (M 71 15))) ∧ ¬ bS (Int.toNat x) (bt ln tp (Int.toNat (M 71 15)) - 48)) → r = 0 ∧ M2 71 15 = M 71 15 ∧ M2 71 16 = fq (M 71 16) (M 71 15)) ∧ psF M2 M) → K (.inl r) (qL qLM) M2) : qm_Runs qm_P (d + 3) 155 [(.inr (some 71)), (.inl x)] (qL qLM) M K := by
  have h0 := hp0.2.2.2.2.2.2.1
  have h120 := hp0.2.2.2.2.1
  have h8 := hp0.2.2.1
  have hb := bt_le hp0 (Int.toNat (M 71 15))
  refine en_R_figure (n := n) (ln := ln) (tp := tp) ?_
  rw [hp0.1]
  have bad : ¬ (M 71 16 < 0 ∧ dgt n (bt ln tp (Int.toNat (M 71 15))) ∧ ¬ bS (Int.toNat x) (bt ln tp (Int.toNat (M 71 15)) - 48)) → (0 ≤ M 71 16 → K (.inl 0) (qL qLM) M) ∧ (¬ 0 ≤ M 71 16 → ∀ M3 : qm_M, M3 = qm_u M 71 16 (M 71 15) → K (.inl 0) (qL qLM) M3) := fun hn => ⟨fun h2 => hK 0 M ⟨fun z => absurd z hn, fun _ => ⟨rfl, rfl, by unfold fq; rw [if_neg (by omega)]⟩, fun _ _ _ => rfl⟩, fun h2 M3 e3 => hK 0 M3 ⟨fun z => absurd z hn, fun _ => ⟨rfl, by rw [e3, qu_k (by decide)], by unfold fq; rw [if_pos (by omega), e3, qu_s]⟩, fun c y hc => by
      rw [e3]
      rcases hc with hc | hc
      · rw [qu_c hc]
      · rw [qu_k hc.2]⟩⟩
  refine And.intro (by unfold qm_R; omega) (And.intro (by unfold qm_R; omega) (And.intro hp0 (And.intro (by omega) (And.intro (fun h => ?_) (fun h => ?_)))))
  · have hl := bt_lt hp0 (by omega)
    refine And.intro h0 (And.intro (by omega) ?_)
    intro y4 e4
    rw [bt_at hp0 hl] at e4
    have ex : y4 - 48 = ((bt ln tp (Int.toNat (M 71 15)) - 48 : Nat) : Int) := by omega
    have hbit : (qm_and (qm_shr x (y4 - 48)) 1 = 1) ↔ bS (Int.toNat x) (bt ln tp (Int.toNat (M 71 15)) - 48) := by
      rw [ex, show x = ((Int.toNat x : Nat) : Int) by omega, qb_bit (by omega) (by omega), Int.toNat_natCast]
      unfold bS
      split
      · rename_i q; exact ⟨fun _ => q, fun _ => rfl⟩
      · rename_i q; exact ⟨fun z => absurd z (by decide), fun z => absurd z q⟩
    refine And.intro (by unfold qm_R; omega) (And.intro (fun h2 => bad (fun z => z.2.2 (hbit.mp h2))) (fun h2 => And.intro (by unfold qm_R; omega) ?_))
    intro M6 e6
    have e15 : M6 71 15 = M 71 15 + 1 := by rw [e6, qu_s]
    have e78 : M6 78 = M 78 := by rw [e6, qu_cf (by decide)]
    rw [e15]
    refine And.intro (by unfold qm_R; omega) (And.intro (by omega) (And.intro (by omega) ?_))
    intro y7 e7
    rw [e78, show M 71 15 + 1 - 1 = M 71 15 by omega, bt_at hp0 hl] at e7
    refine And.intro (by unfold qm_R; omega) ?_
    exact hK _ M6 ⟨fun _ => ⟨by omega, e15, by rw [e6, qu_k (by decide)]⟩, fun z => absurd ⟨h.1, by unfold dgt; omega, fun q => h2 (hbit.mpr q)⟩ z, fun c y hc => by
      rw [e6]
      rcases hc with hc | hc
      · rw [qu_c hc]
      · rw [qu_k hc.1]⟩
  · exact bad (fun z => h ⟨z.1, by have := z.2.1; unfold dgt at this; omega⟩)
