def fnF (M2 M : qm_M) : Prop := ∀ c x, c ≠ 86 → c ≠ 89 → c ≠ 90 → c ≠ 93 → c ≠ 94 → c ≠ 71 ∨ (x ≠ 31 ∧ x ≠ 32) → M2 c x = M c x
theorem fnF_MR {M M0 : qm_M} {n : Nat} {w p : Nat → Nat} (h : qMR M0 n w p) (hF : fnF M M0) : qMR M n w p := qMR_mem h (hF 71 0 (by decide) (by decide) (by decide) (by decide) (by decide) (Or.inr (by decide))) (funext fun x => hF 72 x (by decide) (by decide) (by decide) (by decide) (by decide) (Or.inl (by decide))) (funext fun x => hF 73 x (by decide) (by decide) (by decide) (by decide) (by decide) (Or.inl (by decide)))
theorem isF_L {n : Nat} {w p : Nat → Nat} {t : Nat} (h : rL n w p t < n) : isF (rF n w p t) (rL n w p t) := by
  have hc : cyc (rF n w p t) (rL n w p t) := lst_P (P := cyc (rF n w p t)) h
  exact ⟨hc, fun k => Nat.le_of_not_lt fun z => lst_not (P := cyc (rF n w p t)) z (inC_cyc hc ⟨k, rfl⟩)⟩
theorem rCy_ct {M : qm_M} {n : Nat} {w p : Nat → Nat} {t : Nat} (h : rCy M (rF n w p t) (rU n w p t) (rL n w p t)) : rCt M n w p t := h
def at_R_finds_24  (d : Nat) (K : qm_K) (M : qm_M) (x1 : Int) : Prop := ∀ (d2 : Option qm_V), qm_TT qi_177 (qm_Runs qm_P (d + 4)) K 24 [some (.inr (some 71)), some (.inl x1), d2] [] (qL qLM) M 0 0
def at_R_finds_40  (d : Nat) (K : qm_K) (M : qm_M) (x1 x2 : Int) : Prop := qm_TT qi_177 (qm_Runs qm_P (d + 4)) K 40 [some (.inr (some 71)), some (.inl x1), some (.inl x2)] [] (qL qLM) M 0 0
theorem rg_R_finds_24  {n i td : Nat} {w p u v ud ue : Nat → Nat} {d : Nat} {K : qm_K} {M : qm_M} {x1 : Int} (h :
    (x1 = 0 →
     K (.inl 0) (qL qLM) M) ∧
    (¬ x1 = 0 →
     (qMR M n w p) ∧
     (qAr M 86 n u ∧ qMt n u v ∧ 8 ≤ (8 : Nat) ∧ 86 ≠ 93) ∧
     (∀ (M4 : qm_M), (rNx M4 n w p u v ∧ ∀ c, c ≠ 93 → M4 c = M c) →
      at_R_finds_40  d K M4 0 0))) : at_R_finds_24  d K M x1 :=
  fun d2 => qm_wp_TT [24, 40] 44 (And.intro (fun q17 => (h.1 q17)) (fun q18 => Exists.intro 86 (And.intro (lf_71_21 ()) (And.intro (lo_71 ()) (s_R_nexts (d := d + 0) (And.intro (la_86 ()) (by decide)) ((h.2 q18).1) ((h.2 q18).2.1) (fun M4 p19 => ((h.2 q18).2.2 M4 p19)))))))
theorem rg_R_finds_40  {n i td : Nat} {w p u v ud ue : Nat → Nat} {d : Nat} {K : qm_K} {M : qm_M} {x1 x2 : Int} (h :
    ((M 71 0) ≤ x2 →
     (x1 ≠ 0 →
      0 ≤ (M 71 31) ∧ (M 71 31) < 28 ∧
      ∀ (M5 : qm_M), M5 = (qm_u M 90 (Int.toNat (M 71 31)) (M 71 32)) →
      qm_R (8 * (M5 71 31)) ∧
      (0 ≤ ((0 : Int) : Int) ∧ 0 ≤ ((8 * (M5 71 31)) : Int) ∧ 0 ≤ ((M5 71 32) : Int) ∧ ((0 : Int) : Int) + (M5 71 32) ≤ (8 : Int) ∧ ((8 * (M5 71 31)) : Int) + (M5 71 32) ≤ (224 : Int)) ∧
      ((94 : Nat) ≠ 89 ∨ ((8 * (M5 71 31)) : Int) ≤ (0 : Int)) ∧
      ∀ (M6 : qm_M), M6 = (cpM M5 94 0 89 (8 * (M5 71 31)) (M5 71 32)) →
      (qInv n w p ∧ td < rT n w p ∧ (M6 71 31) = (td : Int) ∧ qRt M6 n w p td) ∧
      (qAr M6 86 n ud ∧ 8 ≤ (8 : Nat) ∧ 86 ≠ 89 ∧ 86 ≠ 90) ∧
      ((∀ a, rIn n w p td a → ue a = rX n w p td a) ∧ ∀ a, ¬ rIn n w p td a → ue a = ud a) ∧
      (∀ (M8 : qm_M), (qAr M8 86 n ue ∧ ∀ c, c ≠ 86 → M8 c = M6 c) →
       qm_R ((M8 71 31) + 1) ∧
       ∀ (M9 : qm_M), M9 = (qm_u M8 71 31 ((M8 71 31) + 1)) →
       at_R_finds_24  d K M9 x1)) ∧
     (¬ x1 ≠ 0 →
      K (.inl 0) (qL qLM) M)) ∧
    (¬ (M 71 0) ≤ x2 →
     (x1 ≠ 0 →
      (x1 ≠ 0 →
       0 ≤ (M 71 31) ∧ (M 71 31) < 28 ∧
       ∀ (M10 : qm_M), M10 = (qm_u M 90 (Int.toNat (M 71 31)) (M 71 32)) →
       qm_R (8 * (M10 71 31)) ∧
       (0 ≤ ((0 : Int) : Int) ∧ 0 ≤ ((8 * (M10 71 31)) : Int) ∧ 0 ≤ ((M10 71 32) : Int) ∧ ((0 : Int) : Int) + (M10 71 32) ≤ (8 : Int) ∧ ((8 * (M10 71 31)) : Int) + (M10 71 32) ≤ (224 : Int)) ∧
       ((94 : Nat) ≠ 89 ∨ ((8 * (M10 71 31)) : Int) ≤ (0 : Int)) ∧
       ∀ (M11 : qm_M), M11 = (cpM M10 94 0 89 (8 * (M10 71 31)) (M10 71 32)) →
       (qInv n w p ∧ td < rT n w p ∧ (M11 71 31) = (td : Int) ∧ qRt M11 n w p td) ∧
       (qAr M11 86 n ud ∧ 8 ≤ (8 : Nat) ∧ 86 ≠ 89 ∧ 86 ≠ 90) ∧
       ((∀ a, rIn n w p td a → ue a = rX n w p td a) ∧ ∀ a, ¬ rIn n w p td a → ue a = ud a) ∧
       (∀ (M13 : qm_M), (qAr M13 86 n ue ∧ ∀ c, c ≠ 86 → M13 c = M11 c) →
        qm_R ((M13 71 31) + 1) ∧
        ∀ (M14 : qm_M), M14 = (qm_u M13 71 31 ((M13 71 31) + 1)) →
        at_R_finds_24  d K M14 x1)) ∧
      (¬ x1 ≠ 0 →
       K (.inl 0) (qL qLM) M)) ∧
     (¬ x1 ≠ 0 →
      (qInv n w p ∧ M 71 0 = (n : Int) ∧ rNx M n w p u v) ∧
      (qAr M 86 n u ∧ qMt n u v ∧ 8 ≤ (8 : Nat) ∧ 86 ≠ 94 ∧ 86 ≠ 71) ∧
      (i < n ∧ x2 = (i : Int)) ∧
      (∀ (r15 : Int) (M16 : qm_M), (r15 = qm_b (isF (fo n w p u v) i) ∧ (isF (fo n w p u v) i → rCy M16 (fo n w p u v) u i) ∧ ∀ c x, c ≠ 94 → c ≠ 71 ∨ x ≠ 32 → M16 c x = M c x) →
       qm_R (x2 + 1) ∧
       at_R_finds_40  d K M16 r15 ((x2 + 1)))))) : at_R_finds_40  d K M x1 x2 :=
  qm_wp_TT [24, 40] 44 (And.intro (lf_71_0 ()) (And.intro (fun q20 => And.intro (fun q22 => Exists.intro 90 (And.intro (lf_71_26 ()) (And.intro (lf_71_31 ()) (And.intro (lf_71_32 ()) (Exists.intro 28 (And.intro (la_90 ()) (And.intro ((h.1 q20).1 q22).1 (And.intro ((h.1 q20).1 q22).2.1 (Exists.intro 94 (And.intro (lf_71_30 ()) (Exists.intro 89 (And.intro (lf_71_25 ()) (And.intro (lf_71_31 ()) (And.intro (((h.1 q20).1 q22).2.2 _ rfl).1 (And.intro (lf_71_32 ()) (And.intro True.intro (s_R_copies (d := d + 3) (And.intro (la_94 ()) (by decide)) (And.intro (la_89 ()) (by decide)) ((((h.1 q20).1 q22).2.2 _ rfl).2.1) ((((h.1 q20).1 q22).2.2 _ rfl).2.2.1) (And.intro (lf_71_31 ()) (Exists.intro 86 (And.intro (lf_71_21 ()) (And.intro (lo_71 ()) (s_R_does (d := d + 3) (And.intro (la_86 ()) (by decide)) (((((h.1 q20).1 q22).2.2 _ rfl).2.2.2 _ rfl).1) (((((h.1 q20).1 q22).2.2 _ rfl).2.2.2 _ rfl).2.1) (((((h.1 q20).1 q22).2.2 _ rfl).2.2.2 _ rfl).2.2.1) (fun M8 p24 => And.intro (lf_71_31 ()) (And.intro (((((h.1 q20).1 q22).2.2 _ rfl).2.2.2 _ rfl).2.2.2 M8 p24).1 (And.intro (lf_71_31 ()) (((((((h.1 q20).1 q22).2.2 _ rfl).2.2.2 _ rfl).2.2.2 M8 p24).2 _ rfl) _)))))))))))))))))))))))))) (fun q23 => ((h.1 q20).2 q23))) (fun q21 => And.intro (fun q25 => And.intro (fun q27 => Exists.intro 90 (And.intro (lf_71_26 ()) (And.intro (lf_71_31 ()) (And.intro (lf_71_32 ()) (Exists.intro 28 (And.intro (la_90 ()) (And.intro (((h.2 q21).1 q25).1 q27).1 (And.intro (((h.2 q21).1 q25).1 q27).2.1 (Exists.intro 94 (And.intro (lf_71_30 ()) (Exists.intro 89 (And.intro (lf_71_25 ()) (And.intro (lf_71_31 ()) (And.intro ((((h.2 q21).1 q25).1 q27).2.2 _ rfl).1 (And.intro (lf_71_32 ()) (And.intro True.intro (s_R_copies (d := d + 3) (And.intro (la_94 ()) (by decide)) (And.intro (la_89 ()) (by decide)) (((((h.2 q21).1 q25).1 q27).2.2 _ rfl).2.1) (((((h.2 q21).1 q25).1 q27).2.2 _ rfl).2.2.1) (And.intro (lf_71_31 ()) (Exists.intro 86 (And.intro (lf_71_21 ()) (And.intro (lo_71 ()) (s_R_does (d := d + 3) (And.intro (la_86 ()) (by decide)) ((((((h.2 q21).1 q25).1 q27).2.2 _ rfl).2.2.2 _ rfl).1) ((((((h.2 q21).1 q25).1 q27).2.2 _ rfl).2.2.2 _ rfl).2.1) ((((((h.2 q21).1 q25).1 q27).2.2 _ rfl).2.2.2 _ rfl).2.2.1) (fun M13 p29 => And.intro (lf_71_31 ()) (And.intro ((((((h.2 q21).1 q25).1 q27).2.2 _ rfl).2.2.2 _ rfl).2.2.2 M13 p29).1 (And.intro (lf_71_31 ()) ((((((((h.2 q21).1 q25).1 q27).2.2 _ rfl).2.2.2 _ rfl).2.2.2 M13 p29).2 _ rfl) _)))))))))))))))))))))))))) (fun q28 => (((h.2 q21).1 q25).2 q28))) (fun q26 => Exists.intro 86 (And.intro (lf_71_21 ()) (And.intro (lo_71 ()) (s_R_isFirst (d := d + 2) (And.intro (la_86 ()) (by decide)) (((h.2 q21).2 q26).1) (((h.2 q21).2 q26).2.1) (((h.2 q21).2 q26).2.2.1) (fun r15 M16 p30 => And.intro (((h.2 q21).2 q26).2.2.2 r15 M16 p30).1 ((((h.2 q21).2 q26).2.2.2 r15 M16 p30).2)))))))))
theorem en_R_finds  {n i td : Nat} {w p u v ud ue : Nat → Nat} {d : Nat} {K : qm_K} {M : qm_M}  (h :
    ∀ (M1 : qm_M), M1 = (qm_u M 71 31 0) →
    (0 ≤ ((0 : Int) : Int) ∧ 0 ≤ ((0 : Int) : Int) ∧ 0 ≤ ((M1 71 0) : Int) ∧ ((0 : Int) : Int) + (M1 71 0) ≤ (8 : Int) ∧ ((0 : Int) : Int) + (M1 71 0) ≤ (8 : Int)) ∧
    ((85 : Nat) ≠ 86 ∨ ((0 : Int) : Int) ≤ (0 : Int)) ∧
    ∀ (M2 : qm_M), M2 = (cpM M1 85 0 86 0 (M1 71 0)) →
    at_R_finds_24  d K M2 1) : qm_Runs qm_P (d + 5) 177 [(.inr (some 71))] (qL qLM) M K :=
  And.intro (Nat.le_of_ble_eq_true rfl) (show qm_TT qi_177 (qm_Runs qm_P (d + 4)) K 0 [some (.inr (some 71)), none, none] [] (qL qLM) M 0 0 from qm_wp_TT [24, 40] 44 (And.intro (lf_71_31 ()) (Exists.intro 85 (And.intro (lf_71_20 ()) (Exists.intro 86 (And.intro (lf_71_21 ()) (And.intro (lf_71_0 ()) (And.intro True.intro (s_R_copies (d := d + 3) (And.intro (la_85 ()) (by decide)) (And.intro (la_86 ()) (by decide)) ((h _ rfl).1) ((h _ rfl).2.1) (((h _ rfl).2.2 _ rfl) _))))))))))
theorem lp_R_finds {d : Nat} {K : qm_K} {M0 : qm_M} {n : Nat} {w p : Nat → Nat} (hMR : qMR M0 n w p) (hK : ∀ M2 : qm_M, (qRp M2 n w p (rT n w p) ∧ fnF M2 M0) → K (.inl 0) (qL qLM) M2) : ∀ (j t : Nat) (M : qm_M), t + j = rT n w p → qRp M n w p t → qAr M 86 n (rU n w p t) → fnF M M0 → at_R_finds_24 d K M 1 := by
  have hI := hMR.2.2.2
  have h8 := hI.2.1
  have h28 := (r_T hI).1
  have tl : ∀ (t : Nat) (M : qm_M), t < rT n w p → (∀ M2, qRp M2 n w p (t + 1) → qAr M2 86 n (rU n w p (t + 1)) → fnF M2 M0 → at_R_finds_24 d K M2 1) → qRp M n w p t → qAr M 86 n (rU n w p t) → fnF M M0 → rCt M n w p t →
      0 ≤ (M 71 31) ∧ (M 71 31) < 28 ∧
      ∀ (M5 : qm_M), M5 = (qm_u M 90 (Int.toNat (M 71 31)) (M 71 32)) →
      qm_R (8 * (M5 71 31)) ∧
      (0 ≤ ((0 : Int) : Int) ∧ 0 ≤ ((8 * (M5 71 31)) : Int) ∧ 0 ≤ ((M5 71 32) : Int) ∧ ((0 : Int) : Int) + (M5 71 32) ≤ (8 : Int) ∧ ((8 * (M5 71 31)) : Int) + (M5 71 32) ≤ (224 : Int)) ∧
      ((94 : Nat) ≠ 89 ∨ ((8 * (M5 71 31)) : Int) ≤ (0 : Int)) ∧
      ∀ (M6 : qm_M), M6 = (cpM M5 94 0 89 (8 * (M5 71 31)) (M5 71 32)) →
      (qInv n w p ∧ t < rT n w p ∧ (M6 71 31) = (t : Int) ∧ qRt M6 n w p t) ∧
      (qAr M6 86 n (rU n w p t) ∧ 8 ≤ (8 : Nat) ∧ 86 ≠ 89 ∧ 86 ≠ 90) ∧
      ((∀ a, rIn n w p t a → rU n w p (t + 1) a = rX n w p t a) ∧ ∀ a, ¬ rIn n w p t a → rU n w p (t + 1) a = rU n w p t a) ∧
      (∀ (M8 : qm_M), (qAr M8 86 n (rU n w p (t + 1)) ∧ ∀ c, c ≠ 86 → M8 c = M6 c) →
       qm_R ((M8 71 31) + 1) ∧
       ∀ (M9 : qm_M), M9 = (qm_u M8 71 31 ((M8 71 31) + 1)) →
       at_R_finds_24  d K M9 1) := by
    intro t M ht hgo hR hu hF hC
    have hl := (T_lt hI ht).2
    have hlen := rlen_ok hI hl
    have l8 : rlen n w p t ≤ 8 := by omega
    rw [hR.1, hC.1]
    refine And.intro (by omega) (And.intro (by omega) ?_)
    intro M5 e5
    rw [Int.toNat_natCast] at e5
    have c5 : ∀ c, c ≠ 90 → M5 c = M c := fun c hc => by rw [e5, qu_cf hc]
    rw [c5 71 (by decide), hR.1, hC.1]
    refine And.intro (by unfold qm_R; omega) (And.intro (by omega) (And.intro (Or.inl (by decide)) ?_))
    intro M6 e6
    have c6 : ∀ c, c ≠ 89 → c ≠ 90 → M6 c = M c := fun c h1 h2 => by rw [e6, cpM_c h1, c5 c h2]
    have t6 : M6 71 31 = (t : Int) := by rw [c6 71 (by decide) (by decide)]; exact hR.1
    have r6 : qRt M6 n w p t := ⟨by rw [e6, cpM_c (by decide), e5, qu_s], fun k hk => by
      rw [e6, cpM_in (by omega), c5 94 (by decide), ← hC.2 k hk]
      congr 1
      omega⟩
    have o6 : ∀ y, y < t → qRt M6 n w p y := fun y hy => ⟨by rw [e6, cpM_c (by decide), e5, qu_k (by omega)]; exact (hR.2 y hy).1, fun k hk => by
      have := (rlen_ok hI (T_lt hI (show y < rT n w p by omega)).2).2.1
      rw [e6, cpM_out (by omega), c5 89 (by decide)]
      exact (hR.2 y hy).2 k hk⟩
    refine And.intro ⟨hI, ht, t6, r6⟩ (And.intro ⟨qAr_mem hu (c6 86 (by decide) (by decide)), by decide, by decide, by decide⟩ (And.intro ⟨fun a ha => (r_in hI hl ha).2.2.1, fun a ha => r_out hI ha⟩ ?_))
    intro M8 h8m
    have t8 : M8 71 31 = (t : Int) := by rw [h8m.2 71 (by decide)]; exact t6
    refine And.intro (by rw [t8]; unfold qm_R; omega) ?_
    intro M9 e9
    rw [t8] at e9
    have c9 : ∀ c, c ≠ 71 → c ≠ 86 → M9 c = M6 c := fun c h1 h2 => by rw [e9, qu_cf h1, h8m.2 c h2]
    refine hgo M9 ⟨by rw [e9, qu_s]; rfl, fun y hy => ?_⟩ (qAr_mem h8m.1 (by rw [e9, qu_cf (by decide)])) (fun c x q1 q2 q3 q4 q5 q6 => ?_)
    · have : qRt M6 n w p y := by
        by_cases hyt : y = t
        · rw [hyt]; exact r6
        · exact o6 y (by omega)
      unfold qRt at *
      rw [c9 90 (by decide) (by decide), c9 89 (by decide) (by decide)]
      exact this
    · rw [← hF c x q1 q2 q3 q4 q5 q6, ← c6 c q2 q3, ← h8m.2 c q1, e9]
      rcases q6 with q6 | q6
      · rw [qu_c q6]
      · rw [qu_k q6.1]
  have step : ∀ (t : Nat) (M : qm_M), t ≤ rT n w p → (t < rT n w p → ∀ M2, qRp M2 n w p (t + 1) → qAr M2 86 n (rU n w p (t + 1)) → fnF M2 M0 → at_R_finds_24 d K M2 1) → qRp M n w p t → qAr M 86 n (rU n w p t) → fnF M M0 → at_R_finds_24 d K M 1 := by
    intro t M ht hgo hR hu hF d2
    have hm := r_qMt hI t
    have inner : ∀ (i x : Nat) (M1 : qm_M), x + i = n → qRp M1 n w p t → qAr M1 86 n (rU n w p t) → fnF M1 M0 → rNx M1 n w p (rU n w p t) (rV n w p t) → (∀ c, c < x → ¬ isF (rF n w p t) c) → at_R_finds_40 d K M1 0 (x : Int) := by
      intro i
      induction i with
      | zero =>
        intro x M1 hx hR1 hu1 hF1 hN1 hno
        refine rg_R_finds_40 (n := n) (i := 0) (td := 0) (w := w) (p := p) (u := p) (v := p) (ud := p) (ue := p) (And.intro (fun _ => And.intro (fun z => absurd rfl z) (fun _ => ?_)) (fun z => absurd z (by rw [(fnF_MR hMR hF1).1]; omega)))
        have : t = rT n w p := by
          rcases Nat.lt_or_ge t (rT n w p) with q | q
          · exact absurd (isF_L (r_lt q).1) (hno _ (by have := (r_lt q).1; omega))
          · omega
        exact hK M1 ⟨by rw [← this]; exact hR1, hF1⟩
      | succ i ih =>
        intro x M1 hx hR1 hu1 hF1 hN1 hno
        have hm1 := fnF_MR hMR hF1
        refine rg_R_finds_40 (n := n) (i := x) (td := t) (w := w) (p := p) (u := rU n w p t) (v := rV n w p t) (ud := rU n w p t) (ue := rU n w p (t + 1)) (And.intro (fun z => absurd z (by rw [hm1.1]; omega)) (fun _ => And.intro (fun z => absurd rfl z) (fun _ => And.intro ⟨hI, hm1.1, hN1⟩ (And.intro ⟨hu1, hm, by decide, by decide, by decide⟩ (And.intro ⟨by omega, rfl⟩ ?_)))))
        intro r15 M16 h16
        have hf : fo n w p (rU n w p t) (rV n w p t) = rF n w p t := rfl
        rw [hf] at h16
        have hF16 : fnF M16 M0 := fun c y q1 q2 q3 q4 q5 q6 => by rw [h16.2.2 c y q5 (q6.imp id (fun q => q.2))]; exact hF1 c y q1 q2 q3 q4 q5 q6
        have hR16 : qRp M16 n w p t := ⟨by rw [h16.2.2 71 31 (by decide) (Or.inr (by decide))]; exact hR1.1, fun y hy => ⟨by rw [h16.2.2 90 _ (by decide) (Or.inl (by decide))]; exact (hR1.2 y hy).1, fun k hk => by rw [h16.2.2 89 _ (by decide) (Or.inl (by decide))]; exact (hR1.2 y hy).2 k hk⟩⟩
        have hu16 : qAr M16 86 n (rU n w p t) := qAr_mem hu1 (funext fun y => h16.2.2 86 y (by decide) (Or.inl (by decide)))
        refine And.intro (by unfold qm_R; omega) ?_
        by_cases hxF : isF (rF n w p t) x
        · have e1 : r15 = 1 := by rw [h16.1]; exact qm_bt hxF
          have hxL : x = rL n w p t := by
            have h1 : rL n w p t ≤ x := Nat.le_of_not_lt fun z => lst_not (P := cyc (rF n w p t)) z hxF.1
            rcases Nat.lt_or_ge (rL n w p t) x with q | q
            · exact absurd (isF_L (by omega)) (hno _ q)
            · omega
          have hLn : rL n w p t < n := by omega
          have htT : t < rT n w p := by
            rcases Nat.lt_or_ge t (rT n w p) with q | q
            · exact q
            · have := (r_T hI).2
              rw [show rT n w p = t by omega] at this
              omega
          have hC := h16.2.1 hxF
          rw [hxL] at hC
          have T1 := tl t M16 htT (hgo htT) hR16 hu16 hF16 (rCy_ct hC)
          rw [e1]
          exact rg_R_finds_40 (n := n) (i := 0) (td := t) (w := w) (p := p) (u := rU n w p t) (v := rV n w p t) (ud := rU n w p t) (ue := rU n w p (t + 1)) (And.intro (fun _ => And.intro (fun _ => T1) (fun z => absurd (by decide) z)) (fun _ => And.intro (fun _ => And.intro (fun _ => T1) (fun z => absurd (by decide) z)) (fun z => absurd (by decide) z)))
        · have e1 : r15 = 0 := by rw [h16.1]; exact qm_bff hxF
          rw [e1]
          refine ih (x + 1) M16 (by omega) hR16 hu16 hF16 (fun y hy => by rw [h16.2.2 93 y (by decide) (Or.inl (by decide))]; exact hN1 y hy) (fun c hc => ?_)
          by_cases hcx : c = x
          · rw [hcx]; exact hxF
          · exact hno c (by omega)
    refine rg_R_finds_24 (n := n) (i := 0) (td := 0) (w := w) (p := p) (u := rU n w p t) (v := rV n w p t) (ud := p) (ue := p) (And.intro (fun z => absurd z (by decide)) (fun _ => And.intro (fnF_MR hMR hF) (And.intro ⟨hu, hm, by decide, by decide⟩ ?_))) d2
    intro M4 h4
    refine inner n 0 M4 (by omega) ⟨by rw [h4.2 71 (by decide)]; exact hR.1, fun y hy => ?_⟩ (qAr_mem hu (h4.2 86 (by decide))) (fun c y q1 q2 q3 q4 q5 q6 => by rw [h4.2 c q4]; exact hF c y q1 q2 q3 q4 q5 q6) h4.1 (fun c hc => absurd hc (Nat.not_lt_zero _))
    have := hR.2 y hy
    unfold qRt at *
    rw [h4.2 90 (by decide), h4.2 89 (by decide)]
    exact this
  intro j
  induction j with
  | zero => exact fun t M ht hR hu hF => step t M (by omega) (fun z => absurd z (by omega)) hR hu hF
  | succ j ih => exact fun t M ht hR hu hF => step t M (by omega) (fun _ M2 q1 q2 q3 => ih (t + 1) M2 (by omega) q1 q2 q3) hR hu hF
theorem s_R_finds  {n : Nat} {w p : Nat → Nat} {d : Nat} {K : qm_K} {M : qm_M}  (hp0 : qMR M n w p) (hp1 : qAr M 85 n (rU n w p 0)) (hK : ∀ (M2 : qm_M), (qRp M2 n w p (rT n w p) ∧ fnF M2 M) → K (.inl 0) (qL qLM) M2) : qm_Runs qm_P (d + 5) 177 [(.inr (some 71))] (qL qLM) M K := by
  have hI := hp0.2.2.2
  have h8 := hI.2.1
  refine en_R_finds (n := n) (i := 0) (td := 0) (w := w) (p := p) (u := p) (v := p) (ud := p) (ue := p) ?_
  intro M1 e1
  have n1 : M1 71 0 = (n : Int) := by rw [e1, qu_k (by decide)]; exact hp0.1
  rw [n1]
  refine And.intro (by omega) (And.intro (Or.inl (by decide)) ?_)
  intro M2 e2
  have c2 : ∀ c, c ≠ 86 → M2 c = M1 c := fun c hc => by rw [e2, cpM_c hc]
  refine lp_R_finds hp0 hK (rT n w p) 0 M2 (by omega) ⟨by rw [c2 71 (by decide), e1, qu_s]; rfl, fun y hy => absurd hy (Nat.not_lt_zero _)⟩ (fun a ha => ?_) (fun c x q1 q2 q3 q4 q5 q6 => ?_)
  · rw [e2, cpM_0 ha, e1, qu_cf (by decide)]
    exact hp1 a ha
  · rw [c2 c q1, e1]
    rcases q6 with q6 | q6
    · rw [qu_c q6]
    · rw [qu_k q6.1]
