/-! pairs: parting, joining, as the memory has them -/
theorem qPR_congr {M : qm_M} {q n : Nat} {u v u2 v2 : Nat → Nat} (h : qPR M q n u v) (hu : ∀ a, a < n → u2 a = u a) (hv : ∀ a, a < n → v2 a = v a) : qPR M q n u2 v2 := by
  obtain ⟨h1, h2, h3, h4⟩ := h
  refine ⟨fun a ha => by rw [hu a ha]; exact h1 a ha, fun b hb => by rw [hv b hb]; exact h2 b hb, fun a ha => ?_, fun b hb => ?_⟩
  · rw [hu a ha]
    rcases h3 a ha with h | ⟨h5, h6⟩
    · exact Or.inl h
    · exact Or.inr ⟨h5, by rw [hv _ h5]; exact h6⟩
  · rw [hv b hb]
    rcases h4 b hb with h | ⟨h5, h6⟩
    · exact Or.inl h
    · exact Or.inr ⟨h5, by rw [hu _ h5]; exact h6⟩
theorem qPR_mem {M M2 : qm_M} {q n : Nat} {u v : Nat → Nat} (h : qPR M q n u v) (e : M2 (q + 2) = M (q + 2)) : qPR M2 q n u v := by
  unfold qPR at *
  rw [e]
  exact h
theorem qLR_mem {M M2 : qm_M} {o n : Nat} {w p : Nat → Nat} (h : qLR M o n w p) (e : M2 o = M o) (e2 : M2 (o + 2) = M (o + 2)) (e4 : M2 (o + 4) = M (o + 4)) : qLR M2 o n w p := by
  unfold qLR qAt at *
  rw [e, e2, e4]
  exact h
def pmPartR (u v : Nat → Nat) (r : Nat) : (Nat → Nat) × (Nat → Nat) := (fun a => if a = v r ∧ v r ≠ 9 then 9 else u a, updF v r 9)
theorem qPm_swap {n : Nat} {u v : Nat → Nat} (h : qPm n u v) : qPm n v u := ⟨h.2, h.1⟩
theorem qPm_partR {n : Nat} {u v : Nat → Nat} {r : Nat} (h : qPm n u v) (hn : n ≤ 8) (hr : r < n) : qPm n (pmPartR u v r).1 (pmPartR u v r).2 := qPm_swap (qPm_part (qPm_swap h) hn hr)
theorem sPart_c {M : qm_M} {q : Nat} {s a : Int} {c : Nat} (h : c ≠ q + 2) : sPart M q s a c = M c := by
  unfold sPart sRow
  split <;> split <;> first | rfl | (rw [qu_cf h]; done) | (rw [qu_cf h, qu_cf h])
theorem sTie_c {M : qm_M} {q : Nat} {s a x : Int} {c : Nat} (h : c ≠ q + 2) : sTie M q s a x c = M c := by
  unfold sTie sRow
  split <;> split <;> first | rfl | (rw [qu_cf h]; done) | (rw [qu_cf h, qu_cf h])
theorem sJoin_c {M : qm_M} {q : Nat} {s a x : Int} {c : Nat} (h : c ≠ q + 2) : sJoin M q s a x c = M c := by
  unfold sJoin
  rw [sTie_c h, sPart_c h, sPart_c h]
theorem sPart_l {M : qm_M} {q n : Nat} {u v : Nat → Nat} {l : Nat} (h : qPR M q n u v) (hn : n ≤ 8) (hl : l < n) : qPR (sPart M q 0 (l : Int)) q n (pmPartL u v l).1 (pmPartL u v l).2 := by
  have hm := qPm_part h.2.2 hn hl
  obtain ⟨h1, h2, h3, h4⟩ := h
  have e0 : cell2 0 (l : Int) = ((l : Nat) : Int) := by have := cell2_ix (s := 0) (a := l) (by omega) (by omega); rw [Nat.mul_zero, Nat.zero_add] at this; exact this
  have eM : sPart M q 0 (l : Int) = (if u l = 9 then qm_u M (q + 2) l (-1) else qm_u (qm_u M (q + 2) l (-1)) (q + 2) (8 + u l) (-1)) := by
    unfold sPart
    rw [e0, gRow_in (by omega), h1 l hl, sRow_in (by omega)]
    by_cases hu : u l = 9
    · rw [if_pos hu, hu, cz_9, show cell2 (1 - 0) (-1) = -1 from cell2_out (by omega), sRow_out (by omega)]
    · rw [if_neg hu, cz_n hu]
      have := h3 l hl
      rw [show cell2 (1 - 0) (u l : Int) = ((8 * 1 + u l : Nat) : Int) from cell2_ix (s := 1) (by omega) (by omega), sRow_in (by omega)]
  refine ⟨fun a ha => ?_, fun b hb => ?_, hm⟩
  · rw [eM]
    unfold pmPartL updF
    by_cases hal : a = l
    · subst hal
      simp only [if_true]
      split
      · rw [qu_s]; rfl
      · rw [qu_k (by omega), qu_s]; rfl
    · simp only [hal, if_false]
      split
      · rw [qu_k hal]; exact h1 a ha
      · rw [qu_k (by omega), qu_k hal]; exact h1 a ha
  · rw [eM]
    unfold pmPartL
    simp only
    by_cases hc : b = u l ∧ u l ≠ 9
    · rw [if_pos hc, if_neg hc.2, hc.1, qu_s]; rfl
    · rw [if_neg hc]
      split
      · rw [qu_k (by omega)]; exact h2 b hb
      · rename_i hu
        rw [qu_k (by omega), qu_k (by omega)]; exact h2 b hb
theorem sPart_r {M : qm_M} {q n : Nat} {u v : Nat → Nat} {r : Nat} (h : qPR M q n u v) (hn : n ≤ 8) (hr : r < n) : qPR (sPart M q 1 (r : Int)) q n (pmPartR u v r).1 (pmPartR u v r).2 := by
  have hm := qPm_partR h.2.2 hn hr
  obtain ⟨h1, h2, h3, h4⟩ := h
  have e0 : cell2 1 (r : Int) = ((8 * 1 + r : Nat) : Int) := cell2_ix (s := 1) (a := r) (by omega) (by omega)
  have eM : sPart M q 1 (r : Int) = (if v r = 9 then qm_u M (q + 2) (8 + r) (-1) else qm_u (qm_u M (q + 2) (8 + r) (-1)) (q + 2) (v r) (-1)) := by
    unfold sPart
    rw [e0, gRow_in (by omega), show M (q + 2) (8 * 1 + r) = cz (v r) from h2 r hr, sRow_in (by omega)]
    by_cases hv : v r = 9
    · rw [if_pos hv, hv, cz_9, show cell2 (1 - 1) (-1) = -1 from cell2_out (by omega), sRow_out (by omega)]
    · rw [if_neg hv, cz_n hv]
      have := h4 r hr
      have e1 : cell2 (1 - 1) (v r : Int) = ((v r : Nat) : Int) := by have := cell2_ix (s := 0) (a := v r) (by omega) (by omega); rw [Nat.mul_zero, Nat.zero_add] at this; exact this
      rw [e1, sRow_in (by omega)]
  refine ⟨fun a ha => ?_, fun b hb => ?_, hm⟩
  · rw [eM]
    unfold pmPartR
    simp only
    by_cases hc : a = v r ∧ v r ≠ 9
    · rw [if_pos hc, if_neg hc.2, hc.1, qu_s]; rfl
    · rw [if_neg hc]
      split
      · rw [qu_k (by omega)]; exact h1 a ha
      · rename_i hu
        rw [qu_k (by omega), qu_k (by omega)]; exact h1 a ha
  · rw [eM]
    unfold pmPartR updF
    have h5 := h4 r hr
    by_cases hbr : b = r
    · subst hbr
      simp only [if_true]
      split
      · rw [qu_s]; rfl
      · rw [qu_k (by omega), qu_s]; rfl
    · simp only [hbr, if_false]
      split
      · rw [qu_k (by omega)]; exact h2 b hb
      · rw [qu_k (by omega), qu_k (by omega)]; exact h2 b hb
/-- two who are alone are joined -/
theorem sTie_free {M : qm_M} {q n : Nat} {u v : Nat → Nat} {l r : Nat} (h : qPR M q n u v) (hn : n ≤ 8) (hl : l < n) (hr : r < n) (hul : u l = 9) (hvr : v r = 9) : qPR (sTie M q 0 (l : Int) (r : Int)) q n (updF u l r) (updF v r l) ∧ qPR (sTie M q 1 (r : Int) (l : Int)) q n (updF u l r) (updF v r l) := by
  obtain ⟨h1, h2, h3, h4⟩ := h
  have e0 : cell2 0 (l : Int) = ((l : Nat) : Int) := by have := cell2_ix (s := 0) (a := l) (by omega) (by omega); rw [Nat.mul_zero, Nat.zero_add] at this; exact this
  have e1 : cell2 1 (r : Int) = ((8 + r : Nat) : Int) := cell2_ix (s := 1) (a := r) (by omega) (by omega)
  have hm : qPm n (updF u l r) (updF v r l) := by
    unfold updF
    refine ⟨fun a ha => ?_, fun b hb => ?_⟩
    · simp only
      by_cases hal : a = l
      · rw [if_pos hal]; exact Or.inr ⟨hr, by rw [if_pos rfl]; exact hal.symm⟩
      · rw [if_neg hal]
        rcases h3 a ha with h | ⟨h5, h6⟩
        · exact Or.inl h
        · refine Or.inr ⟨h5, ?_⟩
          rw [if_neg (fun z => by rw [z, hvr] at h6; omega)]
          exact h6
    · simp only
      by_cases hbr : b = r
      · rw [if_pos hbr]; exact Or.inr ⟨hl, by rw [if_pos rfl]; exact hbr.symm⟩
      · rw [if_neg hbr]
        rcases h4 b hb with h | ⟨h5, h6⟩
        · exact Or.inl h
        · refine Or.inr ⟨h5, ?_⟩
          rw [if_neg (fun z => by rw [z, hul] at h6; omega)]
          exact h6
  have g : ∀ M2 : qm_M, M2 (q + 2) l = (r : Int) → M2 (q + 2) (8 + r) = (l : Int) → (∀ x, x ≠ l → x ≠ 8 + r → M2 (q + 2) x = M (q + 2) x) → qPR M2 q n (updF u l r) (updF v r l) := by
    intro M2 g1 g2 g3
    refine ⟨fun a ha => ?_, fun b hb => ?_, hm⟩
    · unfold updF
      by_cases hal : a = l
      · rw [if_pos hal, hal, g1, cz_n (by omega)]
      · rw [if_neg hal, g3 a hal (by omega)]; exact h1 a ha
    · unfold updF
      by_cases hbr : b = r
      · rw [if_pos hbr, hbr, g2, cz_n (by omega)]
      · rw [if_neg hbr, g3 (8 + b) (by omega) (by omega)]; exact h2 b hb
  constructor
  · unfold sTie
    rw [e0, show cell2 (1 - 0) (r : Int) = ((8 + r : Nat) : Int) from e1, sRow_in (by omega), sRow_in (by omega)]
    exact g _ (by rw [qu_k (by omega), qu_s]) (by rw [qu_s]) (fun x hx1 hx2 => by rw [qu_k hx2, qu_k hx1])
  · unfold sTie
    rw [e1, show cell2 (1 - 1) (l : Int) = ((l : Nat) : Int) from e0, sRow_in (by omega), sRow_in (by omega)]
    exact g _ (by rw [qu_s]) (by rw [qu_k (by omega), qu_s]) (fun x hx1 hx2 => by rw [qu_k hx1, qu_k hx2])
theorem pm_lr {n : Nat} {u v : Nat → Nat} {l r : Nat} (h : qPm n u v) (hn : n ≤ 8) (hl : l < n) (hr : r < n) : (∀ a, a < n → updF (pmPartR (pmPartL u v l).1 (pmPartL u v l).2 r).1 l r a = (pmJoin u v l r).1 a) ∧ (∀ b, b < n → updF (pmPartR (pmPartL u v l).1 (pmPartL u v l).2 r).2 r l b = (pmJoin u v l r).2 b) ∧ (pmPartR (pmPartL u v l).1 (pmPartL u v l).2 r).1 l = 9 ∧ (pmPartR (pmPartL u v l).1 (pmPartL u v l).2 r).2 r = 9 := by
  obtain ⟨h3, h4⟩ := h
  have hl3 := h3 l hl
  have hr4 := h4 r hr
  unfold pmPartL pmPartR pmJoin updF
  refine ⟨fun a ha => ?_, fun b hb => ?_, ?_, ?_⟩
  · have ha3 := h3 a ha
    simp only
    by_cases hal : a = l
    · simp [hal]
    · simp only [hal, if_false]
      by_cases hua : u a = r
      · have : v r = a := by rcases ha3 with z | ⟨_, z⟩; omega; rw [← hua]; exact z
        simp only [hua, if_true]
        rw [if_neg (show ¬ (r = u l ∧ u l ≠ 9) from fun z => by
          rcases hl3 with y | ⟨_, y⟩
          · exact z.2 y
          · rw [← z.1] at y; omega)]
        rw [if_pos ⟨this.symm, by omega⟩]
      · simp only [hua, if_false]
        rw [if_neg]
        rintro ⟨z1, z2⟩
        split at z1
        · omega
        · rcases hr4 with y | ⟨_, y⟩
          · omega
          · rw [← z1] at y; exact hua y
  · have hb4 := h4 b hb
    simp only
    by_cases hbr : b = r
    · simp [hbr]
    · simp only [hbr, if_false]
      by_cases hvb : v b = l
      · simp only [hvb, if_true]
        have : u l = b := by rcases hb4 with z | ⟨_, z⟩; omega; rw [← hvb]; exact z
        rw [if_pos ⟨this.symm, by omega⟩]
      · simp only [hvb, if_false]
        rw [if_neg]
        rintro ⟨z1, z2⟩
        rcases hl3 with y | ⟨_, y⟩
        · exact z2 y
        · rw [← z1] at y; exact hvb y
  · simp
  · simp
theorem pm_rl {n : Nat} {u v : Nat → Nat} {l r : Nat} (h : qPm n u v) (hn : n ≤ 8) (hl : l < n) (hr : r < n) : (∀ a, a < n → updF (pmPartL (pmPartR u v r).1 (pmPartR u v r).2 l).1 l r a = (pmJoin u v l r).1 a) ∧ (∀ b, b < n → updF (pmPartL (pmPartR u v r).1 (pmPartR u v r).2 l).2 r l b = (pmJoin u v l r).2 b) ∧ (pmPartL (pmPartR u v r).1 (pmPartR u v r).2 l).1 l = 9 ∧ (pmPartL (pmPartR u v r).1 (pmPartR u v r).2 l).2 r = 9 := by
  obtain ⟨g1, g2, g3, g4⟩ := pm_lr (qPm_swap h) hn hr hl
  exact ⟨g2, g1, g4, g3⟩
theorem sJoin_l {M : qm_M} {q n : Nat} {u v : Nat → Nat} {l r : Nat} (h : qPR M q n u v) (hn : n ≤ 8) (hl : l < n) (hr : r < n) : qPR (sJoin M q 0 (l : Int) (r : Int)) q n (pmJoin u v l r).1 (pmJoin u v l r).2 := by
  obtain ⟨g1, g2, g3, g4⟩ := pm_lr h.2.2 hn hl hr
  have a1 := sPart_l h hn hl
  have a2 := sPart_r a1 hn hr
  have a3 := (sTie_free a2 hn hl hr g3 g4).1
  exact qPR_congr a3 (fun a ha => (g1 a ha).symm) (fun b hb => (g2 b hb).symm)
theorem sJoin_r {M : qm_M} {q n : Nat} {u v : Nat → Nat} {l r : Nat} (h : qPR M q n u v) (hn : n ≤ 8) (hl : l < n) (hr : r < n) : qPR (sJoin M q 1 (r : Int) (l : Int)) q n (pmJoin u v l r).1 (pmJoin u v l r).2 := by
  obtain ⟨g1, g2, g3, g4⟩ := pm_rl h.2.2 hn hl hr
  have a1 := sPart_r h hn hr
  have a2 := sPart_l a1 hn hl
  have a3 := (sTie_free a2 hn hl hr g3 g4).2
  exact qPR_congr a3 (fun a ha => (g1 a ha).symm) (fun b hb => (g2 b hb).symm)
