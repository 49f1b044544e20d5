theorem upd_inj {n : Nat} {h : Nat → Nat} {a y : Nat} (hj : ∀ y z, y < n → z < n → h y = h z → h y < n → y = z) (hal : galone n h a) : ∀ y1 z, y1 < n → z < n → updF h y a y1 = updF h y a z → updF h y a y1 < n → y1 = z := by
  intro z1 z2 hz1 hz2 e hlt
  unfold updF at e hlt
  split at e <;> split at e
  · omega
  · exact absurd e.symm (hal z2 hz2)
  · exact absurd e (hal z1 hz1)
  · rename_i h1 h2
    rw [if_neg h1] at hlt
    exact hj z1 z2 hz1 hz2 e hlt
theorem ginv_upd {n : Nat} {h : Nat → Nat} {a y : Nat} (h8 : n ≤ 8) (hj : ∀ y z, y < n → z < n → h y = h z → h y < n → y = z) (hal : galone n h a) (ha : a < n) (hy : y < n) {x : Nat} (hx : x < n) : ginv n (updF h y a) x = if x = a then y else if ginv n h x = y then 9 else ginv n h x := by
  have hj2 := upd_inj (y := y) hj hal
  by_cases hxa : x = a
  · rw [if_pos hxa]
    exact ginv_some hy (by unfold updF; rw [if_pos rfl]; exact hxa.symm) hj2 hx
  · rw [if_neg hxa]
    rcases ginv_cases (h := h) (x := x) h8 with ⟨g1, g2⟩ | ⟨g1, g2⟩
    · rw [g1, if_neg (by omega)]
      refine ginv_none (fun z hz e => ?_)
      unfold updF at e
      split at e
      · omega
      · exact g2 z hz e
    · by_cases hg : ginv n h x = y
      · rw [if_pos hg]
        refine ginv_none (fun z hz e => ?_)
        unfold updF at e
        split at e
        · omega
        · have := hj z (ginv n h x) hz g1 (by rw [g2, e]) (by omega)
          omega
      · rw [if_neg hg]
        refine ginv_some g1 ?_ hj2 hx
        unfold updF
        rw [if_neg hg]
        exact g2
def qGp (M : qm_M) (n sg : Nat) (h : Nat → Nat) : Prop := (sg = 0 → qPR M 18 n (ginv n h) h) ∧ (sg = 1 → qPR M 18 n h (ginv n h))
def qG (M : qm_M) (n : Nat) (w p : Nat → Nat) (sg i : Nat) (q h : Nat → Nat) : Prop := qGp M n sg h ∧ (∀ x, x < n → M 22 x = (q x : Int)) ∧ M 17 3 = (i : Int) ∧ ∀ j, j < i → M 24 j = (gtold n w p sg j : Int)
theorem qGp_ask {M : qm_M} {n sg : Nat} {h : Nat → Nat} (h8 : n ≤ 8) (hs : sg < 2) (g : qGp M n sg h) {x : Nat} (hx : x < n) : gPar M 18 (sg : Int) (x : Int) = cz (ginv n h x) := by
  rcases (show sg = 0 ∨ sg = 1 by omega) with rfl | rfl
  · exact gPar_l (g.1 rfl) h8 hx
  · exact gPar_r (g.2 rfl) h8 hx
theorem qGp_had {M : qm_M} {n sg : Nat} {h : Nat → Nat} (h8 : n ≤ 8) (hs : sg < 2) (g : qGp M n sg h) {y : Nat} (hy : y < n) : gPar M 18 (1 - (sg : Int)) (y : Int) = cz (h y) := by
  rcases (show sg = 0 ∨ sg = 1 by omega) with rfl | rfl
  · exact gPar_r (g.1 rfl) h8 hy
  · exact gPar_l (g.2 rfl) h8 hy
theorem qGp_mem {M M2 : qm_M} {n sg : Nat} {h : Nat → Nat} (g : qGp M n sg h) (e : M2 20 = M 20) : qGp M2 n sg h := ⟨fun z => qPR_mem (g.1 z) e, fun z => qPR_mem (g.2 z) e⟩
theorem qGp_join {M : qm_M} {n sg : Nat} {h : Nat → Nat} (h8 : n ≤ 8) (hs : sg < 2) (g : qGp M n sg h) (hj : ∀ y z, y < n → z < n → h y = h z → h y < n → y = z) {a y : Nat} (hal : galone n h a) (ha : a < n) (hy : y < n) : qGp (sJoin M 18 (sg : Int) (a : Int) (y : Int)) n sg (updF h y a) := by
  have hcase : ∀ b, b < n → (if b = y then a else if h b = a then 9 else h b) = updF h y a b := fun b hb => by
    unfold updF
    split
    · rfl
    · rw [if_neg (hal b hb)]
  refine ⟨fun z => ?_, fun z => ?_⟩
  · subst z
    refine qPR_congr (sJoin_l (g.1 rfl) h8 ha hy) (fun x hx => ?_) (fun b hb => ?_)
    · rw [ginv_upd h8 hj hal ha hy hx]; rfl
    · rw [← hcase b hb]; rfl
  · subst z
    refine qPR_congr (sJoin_r (g.2 rfl) h8 hy ha) (fun b hb => ?_) (fun x hx => ?_)
    · rw [← hcase b hb]; rfl
    · rw [ginv_upd h8 hj hal ha hy hx]; rfl
theorem en_Ask_outcome {T : qm_L}  {d : Nat} {K : qm_K} {M : qm_M}  (h :
    K (.inr (some 18)) (qL T) M) : qm_Runs qm_P (d + 1) 1 [(.inr (some 17))] (qL T) M K :=
  And.intro (Nat.le_of_ble_eq_true rfl) (show qm_TT qi_1 (qm_Runs qm_P (d + 0)) K 0 [some (.inr (some 17))] [] (qL T) M 0 0 from qm_wp_TT [] 6 (Exists.intro 18 (And.intro (lf_17_0 T) (h))))
theorem s_Ask_outcome {T : qm_L}  {d : Nat} {K : qm_K} {M : qm_M}   (hK : K (.inr (some 18)) (qL T) M) : qm_Runs qm_P (d + 1) 1 [(.inr (some 17))] (qL T) M K :=
  en_Ask_outcome   hK
theorem en_Ask_times {T : qm_L}  {d : Nat} {K : qm_K} {M : qm_M}  (h :
    K (.inl ((M 17 3))) (qL T) M) : qm_Runs qm_P (d + 1) 2 [(.inr (some 17))] (qL T) M K :=
  And.intro (Nat.le_of_ble_eq_true rfl) (show qm_TT qi_2 (qm_Runs qm_P (d + 0)) K 0 [some (.inr (some 17))] [] (qL T) M 0 0 from qm_wp_TT [] 6 (And.intro (lf_17_3 T) (h)))
theorem s_Ask_times {T : qm_L}  {d : Nat} {K : qm_K} {M : qm_M}   (hK : K (.inl (M 17 3)) (qL T) M) : qm_Runs qm_P (d + 1) 2 [(.inr (some 17))] (qL T) M K :=
  en_Ask_times   hK
theorem en_Ask_told {T : qm_L}  {d : Nat} {K : qm_K} {M : qm_M} {i : Int} (h :
    K (.inl ((gRow M 24 64 i))) (qL T) M) : qm_Runs qm_P (d + 2) 3 [(.inr (some 17)), (.inl i)] (qL T) M K :=
  And.intro (Nat.le_of_ble_eq_true rfl) (show qm_TT qi_3 (qm_Runs qm_P (d + 1)) K 0 [some (.inr (some 17)), some (.inl i)] [] (qL T) M 0 0 from qm_wp_TT [] 8 (Exists.intro 23 (And.intro (lf_17_2 T) (And.intro (lo_23 T) (s_Row_get (d := d + 0) (lRow_23 T)  (h))))))
theorem s_Ask_told {T : qm_L}  {d : Nat} {K : qm_K} {M : qm_M} {i : Int}  (hK : K (.inl (gRow M 24 64 i)) (qL T) M) : qm_Runs qm_P (d + 2) 3 [(.inr (some 17)), (.inl i)] (qL T) M K :=
  en_Ask_told   hK
def at_Ask_leastAlone_2 (T : qm_L) (d : Nat) (K : qm_K) (M : qm_M) (x1 x2 x3 : Int) : Prop := qm_TT qi_5 (qm_Runs qm_P (d + 2)) K 2 [some (.inr (some 17)), some (.inl x1), some (.inl x2), some (.inl x3)] [] (qL T) M 0 0
theorem rg_Ask_leastAlone_2 {T : qm_L} {n sg : Nat} {h : Nat → Nat} {d : Nat} {K : qm_K} {M : qm_M} {x1 x2 x3 : Int} (h :
    (x2 ≤ x3 →
     K (.inl ((-1))) (qL T) M) ∧
    (¬ x2 ≤ x3 →
     ((gPar M 18 x1 x3) ≠ (-1) →
      qm_R (x3 + 1) ∧
      at_Ask_leastAlone_2 T d K M x1 x2 ((x3 + 1))) ∧
     (¬ (gPar M 18 x1 x3) ≠ (-1) →
      K (.inl x3) (qL T) M))) : at_Ask_leastAlone_2 T d K M x1 x2 x3 :=
  qm_wp_TT [2] 16 (And.intro (fun q1 => (h.1 q1)) (fun q2 => Exists.intro 18 (And.intro (lf_17_0 T) (And.intro (lo_18 T) (s_Pair_partner (d := d + 0) (lPr_18 T)  (And.intro (fun q3 => And.intro ((h.2 q2).1 q3).1 (((h.2 q2).1 q3).2)) (fun q4 => ((h.2 q2).2 q4))))))))
theorem en_Ask_leastAlone {T : qm_L} {n sg : Nat} {h : Nat → Nat} {d : Nat} {K : qm_K} {M : qm_M} {s : Int} {e : Int} (h :
    at_Ask_leastAlone_2 T d K M s e 0) : qm_Runs qm_P (d + 3) 5 [(.inr (some 17)), (.inl s), (.inl e)] (qL T) M K :=
  And.intro (Nat.le_of_ble_eq_true rfl) (show qm_TT qi_5 (qm_Runs qm_P (d + 2)) K 0 [some (.inr (some 17)), some (.inl s), some (.inl e), none] [] (qL T) M 0 0 from qm_wp_TT [2] 16 (h))
theorem lp_Ask_leastAlone {T : qm_L} {d : Nat} {K : qm_K} {M : qm_M} {n sg : Nat} {h : Nat → Nat} (h8 : n ≤ 8) (hs : sg < 2) (g : qGp M n sg h) (hK : K (.inl (if gfa n h = n then (-1) else (gfa n h : Int))) (qL T) M) : ∀ (j x : Nat), x + j = n → (∀ z, z < x → ¬ galone n h z) → at_Ask_leastAlone_2 T d K M (sg : Int) (n : Int) (x : Int)
  | 0, x, hx, hn => by
    refine rg_Ask_leastAlone_2 (n := n) (sg := sg) (h := h) (And.intro (fun _ => qk_eq hK ?_) (fun z => absurd z (by omega)))
    have hgn : gfa n h = n := lst_none (fun j hj => hn j (by omega))
    rw [if_pos hgn]
  | j + 1, x, hx, hn => by
    refine rg_Ask_leastAlone_2 (n := n) (sg := sg) (h := h) (And.intro (fun z => absurd z (by omega)) (fun _ => ?_))
    rw [qGp_ask h8 hs g (by omega)]
    refine And.intro (fun z => And.intro (by unfold qm_R; omega) (lp_Ask_leastAlone h8 hs g hK j (x + 1) (by omega) (fun y hy => ?_))) (fun z => qk_eq hK ?_)
    · by_cases hyx : y = x
      · rw [hyx]
        intro hal
        exact z (by rw [ginv_none hal]; rfl)
      · exact hn y (by omega)
    · have hal : galone n h x := by
        rcases ginv_cases (h := h) (x := x) h8 with ⟨_, g2⟩ | ⟨g1, g2⟩
        · exact g2
        · exfalso
          exact z (by rw [cz_n (by omega)]; omega)
      have : gfa n h = x := lst_eq (by omega) hal hn
      rw [this, if_neg (by omega)]
theorem s_Ask_leastAlone {T : qm_L} {n sg : Nat} {h : Nat → Nat} {d : Nat} {K : qm_K} {M : qm_M} {s : Int} {e : Int} (hp0 : n ≤ 8 ∧ sg < 2 ∧ s = (sg : Int) ∧ e = (n : Int)) (hp1 : qGp M n sg h) (hK : K (.inl ((if gfa n h = n then (-1) else (gfa n h : Int)))) (qL T) M) : qm_Runs qm_P (d + 3) 5 [(.inr (some 17)), (.inl s), (.inl e)] (qL T) M K := by
  refine en_Ask_leastAlone (n := n) (sg := sg) (h := h)  ?_
  obtain ⟨h8, hs, rfl, rfl⟩ := hp0
  exact lp_Ask_leastAlone h8 hs hp1 hK n 0 (by omega) (fun z hz => absurd hz (Nat.not_lt_zero _))
theorem en_Ask_ask {T : qm_L} {o : Nat} {n sg i : Nat} {w p : Nat → Nat} {d : Nat} {K : qm_K} {M : qm_M} {s : Int} {a : Int} (hL : qLs (qL T) o) (h :
    ∀ (y1 : Int), y1 = (gRow M 22 8 a) →
    ∀ (y2 : Int), y2 = (gWho M o s a y1) →
    qm_R (y1 + 1) ∧
    ∀ (M3 : qm_M), M3 = (sRow M 22 8 a (y1 + 1)) →
    qm_R (1 - s) ∧
    qm_R (1 - s) ∧
    ∀ (y4 : Int), y4 = (gPar M3 18 (1 - s) y2) →
    ((y4 = -1 ∨ gPl M3 o (1 - s) y2 a < gPl M3 o (1 - s) y2 y4) →
     (0 ≤ s ∧ s ≤ 1) ∧
     ∀ (M5 : qm_M), M5 = (sJoin M3 18 s a y2) →
     qm_R (100 * a) ∧
     qm_R (10 * y2) ∧
     qm_R ((100 * a) + (10 * y2)) ∧
     ((y4 = -1 ∨ gPl M3 o (1 - s) y2 a < gPl M3 o (1 - s) y2 y4) →
      qm_R (((100 * a) + (10 * y2)) + 1) ∧
      ∀ (M6 : qm_M), M6 = (sRow M5 24 64 (M5 17 3) (((100 * a) + (10 * y2)) + 1)) →
      qm_R ((M6 17 3) + 1) ∧
      ∀ (M7 : qm_M), M7 = (qm_u M6 17 3 ((M6 17 3) + 1)) →
      K (.inl 0) (qL T) M7) ∧
     (¬ (y4 = -1 ∨ gPl M3 o (1 - s) y2 a < gPl M3 o (1 - s) y2 y4) →
      qm_R (((100 * a) + (10 * y2)) + 0) ∧
      ∀ (M8 : qm_M), M8 = (sRow M5 24 64 (M5 17 3) (((100 * a) + (10 * y2)) + 0)) →
      qm_R ((M8 17 3) + 1) ∧
      ∀ (M9 : qm_M), M9 = (qm_u M8 17 3 ((M8 17 3) + 1)) →
      K (.inl 0) (qL T) M9)) ∧
    (¬ (y4 = -1 ∨ gPl M3 o (1 - s) y2 a < gPl M3 o (1 - s) y2 y4) →
     qm_R (100 * a) ∧
     qm_R (10 * y2) ∧
     qm_R ((100 * a) + (10 * y2)) ∧
     ((y4 = -1 ∨ gPl M3 o (1 - s) y2 a < gPl M3 o (1 - s) y2 y4) →
      qm_R (((100 * a) + (10 * y2)) + 1) ∧
      ∀ (M10 : qm_M), M10 = (sRow M3 24 64 (M3 17 3) (((100 * a) + (10 * y2)) + 1)) →
      qm_R ((M10 17 3) + 1) ∧
      ∀ (M11 : qm_M), M11 = (qm_u M10 17 3 ((M10 17 3) + 1)) →
      K (.inl 0) (qL T) M11) ∧
     (¬ (y4 = -1 ∨ gPl M3 o (1 - s) y2 a < gPl M3 o (1 - s) y2 y4) →
      qm_R (((100 * a) + (10 * y2)) + 0) ∧
      ∀ (M12 : qm_M), M12 = (sRow M3 24 64 (M3 17 3) (((100 * a) + (10 * y2)) + 0)) →
      qm_R ((M12 17 3) + 1) ∧
      ∀ (M13 : qm_M), M13 = (qm_u M12 17 3 ((M12 17 3) + 1)) →
      K (.inl 0) (qL T) M13))) : qm_Runs qm_P (d + 4) 6 [(.inr (some 17)), (.inr (some o)), (.inl s), (.inl a)] (qL T) M K :=
  And.intro (Nat.le_of_ble_eq_true rfl) (show qm_TT qi_6 (qm_Runs qm_P (d + 3)) K 0 [some (.inr (some 17)), some (.inr (some o)), some (.inl s), some (.inl a), none, none, none] [] (qL T) M 0 0 from qm_wp_TT [] 68 (Exists.intro 21 (And.intro (lf_17_1 T) (And.intro (lo_21 T) (s_Row_get (d := d + 2) (lRow_21 T)  (And.intro (qm_FO hL.1) (s_Lists_who (d := d + 1) hL  (Exists.intro 21 (And.intro (lf_17_1 T) (And.intro ((h _ rfl) _ rfl).1 (And.intro (lo_21 T) (s_Row_set (d := d + 2) (lRow_21 T)  (And.intro (((h _ rfl) _ rfl).2 _ rfl).1 (Exists.intro 18 (And.intro (lf_17_0 T) (And.intro (((h _ rfl) _ rfl).2 _ rfl).2.1 (And.intro (lo_18 T) (s_Pair_partner (d := d + 1) (lPr_18 T)  (And.intro (qm_FO hL.1) (s_Lists_wouldRather (d := d + 0) hL  (And.intro (fun q14 => Exists.intro 23 (And.intro (lf_17_2 T) (And.intro (lf_17_3 T) (And.intro (((((h _ rfl) _ rfl).2 _ rfl).2.2 _ rfl).2 (qm_b0 q14)).1 (And.intro (((((h _ rfl) _ rfl).2 _ rfl).2.2 _ rfl).2 (qm_b0 q14)).2.1 (And.intro (((((h _ rfl) _ rfl).2 _ rfl).2.2 _ rfl).2 (qm_b0 q14)).2.2.1 (And.intro (fun q16 => And.intro ((((((h _ rfl) _ rfl).2 _ rfl).2.2 _ rfl).2 (qm_b0 q14)).2.2.2.2 (qm_b0 q16)).1 (And.intro (lo_23 T) (s_Row_set (d := d + 2) (lRow_23 T)  (And.intro (lf_17_3 T) (And.intro (((((((h _ rfl) _ rfl).2 _ rfl).2.2 _ rfl).2 (qm_b0 q14)).2.2.2.2 (qm_b0 q16)).2 _ rfl).1 (And.intro (lf_17_3 T) (((((((((h _ rfl) _ rfl).2 _ rfl).2.2 _ rfl).2 (qm_b0 q14)).2.2.2.2 (qm_b0 q16)).2 _ rfl).2 _ rfl)))))))) (fun q17 => And.intro ((((((h _ rfl) _ rfl).2 _ rfl).2.2 _ rfl).2 (qm_b0 q14)).2.2.2.1 (qm_b1 q17)).1 (And.intro (lo_23 T) (s_Row_set (d := d + 2) (lRow_23 T)  (And.intro (lf_17_3 T) (And.intro (((((((h _ rfl) _ rfl).2 _ rfl).2.2 _ rfl).2 (qm_b0 q14)).2.2.2.1 (qm_b1 q17)).2 _ rfl).1 (And.intro (lf_17_3 T) (((((((((h _ rfl) _ rfl).2 _ rfl).2.2 _ rfl).2 (qm_b0 q14)).2.2.2.1 (qm_b1 q17)).2 _ rfl).2 _ rfl))))))))))))))) (fun q15 => Exists.intro 18 (And.intro (lf_17_0 T) (And.intro (lo_18 T) (s_Pair_join (d := d + 0) (lPr_18 T) ((((((h _ rfl) _ rfl).2 _ rfl).2.2 _ rfl).1 (qm_b1 q15)).1) (Exists.intro 23 (And.intro (lf_17_2 T) (And.intro (lf_17_3 T) (And.intro ((((((h _ rfl) _ rfl).2 _ rfl).2.2 _ rfl).1 (qm_b1 q15)).2 _ rfl).1 (And.intro ((((((h _ rfl) _ rfl).2 _ rfl).2.2 _ rfl).1 (qm_b1 q15)).2 _ rfl).2.1 (And.intro ((((((h _ rfl) _ rfl).2 _ rfl).2.2 _ rfl).1 (qm_b1 q15)).2 _ rfl).2.2.1 (And.intro (fun q18 => And.intro (((((((h _ rfl) _ rfl).2 _ rfl).2.2 _ rfl).1 (qm_b1 q15)).2 _ rfl).2.2.2.2 (qm_b0 q18)).1 (And.intro (lo_23 T) (s_Row_set (d := d + 2) (lRow_23 T)  (And.intro (lf_17_3 T) (And.intro ((((((((h _ rfl) _ rfl).2 _ rfl).2.2 _ rfl).1 (qm_b1 q15)).2 _ rfl).2.2.2.2 (qm_b0 q18)).2 _ rfl).1 (And.intro (lf_17_3 T) ((((((((((h _ rfl) _ rfl).2 _ rfl).2.2 _ rfl).1 (qm_b1 q15)).2 _ rfl).2.2.2.2 (qm_b0 q18)).2 _ rfl).2 _ rfl)))))))) (fun q19 => And.intro (((((((h _ rfl) _ rfl).2 _ rfl).2.2 _ rfl).1 (qm_b1 q15)).2 _ rfl).2.2.2.1 (qm_b1 q19)).1 (And.intro (lo_23 T) (s_Row_set (d := d + 2) (lRow_23 T)  (And.intro (lf_17_3 T) (And.intro ((((((((h _ rfl) _ rfl).2 _ rfl).2.2 _ rfl).1 (qm_b1 q15)).2 _ rfl).2.2.2.1 (qm_b1 q19)).2 _ rfl).1 (And.intro (lf_17_3 T) ((((((((((h _ rfl) _ rfl).2 _ rfl).2.2 _ rfl).1 (qm_b1 q15)).2 _ rfl).2.2.2.1 (qm_b1 q19)).2 _ rfl).2 _ rfl))))))))))))))))))))))))))))))))))))))))
theorem s_Ask_ask {T : qm_L} {o : Nat} {n sg i : Nat} {w p : Nat → Nat} {d : Nat} {K : qm_K} {M : qm_M} {s : Int} {a : Int} (hL : qLs (qL T) o) (hp0 : (o = 4 ∨ o = 9) ∧ sg < 2 ∧ s = (sg : Int) ∧ i < 64) (hp1 : qLR M o n w p) (hp2 : gI n w p sg i (gst n w p sg i).1 (gst n w p sg i).2) (hp3 : qG M n w p sg i (gst n w p sg i).1 (gst n w p sg i).2) (hp4 : gfa n (gst n w p sg i).2 < n ∧ a = (gfa n (gst n w p sg i).2 : Int)) (hK : ∀ (M2 : qm_M), (qG M2 n w p sg (i + 1) (gst n w p sg (i + 1)).1 (gst n w p sg (i + 1)).2 ∧ (∀ c, c ≠ 17 → c ≠ 20 → c ≠ 22 → c ≠ 24 → M2 c = M c)) → K (.inl 0) (qL T) M2) : qm_Runs qm_P (d + 4) 6 [(.inr (some 17)), (.inr (some o)), (.inl s), (.inl a)] (qL T) M K := by
  refine en_Ask_ask (n := n) (sg := sg) (i := i) (w := w) (p := p) hL ?_
  obtain ⟨ho, hs, rfl, hi⟩ := hp0
  obtain ⟨hfa, rfl⟩ := hp4
  have hI := hp1.2.2.2
  have h8 := hI.2.1
  have hal : galone n (gst n w p sg i).2 (gfa n (gst n w p sg i).2) := lst_P hfa
  have hqn := gI_ask hI hs hp2 hfa hal
  obtain ⟨g1, g2, g3, g4⟩ := hp3
  have hj := hp2.2.1
  have hle := hp2.1
  have hnx : gst n w p sg (i + 1) = gstep n w p sg (gst n w p sg i) := rfl
  have htl : gtold n w p sg i = 100 * gfa n (gst n w p sg i).2 + 10 * w (ix sg (gfa n (gst n w p sg i).2) ((gst n w p sg i).1 (gfa n (gst n w p sg i).2))) + @ite Nat (gyes p sg (gst n w p sg i).2 (gfa n (gst n w p sg i).2) (w (ix sg (gfa n (gst n w p sg i).2) ((gst n w p sg i).1 (gfa n (gst n w p sg i).2))))) (Classical.propDecidable _) 1 0 := rfl
  have hold : ∀ j, j < i → M 24 j = (gtold n w p sg j : Int) := g4
  rw [hnx] at hK
  unfold gstep at hK
  generalize (gst n w p sg i).1 = q at *
  generalize (gst n w p sg i).2 = h at *
  generalize gfa n h = a at *
  have hw := hI.2.2 sg a hs hfa (q a) hqn
  intro y1 e1 y2 e2
  rw [gRow_in (by omega), g2 a hfa] at e1
  subst e1
  rw [gWho_n hp1 hs hfa hqn] at e2
  generalize hy : w (ix sg a (q a)) = y at *
  subst e2
  have hyn := hw.1
  refine And.intro (by unfold qm_R; omega) ?_
  intro M3 e3
  rw [sRow_in (by omega)] at e3
  refine And.intro (by unfold qm_R; omega) (And.intro (by unfold qm_R; omega) ?_)
  have c3 : ∀ c, c ≠ 22 → M3 c = M c := fun c hc => by rw [e3, qu_cf hc]
  have g1' : qGp M3 n sg h := qGp_mem g1 (c3 20 (by decide))
  have l3 : qLR M3 o n w p := by rcases ho with rfl | rfl <;> exact qLR_mem hp1 (c3 _ (by decide)) (c3 _ (by decide)) (c3 _ (by decide))
  intro y4 e4
  rw [qGp_had h8 hs g1' hyn] at e4
  subst e4
  have hiff : (cz (h y) = -1 ∨ gPl M3 o (1 - (sg : Int)) (y : Int) (a : Int) < gPl M3 o (1 - (sg : Int)) (y : Int) (cz (h y))) ↔ gyes p sg h a y := by
    have := rat_iff (s := 1 - sg) l3 (by omega) hyn hfa (hle y hyn)
    rw [show ((1 - sg : Nat) : Int) = 1 - (sg : Int) by omega] at this
    exact this
  rw [lnk hiff]
  have q3 : ∀ x, x < n → M3 22 x = (updF q a (q a + 1) x : Int) := fun x hx => by
    rw [e3]
    unfold updF
    by_cases hxa : x = a
    · rw [if_pos hxa, hxa, qu_s]; rfl
    · rw [if_neg hxa, qu_k hxa]; exact g2 x hx
  have fin : ∀ (M5 M6 M7 : qm_M) (v : Int) (h2 : Nat → Nat), qGp M5 n sg h2 → (∀ c, c ≠ 20 → M5 c = M3 c) → v = (gtold n w p sg i : Int) → M6 = sRow M5 24 64 (M5 17 3) v → M7 = qm_u M6 17 3 (M6 17 3 + 1) → (qm_R (M6 17 3 + 1)) ∧ qG M7 n w p sg (i + 1) (updF q a (q a + 1)) h2 ∧ ∀ c, c ≠ 17 → c ≠ 20 → c ≠ 22 → c ≠ 24 → M7 c = M c := by
    intro M5 M6 M7 v h2 hg hc hv e6 e7
    have t5 : M5 17 3 = (i : Int) := by rw [hc 17 (by decide), c3 17 (by decide)]; exact g3
    rw [t5, sRow_in hi] at e6
    have t6 : M6 17 3 = (i : Int) := by rw [e6, qu_cf (by decide)]; exact t5
    refine ⟨by rw [t6]; unfold qm_R; omega, ⟨qGp_mem hg (by rw [e7, qu_cf (by decide), e6, qu_cf (by decide)]), fun x hx => ?_, ?_, fun j hj => ?_⟩, fun c h1 h2 h3 h4 => ?_⟩
    · rw [e7, qu_cf (by decide), e6, qu_cf (by decide), hc 22 (by decide)]
      exact q3 x hx
    · rw [e7, qu_s, t6]; rfl
    · rw [e7, qu_cf (by decide), e6]
      by_cases hji : j = i
      · rw [hji, qu_s, hv]
      · rw [qu_k hji, hc 24 (by decide), c3 24 (by decide)]
        exact hold j (by omega)
    · rw [e7, qu_cf h1, e6, qu_cf h4, hc c h2, c3 c h3]
  refine And.intro (fun hyes => ?_) (fun hno => ?_)
  · rw [if_pos hyes] at htl
    have e5 := qGp_join h8 hs g1' hj hal hfa hyn
    refine And.intro (by omega) ?_
    intro M5 eM5
    have hc5 : ∀ c, c ≠ 20 → M5 c = M3 c := fun c hc => by rw [eM5]; exact sJoin_c hc
    refine And.intro (by unfold qm_R; omega) (And.intro (by unfold qm_R; omega) (And.intro (by unfold qm_R; omega) (And.intro (fun _ => And.intro (by unfold qm_R; omega) ?_) (fun z => absurd hyes z))))
    intro M6 e6
    have f1 := fin M5 M6 _ _ (updF h y a) (by rw [eM5]; exact e5) hc5 (by rw [htl]; omega) e6 rfl
    refine And.intro f1.1 ?_
    intro M7 e7
    subst e7
    have := hK _ ⟨by simp only; rw [if_pos hyes]; exact f1.2.1, f1.2.2⟩
    exact this
  · rw [if_neg hno] at htl
    refine And.intro (by unfold qm_R; omega) (And.intro (by unfold qm_R; omega) (And.intro (by unfold qm_R; omega) (And.intro (fun z => absurd z hno) (fun _ => And.intro (by unfold qm_R; omega) ?_))))
    intro M6 e6
    have f1 := fin M3 M6 _ _ h g1' (fun _ _ => rfl) (by rw [htl]; omega) e6 rfl
    refine And.intro f1.1 ?_
    intro M7 e7
    subst e7
    have := hK _ ⟨by simp only; rw [if_neg hno]; exact f1.2.1, f1.2.2⟩
    exact this
def at_Ask_run_22 (T : qm_L) (o : Nat) (d : Nat) (K : qm_K) (M : qm_M) (x2 x3 : Int) : Prop := ∀ (d4 : Option qm_V), qm_TT qi_4 (qm_Runs qm_P (d + 4)) K 22 [some (.inr (some 17)), some (.inr (some o)), some (.inl x2), some (.inl x3), d4] [] (qL T) M 0 0
theorem rg_Ask_run_22 {T : qm_L} {o : Nat} {n sg i : Nat} {w p h : Nat → Nat} {d : Nat} {K : qm_K} {M : qm_M} {x2 x3 : Int} (hL : qLs (qL T) o) (h :
    (64 ≤ x3 →
     K (.inl 0) (qL T) M) ∧
    (¬ 64 ≤ x3 →
     ∀ (y4 : Int), y4 = (M o 2) →
     (n ≤ 8 ∧ sg < 2 ∧ x2 = (sg : Int) ∧ y4 = (n : Int)) ∧
     (qGp M n sg h) ∧
     ∀ (y5 : Int), y5 = (if gfa n h = n then (-1) else (gfa n h : Int)) →
     (y5 ≠ (-1) →
      ((o = 4 ∨ o = 9) ∧ sg < 2 ∧ x2 = (sg : Int) ∧ i < 64) ∧
      (qLR M o n w p) ∧
      (gI n w p sg i (gst n w p sg i).1 (gst n w p sg i).2) ∧
      (qG M n w p sg i (gst n w p sg i).1 (gst n w p sg i).2) ∧
      (gfa n (gst n w p sg i).2 < n ∧ y5 = (gfa n (gst n w p sg i).2 : Int)) ∧
      (∀ (M7 : qm_M), (qG M7 n w p sg (i + 1) (gst n w p sg (i + 1)).1 (gst n w p sg (i + 1)).2 ∧ (∀ c, c ≠ 17 → c ≠ 20 → c ≠ 22 → c ≠ 24 → M7 c = M c)) →
       qm_R (x3 + 1) ∧
       at_Ask_run_22 T o d K M7 x2 ((x3 + 1)))) ∧
     (¬ y5 ≠ (-1) →
      K (.inl 0) (qL T) M))) : at_Ask_run_22 T o d K M x2 x3 :=
  fun d4 => qm_wp_TT [22] 23 (And.intro (fun q8 => (h.1 q8)) (fun q9 => And.intro (qm_FO hL.1) (s_Lists_each (d := d + 3) hL  (And.intro (lo_17 T) (s_Ask_leastAlone (d := d + 1)  (((h.2 q9) _ rfl).1) (((h.2 q9) _ rfl).2.1) (And.intro (fun q10 => And.intro (lo_17 T) (s_Ask_ask (d := d + 0) hL (((((h.2 q9) _ rfl).2.2 _ rfl).1 q10).1) (((((h.2 q9) _ rfl).2.2 _ rfl).1 q10).2.1) (((((h.2 q9) _ rfl).2.2 _ rfl).1 q10).2.2.1) (((((h.2 q9) _ rfl).2.2 _ rfl).1 q10).2.2.2.1) (((((h.2 q9) _ rfl).2.2 _ rfl).1 q10).2.2.2.2.1) (fun M7 p12 => And.intro (((((h.2 q9) _ rfl).2.2 _ rfl).1 q10).2.2.2.2.2 M7 p12).1 ((((((h.2 q9) _ rfl).2.2 _ rfl).1 q10).2.2.2.2.2 M7 p12).2 _)))) (fun q11 => ((((h.2 q9) _ rfl).2.2 _ rfl).2 q11))))))))
theorem en_Ask_run {T : qm_L} {o : Nat} {n sg i : Nat} {w p h : Nat → Nat} {d : Nat} {K : qm_K} {M : qm_M} {s : Int} (hL : qLs (qL T) o) (h :
    ∀ (M1 : qm_M), M1 = (fRow M 20 16 (-1)) →
    ∀ (M2 : qm_M), M2 = (fRow M1 22 8 0) →
    ∀ (M3 : qm_M), M3 = (qm_u M2 17 3 0) →
    at_Ask_run_22 T o d K M3 s 0) : qm_Runs qm_P (d + 5) 4 [(.inr (some 17)), (.inr (some o)), (.inl s)] (qL T) M K :=
  And.intro (Nat.le_of_ble_eq_true rfl) (show qm_TT qi_4 (qm_Runs qm_P (d + 4)) K 0 [some (.inr (some 17)), some (.inr (some o)), some (.inl s), none, none] [] (qL T) M 0 0 from qm_wp_TT [22] 23 (Exists.intro 18 (And.intro (lf_17_0 T) (And.intro (lo_18 T) (s_Pair_clear (d := d + 2) (lPr_18 T)  (Exists.intro 21 (And.intro (lf_17_1 T) (And.intro (lo_21 T) (s_Row_fill (d := d + 3) (lRow_21 T)  (And.intro (lf_17_3 T) ((((h _ rfl) _ rfl) _ rfl) _)))))))))))
theorem lp_Ask_run {T : qm_L} {o d : Nat} {K : qm_K} {M0 : qm_M} {n sg : Nat} {w p : Nat → Nat} (hL : qLs (qL T) o) (ho : o = 4 ∨ o = 9) (hs : sg < 2) (hLR : qLR M0 o n w p) (hK : ∀ M2 : qm_M, (qG M2 n w p sg (gN n w p sg) (gst n w p sg (gN n w p sg)).1 (gH n w p sg) ∧ (∀ c, c ≠ 17 → c ≠ 20 → c ≠ 22 → c ≠ 24 → M2 c = M0 c)) → K (.inl 0) (qL T) M2) :
    ∀ (j i : Nat) (M : qm_M), i + j = gN n w p sg → qG M n w p sg i (gst n w p sg i).1 (gst n w p sg i).2 → (∀ c, c ≠ 17 → c ≠ 20 → c ≠ 22 → c ≠ 24 → M c = M0 c) → at_Ask_run_22 T o d K M (sg : Int) (i : Int)
  | 0, i, M, hi, g, hc => fun d4 => by
    have hI := hLR.2.2.2
    have hi : i = gN n w p sg := by omega
    have hl : qLR M o n w p := by rcases ho with rfl | rfl <;> exact qLR_mem hLR (hc _ (by decide) (by decide) (by decide) (by decide)) (hc _ (by decide) (by decide) (by decide) (by decide)) (hc _ (by decide) (by decide) (by decide) (by decide))
    subst hi
    refine rg_Ask_run_22 (n := n) (sg := sg) (i := 0) (w := w) (p := p) (h := gH n w p sg) hL (And.intro (fun _ => hK M ⟨g, hc⟩) (fun _ => ?_)) d4
    intro y1 e1
    rw [hl.1] at e1
    subst e1
    refine And.intro ⟨hI.2.1, hs, rfl, rfl⟩ (And.intro g.1 ?_)
    have he : gfa n (gH n w p sg) = n := gN_end hI hs
    rw [he, if_pos rfl]
    intro y2 e2
    subst e2
    exact And.intro (fun z => absurd rfl z) (fun _ => hK M ⟨g, hc⟩)
  | j + 1, i, M, hi, g, hc => fun d4 => by
    have hI := hLR.2.2.2
    have hN := gN_le hI hs
    have hfa := gN_lt (n := n) (w := w) (p := p) (s := sg) (i := i) (by omega)
    have hl : qLR M o n w p := by rcases ho with rfl | rfl <;> exact qLR_mem hLR (hc _ (by decide) (by decide) (by decide) (by decide)) (hc _ (by decide) (by decide) (by decide) (by decide)) (hc _ (by decide) (by decide) (by decide) (by decide))
    refine rg_Ask_run_22 (n := n) (sg := sg) (i := i) (w := w) (p := p) (h := (gst n w p sg i).2) hL (And.intro (fun z => absurd z (by omega)) (fun _ => ?_)) d4
    intro y1 e1
    rw [hl.1] at e1
    subst e1
    refine And.intro ⟨hI.2.1, hs, rfl, rfl⟩ (And.intro g.1 ?_)
    rw [if_neg (by omega)]
    intro y2 e2
    subst e2
    refine And.intro (fun _ => ?_) (fun z => absurd z (by omega))
    refine And.intro ⟨ho, hs, rfl, by omega⟩ (And.intro hl (And.intro (gst_I hI hs i (fun k hk => gN_lt (by omega))) (And.intro g (And.intro ⟨hfa, rfl⟩ ?_))))
    intro M2 hM2
    refine And.intro (by unfold qm_R; omega) ?_
    exact lp_Ask_run hL ho hs hLR hK j (i + 1) M2 (by omega) hM2.1 (fun c h1 h2 h3 h4 => by rw [hM2.2 c h1 h2 h3 h4]; exact hc c h1 h2 h3 h4)
theorem s_Ask_run {T : qm_L} {o : Nat} {n sg : Nat} {w p : Nat → Nat} {d : Nat} {K : qm_K} {M : qm_M} {s : Int} (hL : qLs (qL T) o) (hp0 : (o = 4 ∨ o = 9) ∧ sg < 2 ∧ s = (sg : Int)) (hp1 : qLR M o n w p) (hK : ∀ (M2 : qm_M), (qG M2 n w p sg (gN n w p sg) (gst n w p sg (gN n w p sg)).1 (gH n w p sg) ∧ (∀ c, c ≠ 17 → c ≠ 20 → c ≠ 22 → c ≠ 24 → M2 c = M c)) → K (.inl 0) (qL T) M2) : qm_Runs qm_P (d + 5) 4 [(.inr (some 17)), (.inr (some o)), (.inl s)] (qL T) M K := by
  obtain ⟨ho, hs, rfl⟩ := hp0
  refine en_Ask_run (n := n) (sg := sg) (i := 0) (w := w) (p := p) (h := p) hL ?_
  intro M1 e1 M2 e2 M3 e3
  have h8 := hp1.2.2.2.2.1
  have z : ∀ x, x < 16 → M3 20 x = -1 := fun x hx => by
    rw [e3, qu_cf (by decide), e2]
    unfold fRow
    rw [if_neg (by decide), e1]
    unfold fRow
    rw [if_pos rfl, if_pos hx]
  have hal : ∀ x, ginv n (fun _ => 9) x = 9 ∨ ¬ x < n := fun x => by
    by_cases hx : x < n
    · exact Or.inl (ginv_none (fun y hy => (show (9 : Nat) ≠ x by omega)))
    · exact Or.inr hx
  refine lp_Ask_run (M0 := M) hL ho hs hp1 hK (gN n w p sg) 0 M3 (by omega) ⟨?_, fun x hx => ?_, ?_, fun j hj => absurd hj (Nat.not_lt_zero _)⟩ (fun c h1 h2 h3 h4 => ?_)
  · show qGp M3 n sg (fun _ => 9)
    have hg : ∀ a, a < n → ginv n (fun _ => 9) a = 9 := fun a ha => (hal a).elim id (fun q => absurd ha q)
    refine ⟨fun _ => ⟨fun a ha => ?_, fun b hb => ?_, fun a ha => Or.inl (hg a ha), fun b hb => Or.inl rfl⟩, fun _ => ⟨fun a ha => ?_, fun b hb => ?_, fun a ha => Or.inl rfl, fun b hb => Or.inl (hg b hb)⟩⟩
    · rw [hg a ha]; exact z a (by omega)
    · exact z (8 + b) (by omega)
    · exact z a (by omega)
    · rw [hg b hb]; exact z (8 + b) (by omega)
  · rw [e3, qu_cf (by decide), e2]
    unfold fRow
    rw [if_pos rfl, if_pos (by omega)]
    rfl
  · rw [e3, qu_s]; rfl
  · rw [e3, qu_cf h1, e2]
    funext x
    unfold fRow
    rw [if_neg h3, e1]
    unfold fRow
    rw [if_neg h2]
