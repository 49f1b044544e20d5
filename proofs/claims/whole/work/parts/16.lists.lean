theorem rat_iff {M : qm_M} {o n : Nat} {w p : Nat → Nat} {s a x y : Nat} (h : qLR M o n w p) (hs : s < 2) (ha : a < n) (hx : x < n) (hy : y = 9 ∨ y < n) : (cz y = -1 ∨ gPl M o (s : Int) (a : Int) (x : Int) < gPl M o (s : Int) (a : Int) (cz y)) ↔ (y = 9 ∨ p (ix s a x) < p (ix s a y)) := by
  have h8 := h.2.2.2.2.1
  rcases hy with rfl | hy
  · simp [cz_9]
  · rw [cz_n (by omega), gPl_n h hs ha hx, gPl_n h hs ha hy]
    omega
theorem lnk {p q : Prop} (h : p ↔ q) : p = q := propext h
theorem en_Lists_doBlock {L : qm_L} {o q : Nat} {n : Nat} {w p u v : Nat → Nat} {d : Nat} {K : qm_K} {M : qm_M} {l : Int} {r : Int} (hL : qLs L o) (hP : qPr L q) (h :
    ((gPar M q 1 r) = l →
     K (.inl 0) L M) ∧
    (¬ (gPar M q 1 r) = l →
     (((gPar M q 0 l) = -1 ∨ gPl M o 0 l r < gPl M o 0 l (gPar M q 0 l)) →
      (((gPar M q 1 r) = -1 ∨ gPl M o 1 r l < gPl M o 1 r (gPar M q 1 r)) →
       K (.inl 1) L M) ∧
      (¬ ((gPar M q 1 r) = -1 ∨ gPl M o 1 r l < gPl M o 1 r (gPar M q 1 r)) →
       K (.inl 0) L M)) ∧
     (¬ ((gPar M q 0 l) = -1 ∨ gPl M o 0 l r < gPl M o 0 l (gPar M q 0 l)) →
      K (.inl 0) L M))) : qm_Runs qm_P (d + 4) 31 [(.inr (some o)), (.inr (some q)), (.inl l), (.inl r)] L M K :=
  And.intro (Nat.le_of_ble_eq_true rfl) (show qm_TT qi_31 (qm_Runs qm_P (d + 3)) K 0 [some (.inr (some o)), some (.inr (some q)), some (.inl l), some (.inl r), none] [] L M 0 0 from qm_wp_TT [] 31 (And.intro (qm_FO hP.1) (s_Pair_partner (d := d + 1) hP  (And.intro (fun q1 => And.intro (Or.inl rfl) (h.1 q1)) (fun q2 => And.intro (qm_FO hP.1) (s_Pair_partner (d := d + 1) hP  (And.intro (qm_FO hL.1) (s_Lists_wouldRather (d := d + 0) hL  (And.intro (fun q3 => And.intro (Or.inl rfl) ((h.2 q2).2 (qm_b0 q3))) (fun q4 => And.intro (qm_FO hL.1) (s_Lists_wouldRather (d := d + 0) hL  (And.intro (fun q5 => And.intro (Or.inl rfl) (((h.2 q2).1 (qm_b1 q4)).2 (qm_b0 q5))) (fun q6 => And.intro (Or.inr rfl) (((h.2 q2).1 (qm_b1 q4)).1 (qm_b1 q6)))))))))))))))
theorem s_Lists_doBlock {L : qm_L} {o q : Nat} {n : Nat} {w p u v : Nat → Nat} {d : Nat} {K : qm_K} {M : qm_M} {l : Int} {r : Int} (hL : qLs L o) (hP : qPr L q) (hp0 : qLR M o n w p) (hp1 : qPR M q n u v) (hp2 : 0 ≤ l ∧ l < (n : Int)) (hp3 : 0 ≤ r ∧ r < (n : Int)) (hK : K (.inl (qm_b (blk p u v (Int.toNat l) (Int.toNat r)))) L M) : qm_Runs qm_P (d + 4) 31 [(.inr (some o)), (.inr (some q)), (.inl l), (.inl r)] L M K := by
  refine en_Lists_doBlock (n := n) (w := w) (p := p) (u := u) (v := v) hL hP ?_
  obtain ⟨a, rfl⟩ : ∃ a : Nat, l = (a : Int) := ⟨l.toNat, by omega⟩
  obtain ⟨b, rfl⟩ : ∃ b : Nat, r = (b : Int) := ⟨r.toNat, by omega⟩
  simp only [Int.toNat_natCast] at hK
  have h8 := hp0.2.2.2.2.1
  have ha : a < n := by omega
  have hb : b < n := by omega
  have hu := hp1.2.2.1 a ha
  have hv := hp1.2.2.2 b hb
  rw [gPar_r hp1 h8 hb, gPar_l hp1 h8 ha]
  have r1 := rat_iff (s := 0) (x := b) hp0 (by omega) ha hb (y := u a) (by omega)
  have r2 := rat_iff (s := 1) (x := a) hp0 (by omega) hb ha (y := v b) (by omega)
  have r0 : cz (v b) = (a : Int) ↔ u a = b := by
    constructor
    · intro h
      rcases hv with hv | ⟨hv, hw⟩
      · rw [hv, cz_9] at h; omega
      · rw [cz_n (by omega)] at h
        rw [← hw]; congr 1; omega
    · intro h
      rcases hu with hu | ⟨hu, hw⟩
      · omega
      · rw [← h, hw, cz_n (by omega)]
  refine And.intro (fun q => qk_eq hK (qm_bff (fun z => z.1 (r0.mp q)))) (fun q => And.intro (fun q2 => And.intro (fun q3 => qk_eq hK (qm_bt ⟨fun z => q (r0.mpr z), r1.mp q2, r2.mp q3⟩)) (fun q3 => qk_eq hK (qm_bff (fun z => q3 (r2.mpr z.2.2))))) (fun q2 => qk_eq hK (qm_bff (fun z => q2 (r1.mpr z.2.1)))))
def at_Lists_firstBlock_2 (L : qm_L) (o q : Nat) (d : Nat) (K : qm_K) (M : qm_M) (x2 : Int) : Prop := ∀ (d3 : Option qm_V), qm_TT qi_32 (qm_Runs qm_P (d + 4)) K 2 [some (.inr (some o)), some (.inr (some q)), some (.inl x2), d3] [] L M 0 0
def at_Lists_firstBlock_12 (L : qm_L) (o q : Nat) (d : Nat) (K : qm_K) (M : qm_M) (x2 x3 : Int) : Prop := qm_TT qi_32 (qm_Runs qm_P (d + 4)) K 12 [some (.inr (some o)), some (.inr (some q)), some (.inl x2), some (.inl x3)] [] L M 0 0
theorem rg_Lists_firstBlock_2 {L : qm_L} {o q : Nat} {n : Nat} {w p u v : Nat → Nat} {d : Nat} {K : qm_K} {M : qm_M} {x2 : Int} (hL : qLs L o) (hP : qPr L q) (h :
    ((M o 2) ≤ x2 →
     K (.inl ((-1))) L M) ∧
    (¬ (M o 2) ≤ x2 →
     at_Lists_firstBlock_12 L o q d K M x2 0)) : at_Lists_firstBlock_2 L o q d K M x2 :=
  fun d3 => qm_wp_TT [2, 12] 19 (And.intro hL.2.2.1 (And.intro (fun q1 => (h.1 q1)) (fun q2 => (h.2 q2))))
theorem rg_Lists_firstBlock_12 {L : qm_L} {o q : Nat} {n : Nat} {w p u v : Nat → Nat} {d : Nat} {K : qm_K} {M : qm_M} {x2 x3 : Int} (hL : qLs L o) (hP : qPr L q) (h :
    ((M o 2) ≤ x3 →
     qm_R (x2 + 1) ∧
     at_Lists_firstBlock_2 L o q d K M ((x2 + 1))) ∧
    (¬ (M o 2) ≤ x3 →
     (qLR M o n w p) ∧
     (qPR M q n u v) ∧
     (0 ≤ x2 ∧ x2 < (n : Int)) ∧
     (0 ≤ x3 ∧ x3 < (n : Int)) ∧
     ((blk p u v (Int.toNat x2) (Int.toNat x3)) →
      qm_R (10 * x2) ∧
      qm_R ((10 * x2) + x3) ∧
      K (.inl (((10 * x2) + x3))) L M) ∧
     (¬ (blk p u v (Int.toNat x2) (Int.toNat x3)) →
      qm_R (x3 + 1) ∧
      at_Lists_firstBlock_12 L o q d K M x2 ((x3 + 1))))) : at_Lists_firstBlock_12 L o q d K M x2 x3 :=
  qm_wp_TT [2, 12] 19 (And.intro hL.2.2.1 (And.intro (fun q3 => And.intro (h.1 q3).1 ((h.1 q3).2 (some (.inl x3)))) (fun q4 => And.intro (qm_FO hL.1) (s_Lists_doBlock (d := d + 0) hL hP ((h.2 q4).1) ((h.2 q4).2.1) ((h.2 q4).2.2.1) ((h.2 q4).2.2.2.1) (And.intro (fun q5 => And.intro ((h.2 q4).2.2.2.2.2 (qm_b0 q5)).1 (((h.2 q4).2.2.2.2.2 (qm_b0 q5)).2)) (fun q6 => And.intro ((h.2 q4).2.2.2.2.1 (qm_b1 q6)).1 (And.intro ((h.2 q4).2.2.2.2.1 (qm_b1 q6)).2.1 (((h.2 q4).2.2.2.2.1 (qm_b1 q6)).2.2))))))))
theorem en_Lists_firstBlock {L : qm_L} {o q : Nat} {n : Nat} {w p u v : Nat → Nat} {d : Nat} {K : qm_K} {M : qm_M}  (hL : qLs L o) (hP : qPr L q) (h :
    at_Lists_firstBlock_2 L o q d K M 0) : qm_Runs qm_P (d + 5) 32 [(.inr (some o)), (.inr (some q))] L M K :=
  And.intro (Nat.le_of_ble_eq_true rfl) (show qm_TT qi_32 (qm_Runs qm_P (d + 4)) K 0 [some (.inr (some o)), some (.inr (some q)), none, none] [] L M 0 0 from qm_wp_TT [2, 12] 19 (h (none)))
theorem fbk_at {n : Nat} {p u v : Nat → Nat} {l r : Nat} (h8 : n ≤ 8) (hl : l < n) (hr : r < n) (h : blk p u v l r) (h1 : ∀ a b, a < l → b < n → ¬ blk p u v a b) (h2 : ∀ b, b < r → ¬ blk p u v l b) : fbk n p u v = 10 * l + r := by
  refine lst_eq (by omega) ?_ (fun j hj z => ?_)
  · unfold fbP
    rw [show (10 * l + r) / 10 = l by omega, show (10 * l + r) % 10 = r by omega]
    exact ⟨hl, hr, h⟩
  · obtain ⟨z1, z2, z3⟩ := z
    by_cases hq : j / 10 = l
    · rw [hq] at z3
      exact h2 _ (by omega) z3
    · exact h1 _ _ (by omega) z2 z3
theorem fbk_no {n : Nat} {p u v : Nat → Nat} (h1 : ∀ a b, a < n → b < n → ¬ blk p u v a b) : fbk n p u v = 99 := lst_none (fun j hj z => h1 _ _ z.1 z.2.1 z.2.2)
theorem lp_firstBlock {L : qm_L} {o q n d : Nat} {w p u v : Nat → Nat} {K : qm_K} {M : qm_M} (hL : qLs L o) (hP : qPr L q) (hp0 : qLR M o n w p) (hp1 : qPR M q n u v) (hK : K (.inl (cz (if fbk n p u v = 99 then 9 else fbk n p u v + 10) - (if fbk n p u v = 99 then 0 else 10))) L M) : ∀ (k l : Nat), l + k = n → (∀ a b, a < l → b < n → ¬ blk p u v a b) → at_Lists_firstBlock_2 L o q d K M (l : Int)
  | 0, l, hl, h1 => by
    have h8 := hp0.2.2.2.2.1
    refine rg_Lists_firstBlock_2 (n := n) (w := w) (p := p) (u := u) (v := v) hL hP (And.intro (fun _ => ?_) (fun h => absurd h (by rw [hp0.1]; omega)))
    have := fbk_no (n := n) (fun a b ha hb => h1 a b (by omega) hb)
    refine qk_eq hK ?_
    rw [if_pos this, if_pos this]
    rfl
  | k + 1, l, hl, h1 => by
    have h8 := hp0.2.2.2.2.1
    refine rg_Lists_firstBlock_2 (n := n) (w := w) (p := p) (u := u) (v := v) hL hP (And.intro (fun h => absurd h (by rw [hp0.1]; omega)) (fun _ => ?_))
    have hin : ∀ (j r : Nat), r + j = n → (∀ b, b < r → ¬ blk p u v l b) → at_Lists_firstBlock_12 L o q d K M (l : Int) (r : Int) := by
      intro j
      induction j with
      | zero =>
        intro r hr h2
        refine rg_Lists_firstBlock_12 (n := n) (w := w) (p := p) (u := u) (v := v) hL hP (And.intro (fun _ => And.intro (by unfold qm_R; omega) ?_) (fun h => absurd h (by rw [hp0.1]; omega)))
        refine lp_firstBlock hL hP hp0 hp1 hK k (l + 1) (by omega) (fun a b ha hb => ?_)
        by_cases hal : a = l
        · rw [hal]; exact h2 b (by omega)
        · exact h1 a b (by omega) hb
      | succ j ih =>
        intro r hr h2
        refine rg_Lists_firstBlock_12 (n := n) (w := w) (p := p) (u := u) (v := v) hL hP (And.intro (fun h => absurd h (by rw [hp0.1]; omega)) (fun _ => And.intro hp0 (And.intro hp1 (And.intro (by omega) (And.intro (by omega) (And.intro (fun hb => ?_) (fun hb => ?_)))))))
        · have := fbk_at h8 (by omega) (by omega) hb h1 h2
          refine And.intro (by unfold qm_R; omega) (And.intro (by unfold qm_R; omega) (qk_eq hK ?_))
          rw [if_neg (by omega), if_neg (by omega), this, cz_n (by omega)]
          omega
        · refine And.intro (by unfold qm_R; omega) (ih (r + 1) (by omega) (fun b hbr => ?_))
          by_cases hbq : b = r
          · rw [hbq]; exact hb
          · exact h2 b (by omega)
    exact hin n 0 (by omega) (fun b hb => absurd hb (Nat.not_lt_zero _))
theorem s_Lists_firstBlock {L : qm_L} {o q : Nat} {n : Nat} {w p u v : Nat → Nat} {d : Nat} {K : qm_K} {M : qm_M}  (hL : qLs L o) (hP : qPr L q) (hp0 : qLR M o n w p) (hp1 : qPR M q n u v) (hK : K (.inl ((cz (if fbk n p u v = 99 then 9 else fbk n p u v + 10) - (if fbk n p u v = 99 then 0 else 10)))) L M) : qm_Runs qm_P (d + 5) 32 [(.inr (some o)), (.inr (some q))] L M K := by
  refine en_Lists_firstBlock (n := n) (w := w) (p := p) (u := u) (v := v) hL hP ?_
  exact lp_firstBlock hL hP hp0 hp1 hK n 0 (by omega) (fun a b ha => absurd ha (Nat.not_lt_zero _))
def at_Lists_howManyBlock_4 (L : qm_L) (o q : Nat) (d : Nat) (K : qm_K) (M : qm_M) (x2 x3 : Int) : Prop := ∀ (d4 : Option qm_V), qm_TT qi_33 (qm_Runs qm_P (d + 4)) K 4 [some (.inr (some o)), some (.inr (some q)), some (.inl x2), some (.inl x3), d4] [] L M 0 0
def at_Lists_howManyBlock_15 (L : qm_L) (o q : Nat) (d : Nat) (K : qm_K) (M : qm_M) (x2 x3 x4 : Int) : Prop := qm_TT qi_33 (qm_Runs qm_P (d + 4)) K 15 [some (.inr (some o)), some (.inr (some q)), some (.inl x2), some (.inl x3), some (.inl x4)] [] L M 0 0
theorem rg_Lists_howManyBlock_4 {L : qm_L} {o q : Nat} {n : Nat} {w p u v : Nat → Nat} {d : Nat} {K : qm_K} {M : qm_M} {x2 x3 : Int} (hL : qLs L o) (hP : qPr L q) (h :
    ((M o 2) ≤ x3 →
     K (.inl x2) L M) ∧
    (¬ (M o 2) ≤ x3 →
     at_Lists_howManyBlock_15 L o q d K M x2 x3 0)) : at_Lists_howManyBlock_4 L o q d K M x2 x3 :=
  fun d4 => qm_wp_TT [4, 15] 17 (And.intro hL.2.2.1 (And.intro (fun q1 => (h.1 q1)) (fun q2 => (h.2 q2))))
theorem rg_Lists_howManyBlock_15 {L : qm_L} {o q : Nat} {n : Nat} {w p u v : Nat → Nat} {d : Nat} {K : qm_K} {M : qm_M} {x2 x3 x4 : Int} (hL : qLs L o) (hP : qPr L q) (h :
    ((M o 2) ≤ x4 →
     qm_R (x3 + 1) ∧
     at_Lists_howManyBlock_4 L o q d K M x2 ((x3 + 1))) ∧
    (¬ (M o 2) ≤ x4 →
     (qLR M o n w p) ∧
     (qPR M q n u v) ∧
     (0 ≤ x3 ∧ x3 < (n : Int)) ∧
     (0 ≤ x4 ∧ x4 < (n : Int)) ∧
     ((blk p u v (Int.toNat x3) (Int.toNat x4)) →
      qm_R (x2 + 1) ∧
      qm_R (x4 + 1) ∧
      at_Lists_howManyBlock_15 L o q d K M ((x2 + 1)) x3 ((x4 + 1))) ∧
     (¬ (blk p u v (Int.toNat x3) (Int.toNat x4)) →
      qm_R (x4 + 1) ∧
      at_Lists_howManyBlock_15 L o q d K M x2 x3 ((x4 + 1))))) : at_Lists_howManyBlock_15 L o q d K M x2 x3 x4 :=
  qm_wp_TT [4, 15] 17 (And.intro hL.2.2.1 (And.intro (fun q3 => And.intro (h.1 q3).1 ((h.1 q3).2 (some (.inl x4)))) (fun q4 => And.intro (qm_FO hL.1) (s_Lists_doBlock (d := d + 0) hL hP ((h.2 q4).1) ((h.2 q4).2.1) ((h.2 q4).2.2.1) ((h.2 q4).2.2.2.1) (And.intro (fun q5 => And.intro ((h.2 q4).2.2.2.2.2 (qm_b0 q5)).1 (((h.2 q4).2.2.2.2.2 (qm_b0 q5)).2)) (fun q6 => And.intro ((h.2 q4).2.2.2.2.1 (qm_b1 q6)).1 (And.intro ((h.2 q4).2.2.2.2.1 (qm_b1 q6)).2.1 (((h.2 q4).2.2.2.2.1 (qm_b1 q6)).2.2))))))))
theorem en_Lists_howManyBlock {L : qm_L} {o q : Nat} {n : Nat} {w p u v : Nat → Nat} {d : Nat} {K : qm_K} {M : qm_M}  (hL : qLs L o) (hP : qPr L q) (h :
    at_Lists_howManyBlock_4 L o q d K M 0 0) : qm_Runs qm_P (d + 5) 33 [(.inr (some o)), (.inr (some q))] L M K :=
  And.intro (Nat.le_of_ble_eq_true rfl) (show qm_TT qi_33 (qm_Runs qm_P (d + 4)) K 0 [some (.inr (some o)), some (.inr (some q)), none, none, none] [] L M 0 0 from qm_wp_TT [4, 15] 17 (h (none)))
theorem lp_howManyBlock {L : qm_L} {o q n d : Nat} {w p u v : Nat → Nat} {K : qm_K} {M : qm_M} (hL : qLs L o) (hP : qPr L q) (hp0 : qLR M o n w p) (hp1 : qPR M q n u v) (hK : K (.inl (nbk n p u v : Int)) L M) : ∀ (k l : Nat), l + k = n → at_Lists_howManyBlock_4 L o q d K M ((sumN (fun l => cnt (fun r => blk p u v l r) n) l : Nat) : Int) (l : Int)
  | 0, l, hl => by
    refine rg_Lists_howManyBlock_4 (n := n) (w := w) (p := p) (u := u) (v := v) hL hP (And.intro (fun _ => ?_) (fun h => absurd h (by rw [hp0.1]; omega)))
    refine qk_eq hK ?_
    rw [show l = n by omega]
    rfl
  | k + 1, l, hl => by
    have h8 := hp0.2.2.2.2.1
    refine rg_Lists_howManyBlock_4 (n := n) (w := w) (p := p) (u := u) (v := v) hL hP (And.intro (fun h => absurd h (by rw [hp0.1]; omega)) (fun _ => ?_))
    have hs := sumN_le (f := fun l => cnt (fun r => blk p u v l r) n) (b := 8) (n := l) (fun j _ => Nat.le_trans (cnt_le _ _) h8)
    have hin : ∀ (j r : Nat), r + j = n → at_Lists_howManyBlock_15 L o q d K M (((sumN (fun l => cnt (fun r => blk p u v l r) n) l + cnt (fun r => blk p u v l r) r : Nat)) : Int) (l : Int) (r : Int) := by
      intro j
      induction j with
      | zero =>
        intro r hr
        refine rg_Lists_howManyBlock_15 (n := n) (w := w) (p := p) (u := u) (v := v) hL hP (And.intro (fun _ => And.intro (by unfold qm_R; omega) ?_) (fun h => absurd h (by rw [hp0.1]; omega)))
        have := lp_howManyBlock (d := d) hL hP hp0 hp1 hK k (l + 1) (by omega)
        rw [show r = n by omega]
        exact this
      | succ j ih =>
        intro r hr
        have hc := cnt_le (fun r => blk p u v l r) r
        refine rg_Lists_howManyBlock_15 (n := n) (w := w) (p := p) (u := u) (v := v) hL hP (And.intro (fun h => absurd h (by rw [hp0.1]; omega)) (fun _ => And.intro hp0 (And.intro hp1 (And.intro (by omega) (And.intro (by omega) (And.intro (fun hb => ?_) (fun hb => ?_)))))))
        · refine And.intro (by unfold qm_R; omega) (And.intro (by unfold qm_R; omega) ?_)
          have := ih (r + 1) (by omega)
          rw [cnt_t (show (fun r => blk p u v l r) r from hb)] at this
          exact this
        · refine And.intro (by unfold qm_R; omega) ?_
          have := ih (r + 1) (by omega)
          rw [cnt_f (show ¬ (fun r => blk p u v l r) r from hb)] at this
          exact this
    exact hin n 0 (by omega)
theorem s_Lists_howManyBlock {L : qm_L} {o q : Nat} {n : Nat} {w p u v : Nat → Nat} {d : Nat} {K : qm_K} {M : qm_M}  (hL : qLs L o) (hP : qPr L q) (hp0 : qLR M o n w p) (hp1 : qPR M q n u v) (hK : K (.inl ((nbk n p u v : Int))) L M) : qm_Runs qm_P (d + 5) 33 [(.inr (some o)), (.inr (some q))] L M K := by
  refine en_Lists_howManyBlock (n := n) (w := w) (p := p) (u := u) (v := v) hL hP ?_
  exact lp_howManyBlock hL hP hp0 hp1 hK n 0 (by omega)
