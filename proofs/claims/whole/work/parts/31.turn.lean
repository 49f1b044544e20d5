def tF (c : Nat) : Prop := c ≠ 25 ∧ c ≠ 27 ∧ c ≠ 29 ∧ c ≠ 31 ∧ c ≠ 33 ∧ c ≠ 35 ∧ c ≠ 37 ∧ c ≠ 40 ∧ c ≠ 42 ∧ c ≠ 44 ∧ c ≠ 46
def qFS (M M0 : qm_M) (n : Nat) (w p : Nat → Nat) (t : Nat) : Prop := M 25 6 = (t : Int) ∧ qPR M 38 n (rU n w p t) (rV n w p t) ∧ (∀ u, u < t → qTd M n w p u) ∧ qBr M n w p t ∧ qPs M n w p t ∧ ∀ c, tF c → M c = M0 c
theorem Td_keep {M M2 : qm_M} {n u : Nat} {w p : Nat → Nat} (h8 : rlen n w p u ≤ 8) (h : qTd M n w p u) (e31 : M2 31 u = M 31 u) (e2 : ∀ x, x / 8 = u → M2 27 x = M 27 x ∧ M2 29 x = M 29 x) (e33 : M2 33 u = M 33 u) (e35 : M2 35 u = M 35 u) (e37 : M2 37 u = M 37 u) : qTd M2 n w p u := by
  obtain ⟨⟨h1, h2⟩, h3, h4, h5⟩ := h
  refine ⟨⟨by rw [e31]; exact h1, fun k hk => ?_⟩, by rw [e33]; exact h3, by rw [e35]; exact h4, by rw [e37]; exact h5⟩
  have := e2 (8 * u + k) (by omega)
  rw [this.1, this.2]
  exact h2 k hk
theorem qBr_mem {M M2 : qm_M} {n t : Nat} {w p : Nat → Nat} (h : qBr M n w p t) (e : M2 44 = M 44) : qBr M2 n w p t := by
  unfold qBr at *
  rw [e]
  exact h
theorem qPs_mem {M M2 : qm_M} {n t : Nat} {w p : Nat → Nat} (h : qPs M n w p t) (e : M2 46 = M 46) : qPs M2 n w p t := by
  unfold qPs at *
  rw [e]
  exact h
theorem FS_next {M M0 M9 M11 M13 M15 M17 M18 : qm_M} {n t : Nat} {w p : Nat → Nat} (hI : qInv n w p) (ht : t < rT n w p) (hS : qFS M M0 n w p t) (h9 : qTp M9 n w p t ∧ kpF M9 M t) (h11 : M11 35 t = (rnd n w p t : Int) ∧ M11 37 t = (rdp n w p t : Int) ∧ ∀ c x, (c ≠ 35 ∧ c ≠ 37) ∨ x ≠ t → M11 c x = M9 c x) (h13 : M13 = qm_u M11 33 t (rgn n w p t)) (h15 : qBr M15 n w p (t + 1) ∧ qPs M15 n w p (t + 1) ∧ ∀ c, c ≠ 44 → c ≠ 46 → M15 c = M13 c) (h17 : qPR M17 38 n (rU n w p (t + 1)) (rV n w p (t + 1)) ∧ ∀ c, c ≠ 40 → M17 c = M15 c) (h18 : M18 = qm_u M17 25 6 (((t + 1 : Nat) : Nat) : Int)) : qFS M18 M0 n w p (t + 1) := by
  have g18 : ∀ c, c ≠ 25 → M18 c = M17 c := fun c hc => by rw [h18, qu_cf hc]
  have g13 : ∀ c, c ≠ 25 → c ≠ 40 → c ≠ 44 → c ≠ 46 → M18 c = M13 c := fun c h1 h2 h3 h4 => by rw [g18 c h1, h17.2 c h2, h15.2.2 c h3 h4]
  have g9 : ∀ c x, c ≠ 25 → c ≠ 40 → c ≠ 44 → c ≠ 46 → c ≠ 33 ∨ x ≠ t → (c ≠ 35 ∧ c ≠ 37) ∨ x ≠ t → M18 c x = M9 c x := fun c x h1 h2 h3 h4 h5 h6 => by
    rw [g13 c h1 h2 h3 h4, h13, ← h11.2.2 c x h6]
    rcases h5 with h5 | h5
    · rw [qu_c h5]
    · rw [qu_k h5]
  have l8 : ∀ u, u < rT n w p → rlen n w p u ≤ 8 := fun u hu => by
    have := (rlen_ok hI (T_lt hI hu).2).2.1
    have := hI.2.1
    omega
  refine ⟨by rw [h18, qu_s], qPR_mem h17.1 (g18 40 (by decide)), fun u hu => ?_, qBr_mem h15.1 (by rw [g18 44 (by decide), h17.2 44 (by decide)]), qPs_mem h15.2.1 (by rw [g18 46 (by decide), h17.2 46 (by decide)]), fun c hc => ?_⟩
  · by_cases hut : u = t
    · subst hut
      have hT : qTp M18 n w p u := qTp_mem h9.1 (by funext x; exact g9 31 x (by decide) (by decide) (by decide) (by decide) (Or.inl (by decide)) (Or.inl (by decide))) (by funext x; exact g9 27 x (by decide) (by decide) (by decide) (by decide) (Or.inl (by decide)) (Or.inl (by decide))) (by funext x; exact g9 29 x (by decide) (by decide) (by decide) (by decide) (Or.inl (by decide)) (Or.inl (by decide)))
      refine ⟨hT, ?_, ?_, ?_⟩
      · rw [g13 33 (by decide) (by decide) (by decide) (by decide), h13, qu_s]
      · rw [g13 35 (by decide) (by decide) (by decide) (by decide), h13, qu_cf (by decide)]; exact h11.1
      · rw [g13 37 (by decide) (by decide) (by decide) (by decide), h13, qu_cf (by decide)]; exact h11.2.1
    · refine Td_keep (l8 u (by omega)) (hS.2.2.1 u (by omega)) ?_ (fun x hx => ?_) ?_ ?_ ?_
      · rw [g9 31 u (by decide) (by decide) (by decide) (by decide) (Or.inl (by decide)) (Or.inl (by decide))]
        exact h9.2.2.2 u hut
      · rw [g9 27 x (by decide) (by decide) (by decide) (by decide) (Or.inl (by decide)) (Or.inl (by decide)), g9 29 x (by decide) (by decide) (by decide) (by decide) (Or.inl (by decide)) (Or.inl (by decide))]
        exact h9.2.2.1 x (by omega)
      · rw [g9 33 u (by decide) (by decide) (by decide) (by decide) (Or.inr hut) (Or.inr hut), h9.2.1 33 (by decide) (by decide) (by decide)]
      · rw [g9 35 u (by decide) (by decide) (by decide) (by decide) (Or.inr hut) (Or.inr hut), h9.2.1 35 (by decide) (by decide) (by decide)]
      · rw [g9 37 u (by decide) (by decide) (by decide) (by decide) (Or.inr hut) (Or.inr hut), h9.2.1 37 (by decide) (by decide) (by decide)]
  · unfold tF at hc
    rw [← hS.2.2.2.2.2 c hc, ← h9.2.1 c (by omega) (by omega) (by omega)]
    funext x
    exact g9 c x (by omega) (by omega) (by omega) (by omega) (Or.inl (by omega)) (Or.inl (by omega))
theorem follow_cz {M : qm_M} {n a : Nat} {w p u v : Nat → Nat} (h8 : n ≤ 8) (ha : a < n) (hI : qInv n w p) (hp : qPR M 38 n u v) : gPar M 38 1 (cz (nxr n w p u v a)) = cz (fo n w p u v a) := by
  unfold nxr fo
  by_cases h : nxk n w p u v a < n
  · rw [if_pos h, if_pos ⟨ha, h⟩]
    have := (hI.2.2 0 a (by omega) ha _ h).1
    rw [cz_n (by omega)]
    exact gPar_r hp h8 this
  · rw [if_neg h, if_neg (fun z => h z.2), cz_9]
    unfold gPar
    rw [cell2_out (Or.inl (by decide)), gRow_out (Or.inl (by decide))]
theorem qFS_42 {M M2 M0 : qm_M} {n t : Nat} {w p : Nat → Nat} (h : qFS M M0 n w p t) (e : ∀ c, c ≠ 42 → M2 c = M c) : qFS M2 M0 n w p t := by
  obtain ⟨h1, h2, h3, h4, h5, h6⟩ := h
  refine ⟨by rw [e 25 (by decide)]; exact h1, qPR_mem h2 (e 40 (by decide)), fun u hu => ?_, qBr_mem h4 (e 44 (by decide)), qPs_mem h5 (e 46 (by decide)), fun c hc => by rw [e c (by unfold tF at hc; omega)]; exact h6 c hc⟩
  have := h3 u hu
  unfold qTd qTp at *
  rw [e 31 (by decide), e 27 (by decide), e 29 (by decide), e 33 (by decide), e 35 (by decide), e 37 (by decide)]
  exact this
def at_Turns_find_31 (T : qm_L) (d : Nat) (K : qm_K) (M : qm_M) (x3 : Int) : Prop := ∀ (d2 d4 : Option qm_V), qm_TT qi_85 (qm_Runs qm_P (d + 4)) K 31 [some (.inr (some 25)), some (.inr (some 4)), d2, some (.inl x3), d4] [] (qL T) M 0 0
def at_Turns_find_40 (T : qm_L) (d : Nat) (K : qm_K) (M : qm_M) (x3 x4 : Int) : Prop := ∀ (d2 : Option qm_V), qm_TT qi_85 (qm_Runs qm_P (d + 4)) K 40 [some (.inr (some 25)), some (.inr (some 4)), d2, some (.inl x3), some (.inl x4)] [] (qL T) M 0 0
theorem rg_Turns_find_31 {T : qm_L} {n i z a : Nat} {w p u v u2 v2 f : Nat → Nat} {d : Nat} {K : qm_K} {M : qm_M} {x3 : Int} (h :
    (28 ≤ x3 →
     K (.inl 0) (qL T) M) ∧
    (¬ 28 ≤ x3 →
     at_Turns_find_40 T d K M x3 0)) : at_Turns_find_31 T d K M x3 :=
  fun d2 d4 => qm_wp_TT [31, 40] 48 (And.intro (fun q22 => (h.1 q22)) (fun q23 => (h.2 q23) _))
theorem rg_Turns_find_40 {T : qm_L} {n i z a : Nat} {w p u v u2 v2 f : Nat → Nat} {d : Nat} {K : qm_K} {M : qm_M} {x3 x4 : Int} (h :
    ∀ (y5 : Int), y5 = (M 4 2) →
    (y5 ≤ x4 →
     ∀ (y6 : Int), y6 = (M 4 2) →
     (fok n f ∧ qFl M n f) ∧
     (y6 = (n : Int)) ∧
     ∀ (y7 : Int), y7 = (if lst (cyc f) n = n then (-1) else (lst (cyc f) n : Int)) →
     (y7 ≠ (-1) →
      (qInv n w p ∧ i < 28 ∧ x3 = (i : Int) ∧ rL n w p i < n ∧ y7 = (rL n w p i : Int)) ∧
      (qPR M 38 n (rU n w p i) (rV n w p i)) ∧
      (qFl M n (rF n w p i)) ∧
      (∀ (M9 : qm_M), (qTp M9 n w p i ∧ kpF M9 M i) →
       (qLR M9 4 n w p) ∧
       (i < rT n w p ∧ x3 = (i : Int)) ∧
       (qTp M9 n w p i ∧ qBr M9 n w p i ∧ qPs M9 n w p i ∧ ∀ x, x < i → M9 35 x = (rnd n w p x : Int) ∧ M9 37 x = (rdp n w p x : Int)) ∧
       (∀ (M11 : qm_M), (M11 35 i = (rnd n w p i : Int) ∧ M11 37 i = (rdp n w p i : Int) ∧ ∀ c x, (c ≠ 35 ∧ c ≠ 37) ∨ x ≠ i → M11 c x = M9 c x) →
        (qLR M11 4 n w p) ∧
        (i < 28 ∧ rL n w p i < n ∧ x3 = (i : Int)) ∧
        (qTp M11 n w p i) ∧
        ∀ (y12 : Int), y12 = (rgn n w p i) →
        ∀ (M13 : qm_M), M13 = (sRow M11 33 28 x3 y12) →
        (qLR M13 4 n w p) ∧
        (i < 28 ∧ rL n w p i < n ∧ x3 = (i : Int)) ∧
        (qTp M13 n w p i ∧ qBr M13 n w p i ∧ qPs M13 n w p i) ∧
        (∀ (M15 : qm_M), (qBr M15 n w p (i + 1) ∧ qPs M15 n w p (i + 1) ∧ ∀ c, c ≠ 44 → c ≠ 46 → M15 c = M13 c) →
         (qInv n w p ∧ qTp M15 n w p i ∧ i < rT n w p ∧ x3 = (i : Int)) ∧
         (qPR M15 38 n u v ∧ qMt n u v ∧ 40 ≠ 27 ∧ 40 ≠ 29 ∧ 40 ≠ 31) ∧
         (qMt n u2 v2 ∧ (∀ a, rIn n w p i a → u a = rU n w p i a ∧ u2 a = rX n w p i a) ∧ (∀ a, ¬ rIn n w p i a → u2 a = u a) ∧ ∀ b, b < n → ¬ rIn n w p i (v b) → v2 b = v b) ∧
         (∀ (M17 : qm_M), (qPR M17 38 n u2 v2 ∧ ∀ c, c ≠ 40 → M17 c = M15 c) →
          qm_R (x3 + 1) ∧
          ∀ (M18 : qm_M), M18 = (qm_u M17 25 6 (x3 + 1)) →
          qm_R (x3 + 1) ∧
          at_Turns_find_31 T d K M18 ((x3 + 1))))))) ∧
     (¬ y7 ≠ (-1) →
      K (.inl 0) (qL T) M)) ∧
    (¬ y5 ≤ x4 →
     (qLR M 4 n w p) ∧
     (qPR M 38 n u v ∧ qMt n u v) ∧
     (a < n ∧ x4 = (a : Int)) ∧
     ∀ (y19 : Int), y19 = (cz (nxr n w p u v a)) →
     ∀ (y20 : Int), y20 = (gPar M 38 1 y19) →
     ∀ (M21 : qm_M), M21 = (sRow M 42 8 x4 y20) →
     qm_R (x4 + 1) ∧
     at_Turns_find_40 T d K M21 x3 ((x4 + 1)))) : at_Turns_find_40 T d K M x3 x4 :=
  fun d2 => qm_wp_TT [31, 40] 48 (And.intro (lo_4 T) (s_Lists_each (d := d + 3) (lLs_4 T)  (And.intro (fun q24 => And.intro (lo_4 T) (s_Lists_each (d := d + 3) (lLs_4 T)  (And.intro (lo_25 T) (s_Turns_firstLeader (d := d + 1)  ((((h _ rfl).1 q24) _ rfl).1) ((((h _ rfl).1 q24) _ rfl).2.1) (And.intro (fun q26 => And.intro (lo_25 T) (s_Turns_keepPairs (d := d + 1)  ((((((h _ rfl).1 q24) _ rfl).2.2 _ rfl).1 q26).1) ((((((h _ rfl).1 q24) _ rfl).2.2 _ rfl).1 q26).2.1) ((((((h _ rfl).1 q24) _ rfl).2.2 _ rfl).1 q26).2.2.1) (fun M9 p28 => And.intro (lo_25 T) (s_Turns_keepNeeds (d := d + 0)  (((((((h _ rfl).1 q24) _ rfl).2.2 _ rfl).1 q26).2.2.2 M9 p28).1) (((((((h _ rfl).1 q24) _ rfl).2.2 _ rfl).1 q26).2.2.2 M9 p28).2.1) (((((((h _ rfl).1 q24) _ rfl).2.2 _ rfl).1 q26).2.2.2 M9 p28).2.2.1) (fun M11 p29 => Exists.intro 32 (And.intro (lf_25_3 T) (And.intro (lo_25 T) (s_Turns_weigh (d := d + 0)  ((((((((h _ rfl).1 q24) _ rfl).2.2 _ rfl).1 q26).2.2.2 M9 p28).2.2.2 M11 p29).1) ((((((((h _ rfl).1 q24) _ rfl).2.2 _ rfl).1 q26).2.2.2 M9 p28).2.2.2 M11 p29).2.1) ((((((((h _ rfl).1 q24) _ rfl).2.2 _ rfl).1 q26).2.2.2 M9 p28).2.2.2 M11 p29).2.2.1) (And.intro (lo_32 T) (s_Row_set (d := d + 3) (lRow_32 T)  (And.intro (lo_25 T) (s_Turns_markPassed (d := d + 0)  ((((((((((h _ rfl).1 q24) _ rfl).2.2 _ rfl).1 q26).2.2.2 M9 p28).2.2.2 M11 p29).2.2.2 _ rfl) _ rfl).1) ((((((((((h _ rfl).1 q24) _ rfl).2.2 _ rfl).1 q26).2.2.2 M9 p28).2.2.2 M11 p29).2.2.2 _ rfl) _ rfl).2.1) ((((((((((h _ rfl).1 q24) _ rfl).2.2 _ rfl).1 q26).2.2.2 M9 p28).2.2.2 M11 p29).2.2.2 _ rfl) _ rfl).2.2.1) (fun M15 p30 => Exists.intro 38 (And.intro (lf_25_7 T) (And.intro (lo_25 T) (s_Turns_perform (d := d + 0) (lPr_38 T) (((((((((((h _ rfl).1 q24) _ rfl).2.2 _ rfl).1 q26).2.2.2 M9 p28).2.2.2 M11 p29).2.2.2 _ rfl) _ rfl).2.2.2 M15 p30).1) (((((((((((h _ rfl).1 q24) _ rfl).2.2 _ rfl).1 q26).2.2.2 M9 p28).2.2.2 M11 p29).2.2.2 _ rfl) _ rfl).2.2.2 M15 p30).2.1) (((((((((((h _ rfl).1 q24) _ rfl).2.2 _ rfl).1 q26).2.2.2 M9 p28).2.2.2 M11 p29).2.2.2 _ rfl) _ rfl).2.2.2 M15 p30).2.2.1) (fun M17 p31 => And.intro (((((((((((h _ rfl).1 q24) _ rfl).2.2 _ rfl).1 q26).2.2.2 M9 p28).2.2.2 M11 p29).2.2.2 _ rfl) _ rfl).2.2.2 M15 p30).2.2.2 M17 p31).1 (And.intro (lf_25_6 T) (And.intro ((((((((((((h _ rfl).1 q24) _ rfl).2.2 _ rfl).1 q26).2.2.2 M9 p28).2.2.2 M11 p29).2.2.2 _ rfl) _ rfl).2.2.2 M15 p30).2.2.2 M17 p31).2 _ rfl).1 (((((((((((((h _ rfl).1 q24) _ rfl).2.2 _ rfl).1 q26).2.2.2 M9 p28).2.2.2 M11 p29).2.2.2 _ rfl) _ rfl).2.2.2 M15 p30).2.2.2 M17 p31).2 _ rfl).2 _ _)))))))))))))))))))) (fun q27 => (((((h _ rfl).1 q24) _ rfl).2.2 _ rfl).2 q27))))))) (fun q25 => Exists.intro 41 (And.intro (lf_25_8 T) (Exists.intro 38 (And.intro (lf_25_7 T) (And.intro (lo_25 T) (s_Turns_nextOf (d := d + 0)  (((h _ rfl).2 q25).1) (((h _ rfl).2 q25).2.1) (((h _ rfl).2 q25).2.2.1) (And.intro (lo_38 T) (s_Pair_partner (d := d + 2) (lPr_38 T)  (And.intro (lo_41 T) (s_Row_set (d := d + 3) (lRow_41 T)  (And.intro (((((h _ rfl).2 q25).2.2.2 _ rfl) _ rfl) _ rfl).1 ((((((h _ rfl).2 q25).2.2.2 _ rfl) _ rfl) _ rfl).2 _)))))))))))))))
theorem en_Turns_find {T : qm_L} {n i z a : Nat} {w p u v u2 v2 f : Nat → Nat} {d : Nat} {K : qm_K} {M : qm_M}  (h :
    ∀ (M1 : qm_M), M1 = (qm_u M 25 6 0) →
    (¬ 20 = 40) ∧
    ∀ (M2 : qm_M), M2 = (cRow M1 40 16 20) →
    ∀ (M3 : qm_M), M3 = (fRow M2 44 8 (-1)) →
    ∀ (M4 : qm_M), M4 = (fRow M3 46 64 (-1)) →
    at_Turns_find_31 T d K M4 0) : qm_Runs qm_P (d + 5) 85 [(.inr (some 25)), (.inr (some 4)), (.inr (some 18))] (qL T) M K :=
  And.intro (Nat.le_of_ble_eq_true rfl) (show qm_TT qi_85 (qm_Runs qm_P (d + 4)) K 0 [some (.inr (some 25)), some (.inr (some 4)), some (.inr (some 18)), none, none] [] (qL T) M 0 0 from qm_wp_TT [31, 40] 48 (And.intro (lf_25_6 T) (Exists.intro 38 (And.intro (lf_25_7 T) (And.intro (lo_38 T) (s_Pair_copyFrom (d := d + 1) (lPr_38 T) (lPr_18 T) ((h _ rfl).1) (Exists.intro 43 (And.intro (lf_25_9 T) (And.intro (lo_43 T) (s_Row_fill (d := d + 3) (lRow_43 T)  (Exists.intro 45 (And.intro (lf_25_10 T) (And.intro (lo_45 T) (s_Row_fill (d := d + 3) (lRow_45 T)  (((((h _ rfl).2 _ rfl) _ rfl) _ rfl) _ _)))))))))))))))
theorem lp_Turns_find {T : qm_L} {d : Nat} {K : qm_K} {M0 : qm_M} {n : Nat} {w p : Nat → Nat} (hl : qLR M0 4 n w p) (hK : ∀ M2 : qm_M, (qTn M2 n w p ∧ ∀ c, tF c → M2 c = M0 c) → K (.inl 0) (qL T) M2) : ∀ (j t : Nat) (M : qm_M), t + j = rT n w p → qFS M M0 n w p t → at_Turns_find_31 T d K M (t : Int) := by
  have hI := hl.2.2.2
  have h8 := hI.2.1
  have h28 := (r_T hI).1
  have hlM : ∀ M : qm_M, (∀ c, tF c → M c = M0 c) → qLR M 4 n w p := fun M h => qLR_mem hl (h _ (by unfold tF; omega)) (h _ (by unfold tF; omega)) (h _ (by unfold tF; omega))
  have tail : ∀ (t : Nat) (M : qm_M), t ≤ rT n w p → t < 28 → qFS M M0 n w p t → (t < rT n w p → ∀ M2, qFS M2 M0 n w p (t + 1) → at_Turns_find_31 T d K M2 ((t + 1 : Nat) : Int)) → at_Turns_find_40 T d K M (t : Int) 0 := by
    intro t M ht htn hS hgo
    have inner : ∀ (i x : Nat) (M1 : qm_M), x + i = n → qFS M1 M0 n w p t → (∀ y, y < x → M1 42 y = cz (rF n w p t y)) → at_Turns_find_40 T d K M1 (t : Int) (x : Int) := by
      intro i
      induction i with
      | zero =>
        intro x M1 hx hS1 hF1 d2
        have hx : x = n := by omega
        subst hx
        have l1 := hlM M1 hS1.2.2.2.2.2
        refine rg_Turns_find_40 (n := x) (i := t) (z := 0) (a := 0) (w := w) (p := p) (u := rU x w p t) (v := rV x w p t) (u2 := rU x w p (t + 1)) (v2 := rV x w p (t + 1)) (f := rF x w p t) ?_ d2
        intro y5 e5
        rw [l1.1] at e5
        refine And.intro (fun _ => ?_) (fun h => absurd h (by omega))
        intro y6 e6
        rw [l1.1] at e6
        refine And.intro ⟨r_ok hI t, hF1⟩ (And.intro e6 ?_)
        intro y7 e7
        have eL : lst (cyc (rF x w p t)) x = rL x w p t := rfl
        rw [eL] at e7
        refine And.intro (fun hne => ?_) (fun hne => hK M1 ⟨?_, hS1.2.2.2.2.2⟩)
        · have hLn : rL x w p t ≠ x := fun z => hne (by rw [e7, if_pos z])
          rw [if_neg hLn] at e7
          have hLlt : rL x w p t < x := by have : rL x w p t ≤ x := lst_le _ _; omega
          have htT : t < rT x w p := by
            rcases Nat.lt_or_ge t (rT x w p) with q | q
            · exact q
            · exact absurd (by rw [show t = rT x w p by omega]; exact (r_T hI).2) hLn
          refine And.intro ⟨hI, htn, rfl, hLlt, e7⟩ (And.intro hS1.2.1 (And.intro hF1 ?_))
          intro M9 h9
          have l9 : qLR M9 4 x w p := qLR_mem l1 (h9.2.1 _ (by decide) (by decide) (by decide)) (h9.2.1 _ (by decide) (by decide) (by decide)) (h9.2.1 _ (by decide) (by decide) (by decide))
          refine And.intro l9 (And.intro ⟨htT, rfl⟩ (And.intro ⟨h9.1, qBr_mem hS1.2.2.2.1 (h9.2.1 _ (by decide) (by decide) (by decide)), qPs_mem hS1.2.2.2.2.1 (h9.2.1 _ (by decide) (by decide) (by decide)), fun y hy => ?_⟩ ?_))
          · have := hS1.2.2.1 y hy
            rw [h9.2.1 35 (by decide) (by decide) (by decide), h9.2.1 37 (by decide) (by decide) (by decide)]
            exact ⟨this.2.2.1, this.2.2.2⟩
          intro M11 h11
          have k11 : ∀ c, c ≠ 35 → c ≠ 37 → M11 c = M9 c := fun c q1 q2 => funext fun y => h11.2.2 c y (Or.inl ⟨q1, q2⟩)
          have l11 : qLR M11 4 x w p := qLR_mem l9 (k11 _ (by decide) (by decide)) (k11 _ (by decide) (by decide)) (k11 _ (by decide) (by decide))
          have t11 : qTp M11 x w p t := qTp_mem h9.1 (k11 _ (by decide) (by decide)) (k11 _ (by decide) (by decide)) (k11 _ (by decide) (by decide))
          refine And.intro l11 (And.intro ⟨htn, hLlt, rfl⟩ (And.intro t11 ?_))
          intro y12 e12
          intro M13 e13
          rw [sRow_in htn, e12] at e13
          have k13 : ∀ c, c ≠ 33 → M13 c = M11 c := fun c q1 => by rw [e13, qu_cf q1]
          have b9 : qBr M13 x w p t := qBr_mem (qBr_mem (qBr_mem hS1.2.2.2.1 (h9.2.1 _ (by decide) (by decide) (by decide))) (k11 _ (by decide) (by decide))) (k13 _ (by decide))
          have s9 : qPs M13 x w p t := qPs_mem (qPs_mem (qPs_mem hS1.2.2.2.2.1 (h9.2.1 _ (by decide) (by decide) (by decide))) (k11 _ (by decide) (by decide))) (k13 _ (by decide))
          refine And.intro (qLR_mem l11 (k13 _ (by decide)) (k13 _ (by decide)) (k13 _ (by decide))) (And.intro ⟨htn, hLlt, rfl⟩ (And.intro ⟨qTp_mem t11 (k13 _ (by decide)) (k13 _ (by decide)) (k13 _ (by decide)), b9, s9⟩ ?_))
          intro M15 h15
          have t15 : qTp M15 x w p t := qTp_mem t11 (by rw [h15.2.2 31 (by decide) (by decide)]; exact k13 _ (by decide)) (by rw [h15.2.2 27 (by decide) (by decide)]; exact k13 _ (by decide)) (by rw [h15.2.2 29 (by decide) (by decide)]; exact k13 _ (by decide))
          have p15 : qPR M15 38 x (rU x w p t) (rV x w p t) := qPR_mem hS1.2.1 (by rw [h15.2.2 40 (by decide) (by decide), k13 40 (by decide), k11 40 (by decide) (by decide), h9.2.1 40 (by decide) (by decide) (by decide)])
          refine And.intro ⟨hI, t15, htT, rfl⟩ (And.intro ⟨p15, r_qMt hI t, by decide, by decide, by decide⟩ (And.intro ⟨r_qMt hI (t + 1), fun a ha => ⟨rfl, (r_in hI hLlt ha).2.2.1⟩, fun a ha => r_out hI ha, fun b hb hq => r_outV hI hq⟩ ?_))
          intro M17 h17
          refine And.intro (by unfold qm_R; omega) ?_
          intro M18 e18
          refine And.intro (by unfold qm_R; omega) ?_
          exact hgo htT M18 (FS_next hI htT hS1 h9 h11 e13 h15 h17 e18)
        · have hLn : rL x w p t = x := Classical.byContradiction fun z => by
            rw [if_neg z] at e7
            exact hne (by omega)
          have htT : t = rT x w p := by
            rcases Nat.lt_or_ge t (rT x w p) with q | q
            · exact absurd hLn (by have := (r_lt q).1; omega)
            · omega
          exact ⟨by rw [← htT]; exact hS1.1, by rw [← htT]; exact hS1.2.2.1⟩
      | succ i ihi =>
        intro x M1 hx hS1 hF1 d2
        have l1 := hlM M1 hS1.2.2.2.2.2
        refine rg_Turns_find_40 (n := n) (i := t) (z := 0) (a := x) (w := w) (p := p) (u := rU n w p t) (v := rV n w p t) (u2 := rU n w p (t + 1)) (v2 := rV n w p (t + 1)) (f := rF n w p t) ?_ d2
        intro y5 e5
        rw [l1.1] at e5
        refine And.intro (fun h => absurd h (by omega)) (fun _ => And.intro l1 (And.intro ⟨hS1.2.1, r_qMt hI t⟩ (And.intro ⟨by omega, rfl⟩ ?_)))
        intro y19 e19 y20 e20 M21 e21
        rw [e19, follow_cz h8 (by omega) hI hS1.2.1] at e20
        rw [e20, sRow_in (by omega)] at e21
        refine And.intro (by unfold qm_R; omega) (ihi (x + 1) M21 (by omega) (qFS_42 hS1 (fun c hc => by rw [e21, qu_cf hc])) (fun y hy => ?_))
        rw [e21]
        by_cases hyx : y = x
        · rw [hyx, qu_s]; rfl
        · rw [qu_k hyx]; exact hF1 y (by omega)
    exact inner n 0 M (by omega) hS (fun y hy => absurd hy (Nat.not_lt_zero _))
  intro j
  induction j with
  | zero =>
    intro t M ht hS d2 d4
    have ht : t = rT n w p := by omega
    refine rg_Turns_find_31 (n := n) (i := 0) (z := 0) (a := 0) (w := w) (p := p) (u := p) (v := p) (u2 := p) (v2 := p) (f := p) (And.intro (fun h => hK M ⟨⟨by rw [← ht]; exact hS.1, by rw [← ht]; exact hS.2.2.1⟩, hS.2.2.2.2.2⟩) (fun h => tail t M (by omega) (by omega) hS (fun z => absurd z (by omega)))) d2 d4
  | succ j ih =>
    intro t M ht hS d2 d4
    refine rg_Turns_find_31 (n := n) (i := 0) (z := 0) (a := 0) (w := w) (p := p) (u := p) (v := p) (u2 := p) (v2 := p) (f := p) (And.intro (fun h => absurd h (by omega)) (fun h => tail t M (by omega) (by omega) hS (fun _ M2 h2 => ih (t + 1) M2 (by omega) h2))) d2 d4
theorem s_Turns_find {T : qm_L} {n : Nat} {w p : Nat → Nat} {d : Nat} {K : qm_K} {M : qm_M}  (hp0 : qLR M 4 n w p) (hp1 : qPR M 18 n (rU n w p 0) (rV n w p 0)) (hK : ∀ (M2 : qm_M), (qTn M2 n w p ∧ ∀ c, tF c → M2 c = M c) → K (.inl 0) (qL T) M2) : qm_Runs qm_P (d + 5) 85 [(.inr (some 25)), (.inr (some 4)), (.inr (some 18))] (qL T) M K := by
  have hI := hp0.2.2.2
  have h8 := hI.2.1
  refine en_Turns_find (n := n) (i := 0) (z := 0) (a := 0) (w := w) (p := p) (u := p) (v := p) (u2 := p) (v2 := p) (f := p) ?_
  intro M1 e1
  refine And.intro (by decide) ?_
  intro M2 e2 M3 e3 M4 e4
  have a40 : ∀ x, x < 16 → M4 40 x = M 20 x := fun x hx => by
    rw [e4]
    unfold fRow
    rw [if_neg (by decide), e3]
    unfold fRow
    rw [if_neg (by decide), e2]
    unfold cRow
    rw [if_pos rfl, if_pos hx, e1, qu_cf (by decide)]
  have a44 : ∀ x, x < 8 → M4 44 x = -1 := fun x hx => by
    rw [e4]
    unfold fRow
    rw [if_neg (by decide), e3]
    unfold fRow
    rw [if_pos rfl, if_pos hx]
  have a46 : ∀ x, x < 64 → M4 46 x = -1 := fun x hx => by
    rw [e4]
    unfold fRow
    rw [if_pos rfl, if_pos hx]
  have ac : ∀ c, c ≠ 25 → c ≠ 40 → c ≠ 44 → c ≠ 46 → M4 c = M c := fun c h1 h2 h3 h4 => by
    funext x
    rw [e4]
    unfold fRow
    rw [if_neg h4, e3]
    unfold fRow
    rw [if_neg h3, e2]
    unfold cRow
    rw [if_neg h2, e1, qu_cf h1]
  have a25 : M4 25 6 = ((0 : Nat) : Int) := by
    rw [e4]
    unfold fRow
    rw [if_neg (by decide), e3]
    unfold fRow
    rw [if_neg (by decide), e2]
    unfold cRow
    rw [if_neg (by decide), e1, qu_s]
    rfl
  refine lp_Turns_find hp0 hK (rT n w p) 0 M4 (by omega) ⟨a25, ⟨fun a ha => ?_, fun b hb => ?_, hp1.2.2⟩, fun u hu => absurd hu (Nat.not_lt_zero _), fun a ha => Or.inr ⟨a44 a (by omega), fun x hx => absurd hx (Nat.not_lt_zero _)⟩, fun b a hb ha => Or.inr ⟨a46 _ (by omega), fun x hx => absurd hx (Nat.not_lt_zero _)⟩, fun c hc => by unfold tF at hc; exact ac c (by omega) (by omega) (by omega) (by omega)⟩
  · rw [a40 a (by omega)]; exact hp1.1 a ha
  · rw [a40 (8 + b) (by omega)]; exact hp1.2.1 b hb
