/-! whom one may have -/
noncomputable def ptN (n : Nat) (w p : Nat → Nat) (s a m : Nat) : Nat := if s = 0 then mU n w p (bS (cE n w p m)) a else mV n w p (bS (cE n w p m)) a
noncomputable def mayB (n : Nat) (w p : Nat → Nat) (s a k : Nat) : Nat := bits (fun x => ∃ m, m < k ∧ ptN n w p s a m = x) 8
noncomputable def anMay (n : Nat) (w p : Nat → Nat) (s a : Int) : Int := if s < 0 ∨ 1 < s ∨ a < 0 ∨ (n : Int) ≤ a then -1 else (mayB n w p s.toNat a.toNat (cN n w p) : Int)
noncomputable def anFixed (n : Nat) (w p : Nat → Nat) : Int := (bits (fun l => (∀ t, t < rT n w p → ¬ rIn n w p t l) ∧ l < n) 8 : Int)
theorem bS_full {T u : Nat} : bS (2 ^ T - 1) u ↔ u < T := by
  unfold bS
  rw [Nat.testBit_two_pow_sub_one]
  exact decide_eq_true_iff
theorem cQ_pre {n : Nat} {w p : Nat → Nat} {t : Nat} (ht : t ≤ rT n w p) : cQ n w p (2 ^ t - 1) := ⟨fun u hu => by have := bS_full.mp hu; omega, fun u v hu hv => bS_full.mpr (by have := bS_full.mp hu; have := (Nd_lt hv).1; omega)⟩
theorem cE_last {n : Nat} {w p : Nat → Nat} : cE n w p (cN n w p - 1) = 2 ^ rT n w p - 1 := by
  have h := cQ_pre (n := n) (w := w) (p := p) (Nat.le_refl _)
  have e := (cE_of h).1
  have hN : cN n w p = cC n w p (2 ^ rT n w p - 1) + 1 := by
    unfold cN cC
    have hp : 0 < 2 ^ rT n w p := Nat.pow_pos (by decide)
    rw [← cnt_t h]
    congr 1
    omega
  rw [hN, Nat.add_sub_cancel]
  exact e
theorem pt_lt {n : Nat} {w p : Nat → Nat} {s a m : Nat} (hI : qInv n w p) (ha : a < n) (hm : m < cN n w p) : ptN n w p s a m < n := by
  have := m_qMt hI (cE_spec hm).2.1
  unfold ptN
  split
  · exact (this.1 a ha).1
  · exact (this.2 a ha).1
def plS (n : Nat) (w p : Nat → Nat) (s a x : Nat) : Prop := ∃ t, t < rT n w p ∧ ∃ l, rIn n w p t l ∧ (if s = 0 then l = a ∧ rU n w p t l = x else rU n w p t l = a ∧ l = x)
theorem may_iff {n : Nat} {w p : Nat → Nat} {s a x : Nat} (hI : qInv n w p) (ha : a < n) : (∃ m, m < cN n w p ∧ ptN n w p s a m = x) ↔ (plS n w p s a x ∨ ptN n w p s a (cN n w p - 1) = x) := by
  have hpos := cN_pos (n := n) (w := w) (p := p)
  refine ⟨fun ⟨m, hm, h⟩ => ?_, fun h => ?_⟩
  · have hlast : ∀ y, ¬ (¬ bS (cE n w p (cN n w p - 1)) y) ∨ rT n w p ≤ y := fun y => by
      rw [cE_last]
      rcases Nat.lt_or_ge y (rT n w p) with q | q
      · exact Or.inl (Classical.not_not.mpr (bS_full.mpr q))
      · exact Or.inr q
    unfold ptN at h ⊢
    by_cases hs : s = 0
    · rw [if_pos hs] at h ⊢
      by_cases q : rf n w p (bS (cE n w p m)) a < rT n w p
      · exact Or.inl ⟨_, q, a, (lst_P q).1, by rw [if_pos hs]; exact ⟨rfl, h⟩⟩
      · refine Or.inr ?_
        have e1 : rf n w p (bS (cE n w p m)) a = rT n w p := Nat.le_antisymm (lst_le _ _) (by omega)
        have e2 : rf n w p (bS (cE n w p (cN n w p - 1))) a = rT n w p := lst_none (fun j hj q2 => (hlast j).elim (fun z => z q2.2) (fun z => by omega))
        rw [← h]
        unfold mU
        rw [e1, e2]
    · rw [if_neg hs] at h ⊢
      by_cases q : rg n w p (bS (cE n w p m)) a < rT n w p
      · exact Or.inl ⟨_, q, _, (lst_P q).1, by rw [if_neg hs]; exact ⟨((r_qMt hI _).2 a ha).2, h⟩⟩
      · refine Or.inr ?_
        have e1 : rg n w p (bS (cE n w p m)) a = rT n w p := Nat.le_antisymm (lst_le _ _) (by omega)
        have e2 : rg n w p (bS (cE n w p (cN n w p - 1))) a = rT n w p := lst_none (fun j hj q2 => (hlast j).elim (fun z => z q2.2) (fun z => by omega))
        rw [← h]
        unfold mV
        rw [e1, e2]
  · rcases h with ⟨t, ht, l, hl, h⟩ | h
    · have hq := cE_of (cQ_pre (n := n) (w := w) (p := p) (t := t) (by omega))
      refine ⟨_, hq.2, ?_⟩
      unfold ptN
      rw [hq.1]
      by_cases hs : s = 0
      · rw [if_pos hs] at h ⊢
        have e : rf n w p (bS (2 ^ t - 1)) a = t := lst_eq ht ⟨by rw [← h.1]; exact hl, fun q => Nat.lt_irrefl _ (bS_full.mp q)⟩ (fun j hj q => q.2 (bS_full.mpr hj))
        unfold mU
        rw [e, ← h.2, h.1]
      · rw [if_neg hs] at h ⊢
        have hln := (r_in hI (r_lt ht).1 hl).1
        have ev : rV n w p t a = l := by rw [← h.1]; exact ((r_qMt hI t).1 l hln).2
        have e : rg n w p (bS (2 ^ t - 1)) a = t := lst_eq ht ⟨by rw [ev]; exact hl, fun q => Nat.lt_irrefl _ (bS_full.mp q)⟩ (fun j hj q => q.2 (bS_full.mpr hj))
        unfold mV
        rw [e, ev, h.2]
    · exact ⟨_, by omega, h⟩
set_option maxRecDepth 20000 in
theorem pw8 : ∀ B, B < 256 → B &&& (B - 1) = 0 → B = 0 ∨ ∃ k, k < 8 ∧ B = 2 ^ k := by decide
theorem pw8b : ∀ k, k < 8 → 2 ^ k &&& (2 ^ k - 1) = 0 := by decide
theorem may_bit {n : Nat} {w p : Nat → Nat} {s a x : Nat} (hI : qInv n w p) (ha : a < n) : (mayB n w p s a (cN n w p)).testBit x = true ↔ (plS n w p s a x ∨ ptN n w p s a (cN n w p - 1) = x) := by
  unfold mayB
  rw [bits_test, may_iff hI ha]
  refine ⟨fun h => h.2, fun h => ⟨?_, h⟩⟩
  obtain ⟨m, hm, e⟩ := (may_iff hI ha).mpr h
  have := pt_lt (s := s) hI ha hm
  have h8 := hI.2.1
  omega
theorem fixed_iff {n : Nat} {w p : Nat → Nat} {a : Nat} (hI : qInv n w p) (ha : a < n) : (mayB n w p 0 a (cN n w p) &&& (mayB n w p 0 a (cN n w p) - 1) = 0) ↔ ∀ t, t < rT n w p → ¬ rIn n w p t a := by
  have hpos := cN_pos (n := n) (w := w) (p := p)
  have hb := fun x => may_bit (s := 0) (x := x) hI ha
  have h256 : mayB n w p 0 a (cN n w p) < 256 := bits_lt _ 8
  have hl8 : ptN n w p 0 a (cN n w p - 1) < 8 := by
    have := pt_lt (s := 0) hI ha (show cN n w p - 1 < cN n w p by omega)
    have := hI.2.1
    omega
  have elast : ptN n w p 0 a (cN n w p - 1) = rU n w p (rT n w p) a := by
    unfold ptN mU
    rw [if_pos rfl, cE_last]
    rw [show rf n w p (bS (2 ^ rT n w p - 1)) a = rT n w p from lst_none (fun j hj q => q.2 (bS_full.mpr hj))]
  refine ⟨fun h t ht hin => ?_, fun h => ?_⟩
  · have b1 := (hb (rU n w p t a)).mpr (Or.inl ⟨t, ht, a, hin, by rw [if_pos rfl]; exact ⟨rfl, rfl⟩⟩)
    have b2 := (hb (rU n w p (rT n w p) a)).mpr (Or.inr elast)
    have hlt := r_strU hI ht hin (Nat.le_refl t) ht
    rcases pw8 _ h256 h with q | ⟨k, hk, q⟩
    · rw [q, Nat.zero_testBit] at b1; exact absurd b1 (by decide)
    · rw [q, pow_test] at b1 b2
      rw [← b1, ← b2] at hlt
      exact Nat.lt_irrefl _ hlt
  · have e : mayB n w p 0 a (cN n w p) = 2 ^ ptN n w p 0 a (cN n w p - 1) := bits_ext (fun x => by
      rw [hb x, pow_test]
      refine ⟨fun q => q.elim (fun ⟨t, ht, l, hl, q2⟩ => ?_) id, Or.inr⟩
      rw [if_pos rfl] at q2
      exact absurd (q2.1 ▸ hl) (h t ht))
    rw [e]
    exact pw8b _ hl8
theorem may_pos {n : Nat} {w p : Nat → Nat} {s a : Nat} (hI : qInv n w p) (ha : a < n) : 0 < mayB n w p s a (cN n w p) := Nat.pos_of_ne_zero fun q => by
  have := (may_bit (s := s) (x := ptN n w p s a (cN n w p - 1)) hI ha).mpr (Or.inr rfl)
  rw [q, Nat.zero_testBit] at this
  exact absurd this (by decide)
theorem may_step {n : Nat} {w p : Nat → Nat} {s a k : Nat} (h : ptN n w p s a k < 8) : mayB n w p s a k ||| 2 ^ ptN n w p s a k = mayB n w p s a (k + 1) := by
  unfold mayB
  rw [bits_or h]
  refine bits_congr (fun u _ => ⟨fun q => q.elim (fun ⟨m, hm, e⟩ => ⟨m, by omega, e⟩) (fun e => ⟨k, by omega, e.symm⟩), fun ⟨m, hm, e⟩ => ?_⟩)
  by_cases hmk : m = k
  · exact Or.inr (by rw [← e, hmk])
  · exact Or.inl ⟨m, by omega, e⟩
def at_R_may_28  (d : Nat) (K : qm_K) (M : qm_M) (x1 x2 x3 x4 : Int) : Prop := qm_TT qi_198 (qm_Runs qm_P (d + 7)) K 28 [some (.inr (some 71)), some (.inl x1), some (.inl x2), some (.inl x3), some (.inl x4)] [] (qL qLM) M 0 0
theorem rg_R_may_28  {n : Nat} {w p u v : Nat → Nat} {d : Nat} {K : qm_K} {M : qm_M} {x1 x2 x3 x4 : Int} (h :
    ((M 71 34) ≤ x4 →
     K (.inl x3) (qL qLM) M) ∧
    (¬ (M 71 34) ≤ x4 →
     (qMR M n w p ∧ rKn M n w p) ∧
     (0 ≤ (x4 : Int) ∧ (x4 : Int) < (cN n w p : Int)) ∧
     (8 ≤ (8 : Nat) ∧ 86 ≠ 71 ∧ 86 ≠ 85 ∧ 86 ≠ 89 ∧ 86 ≠ 90 ∧ 86 ≠ 95) ∧
     (∀ (M4 : qm_M), (qAr M4 86 n (mU n w p (bS (cE n w p (Int.toNat x4)))) ∧ ∀ c, c ≠ 86 → M4 c = M c) →
      (x1 ≠ 0 →
       (qAr M4 86 n u ∧ qMt n u v ∧ n ≤ (8 : Nat)) ∧
       (0 ≤ (x2 : Int) ∧ (x2 : Int) < (n : Int)) ∧
       ∀ (y5 : Int), y5 = (v (Int.toNat x2) : Int) →
       qm_R (x4 + 1) ∧
       at_R_may_28  d K M4 x1 x2 ((qm_or x3 (qm_shl 1 y5))) ((x4 + 1))) ∧
      (¬ x1 ≠ 0 →
       0 ≤ x2 ∧ x2 < 8 ∧
       ∀ (y6 : Int), y6 = (M4 86 (Int.toNat x2)) →
       qm_R (x4 + 1) ∧
       at_R_may_28  d K M4 x1 x2 ((qm_or x3 (qm_shl 1 y6))) ((x4 + 1)))))) : at_R_may_28  d K M x1 x2 x3 x4 :=
  qm_wp_TT [28] 27 (And.intro (lf_71_34 ()) (And.intro (fun q7 => (h.1 q7)) (fun q8 => Exists.intro 86 (And.intro (lf_71_21 ()) (And.intro (lo_71 ()) (s_R_makes (d := d + 5) (And.intro (la_86 ()) (by decide)) ((h.2 q8).1) ((h.2 q8).2.1) ((h.2 q8).2.2.1) (fun M4 p9 => And.intro (fun q10 => Exists.intro 86 (And.intro (lf_71_21 ()) (And.intro (lo_71 ()) (s_R_leftOf (d := d + 6) (And.intro (la_86 ()) (by decide)) ((((h.2 q8).2.2.2 M4 p9).1 q10).1) ((((h.2 q8).2.2.2 M4 p9).1 q10).2.1) (And.intro ((((h.2 q8).2.2.2 M4 p9).1 q10).2.2 _ rfl).1 (((((h.2 q8).2.2.2 M4 p9).1 q10).2.2 _ rfl).2)))))) (fun q11 => Exists.intro 86 (And.intro (lf_71_21 ()) (Exists.intro 8 (And.intro (la_86 ()) (And.intro (((h.2 q8).2.2.2 M4 p9).2 q11).1 (And.intro (((h.2 q8).2.2.2 M4 p9).2 q11).2.1 (And.intro ((((h.2 q8).2.2.2 M4 p9).2 q11).2.2 _ rfl).1 (((((h.2 q8).2.2.2 M4 p9).2 q11).2.2 _ rfl).2)))))))))))))))
theorem en_R_may  {n : Nat} {w p u v : Nat → Nat} {d : Nat} {K : qm_K} {M : qm_M} {s : Int} {a : Int} (h :
    ((0 ≤ s ∧ s ≤ 1) →
     (1 ≤ M 71 0 ∧ M 71 0 ≤ 8) ∧
     ((0 ≤ a ∧ a < M 71 0) →
      (qMR M n w p) ∧
      (M 71 35 ≠ 0 → rKn M n w p) ∧
      (∀ (M2 : qm_M), (rKn M2 n w p ∧ M2 71 35 ≠ 0 ∧ kF M2 M) →
       at_R_may_28  d K M2 s a 0 0)) ∧
     (¬ (0 ≤ a ∧ a < M 71 0) →
      K (.inl ((-1))) (qL qLM) M)) ∧
    (¬ (0 ≤ s ∧ s ≤ 1) →
     K (.inl ((-1))) (qL qLM) M)) : qm_Runs qm_P (d + 8) 198 [(.inr (some 71)), (.inl s), (.inl a)] (qL qLM) M K :=
  And.intro (Nat.le_of_ble_eq_true rfl) (show qm_TT qi_198 (qm_Runs qm_P (d + 7)) K 0 [some (.inr (some 71)), some (.inl s), some (.inl a), none, none] [] (qL qLM) M 0 0 from qm_wp_TT [28] 27 (And.intro True.intro (s_R_isIn (d := d + 6)   (And.intro (fun q12 => (h.2 (qm_b0 q12))) (fun q13 => And.intro (lo_71 ()) (s_R_isOne (d := d + 5)  ((h.1 (qm_b1 q13)).1) (And.intro (fun q14 => And.intro (lo_71 ()) (s_R_knows (d := d + 0)  (((h.1 (qm_b1 q13)).2.1 (qm_b1 q14)).1) (((h.1 (qm_b1 q13)).2.1 (qm_b1 q14)).2.1) (fun M2 p16 => (((h.1 (qm_b1 q13)).2.1 (qm_b1 q14)).2.2 M2 p16)))) (fun q15 => ((h.1 (qm_b1 q13)).2.2 (qm_b2 q15))))))))))
theorem lp_R_may {d : Nat} {K : qm_K} {M0 : qm_M} {n s a : Nat} {w p : Nat → Nat} (hMR : qMR M0 n w p) (hK0 : rKn M0 n w p) (ha : a < n) (hs : s < 2) (hK : ∀ (M2 : qm_M), rKn M2 n w p → (∀ c, c ≠ 86 → M2 c = M0 c) → K (.inl (mayB n w p s a (cN n w p) : Int)) (qL qLM) M2) : ∀ (j m : Nat) (M : qm_M), m + j = cN n w p → (∀ c, c ≠ 86 → M c = M0 c) → at_R_may_28 d K M (s : Int) (a : Int) (mayB n w p s a m : Int) (m : Int)
  | 0, m, M, hm, hF => by
    have hm : m = cN n w p := by omega
    subst hm
    have hk := rKn_86 hK0 hF
    refine rg_R_may_28 (n := n) (w := w) (p := p) (u := p) (v := p) (And.intro (fun _ => hK M hk hF) (fun q => absurd q (by rw [hk.2.2.2.1]; omega)))
  | j + 1, m, M, hm, hF => by
    have hI := hMR.2.2.2
    have h8 := hI.2.1
    have h4 := cN_le hI
    have hk := rKn_86 hK0 hF
    have mr := qMR_mem hMR (M2 := M) (by rw [hF 71 (by decide)]) (hF 72 (by decide)) (hF 73 (by decide))
    have hmN : m < cN n w p := by omega
    have hMt := m_qMt hI (cE_spec hmN).2.1
    have hpt := pt_lt (s := s) hI ha hmN
    have hB : mayB n w p s a m < 2147483648 := bits_lt31 (by decide)
    refine rg_R_may_28 (n := n) (w := w) (p := p) (u := mU n w p (bS (cE n w p m))) (v := mV n w p (bS (cE n w p m))) (And.intro (fun q => absurd q (by rw [hk.2.2.2.1]; omega)) (fun _ => And.intro ⟨mr, hk⟩ (And.intro (by omega) (And.intro (by decide) ?_))))
    intro M4 q4
    rw [Int.toNat_natCast] at q4
    have ih := lp_R_may (d := d) hMR hK0 ha hs hK j (m + 1) M4 (by omega) (fun c hc => by rw [q4.2 c hc]; exact hF c hc)
    have stp : ∀ y : Int, y = (ptN n w p s a m : Int) → at_R_may_28 d K M4 (s : Int) (a : Int) (qm_or (mayB n w p s a m : Int) (qm_shl 1 y)) ((m : Int) + 1) := fun y hy => by
      rw [hy, qb_shl1 _ (by omega), qb_or hB (pow_lt31 (by omega)), may_step (by omega)]
      exact ih
    refine And.intro (fun h => And.intro ⟨q4.1, hMt, h8⟩ (And.intro (by omega) ?_)) (fun h => And.intro (by omega) (And.intro (by omega) ?_))
    · intro y5 e5
      rw [Int.toNat_natCast] at e5
      refine And.intro (by unfold qm_R; omega) (stp y5 ?_)
      rw [e5]
      unfold ptN
      rw [if_neg (by omega)]
    · intro y6 e6
      rw [Int.toNat_natCast, q4.1 a ha] at e6
      refine And.intro (by unfold qm_R; omega) (stp y6 ?_)
      rw [e6]
      unfold ptN
      rw [if_pos (by omega)]
theorem s_R_may  {n : Nat} {w p : Nat → Nat} {d : Nat} {K : qm_K} {M : qm_M} {s : Int} {a : Int} (hp0 : qMR M n w p) (hp1 : M 71 35 ≠ 0 → rKn M n w p) (hK : ∀ (r : Int) (M2 : qm_M), (r = anMay n w p s a ∧ (M2 71 35 ≠ 0 → rKn M2 n w p) ∧ mF M2 M) → K (.inl r) (qL qLM) M2) : qm_Runs qm_P (d + 8) 198 [(.inr (some 71)), (.inl s), (.inl a)] (qL qLM) M K := by
  have hI := hp0.2.2.2
  have h1 := hI.1
  have h8 := hI.2.1
  have self : mF M M := fun _ _ _ _ => rfl
  have bad : (s < 0 ∨ 1 < s ∨ a < 0 ∨ (n : Int) ≤ a) → K (.inl (-1)) (qL qLM) M := fun h => hK _ M ⟨by unfold anMay; rw [if_pos h], hp1, self⟩
  refine en_R_may (n := n) (w := w) (p := p) (u := p) (v := p) ?_
  rw [hp0.1]
  refine And.intro (fun h => And.intro (by omega) (And.intro (fun h2 => And.intro hp0 (And.intro hp1 ?_)) (fun h2 => bad (by omega)))) (fun h => bad (by omega))
  intro M2 q2
  obtain ⟨s, rfl⟩ : ∃ b : Nat, s = (b : Int) := ⟨s.toNat, by omega⟩
  obtain ⟨a, rfl⟩ : ∃ b : Nat, a = (b : Int) := ⟨a.toNat, by omega⟩
  have := lp_R_may (d := d) (s := s) (a := a) (kF_MR hp0 q2.2.2) q2.1 (by omega) (by omega) (fun M4 k4 f4 => hK _ M4 ⟨by unfold anMay; rw [if_neg (by omega), Int.toNat_natCast, Int.toNat_natCast], fun _ => k4, mF_trans (mF_k (kF_86 f4)) (mF_k q2.2.2)⟩) (cN n w p) 0 M2 (by omega) (fun _ _ => rfl)
  rw [show mayB n w p s a 0 = 0 from bits_0 (fun t _ q => by obtain ⟨m, hm, _⟩ := q; omega)] at this
  exact this
def at_R_fixed_4  (d : Nat) (K : qm_K) (M : qm_M) (x1 x2 : Int) : Prop := ∀ (d3 : Option qm_V), qm_TT qi_199 (qm_Runs qm_P (d + 8)) K 4 [some (.inr (some 71)), some (.inl x1), some (.inl x2), d3] [] (qL qLM) M 0 0
theorem rg_R_fixed_4  {n : Nat} {w p : Nat → Nat} {d : Nat} {K : qm_K} {M : qm_M} {x1 x2 : Int} (h :
    ((M 71 0) ≤ x2 →
     K (.inl x1) (qL qLM) M) ∧
    (¬ (M 71 0) ≤ x2 →
     (qMR M n w p) ∧
     (M 71 35 ≠ 0 → rKn M n w p) ∧
     (∀ (r1 : Int) (M2 : qm_M), (r1 = anMay n w p 0 x2 ∧ (M2 71 35 ≠ 0 → rKn M2 n w p) ∧ mF M2 M) →
      qm_R (r1 - 1) ∧
      ((qm_and r1 (r1 - 1)) ≠ 0 →
       qm_R (x2 + 1) ∧
       at_R_fixed_4  d K M2 ((qm_or x1 0)) ((x2 + 1))) ∧
      (¬ (qm_and r1 (r1 - 1)) ≠ 0 →
       qm_R (x2 + 1) ∧
       at_R_fixed_4  d K M2 ((qm_or x1 (qm_shl 1 x2))) ((x2 + 1)))))) : at_R_fixed_4  d K M x1 x2 :=
  fun d3 => qm_wp_TT [4] 28 (And.intro (lf_71_0 ()) (And.intro (fun q3 => (h.1 q3)) (fun q4 => And.intro (lo_71 ()) (s_R_may (d := d + 0)  ((h.2 q4).1) ((h.2 q4).2.1) (fun r1 M2 p5 => And.intro ((h.2 q4).2.2 r1 M2 p5).1 (And.intro (fun q6 => And.intro (((h.2 q4).2.2 r1 M2 p5).2.1 q6).1 ((((h.2 q4).2.2 r1 M2 p5).2.1 q6).2 _)) (fun q7 => And.intro (((h.2 q4).2.2 r1 M2 p5).2.2 q7).1 ((((h.2 q4).2.2 r1 M2 p5).2.2 q7).2 _))))))))
theorem en_R_fixed  {n : Nat} {w p : Nat → Nat} {d : Nat} {K : qm_K} {M : qm_M}  (h :
    at_R_fixed_4  d K M 0 0) : qm_Runs qm_P (d + 9) 199 [(.inr (some 71))] (qL qLM) M K :=
  And.intro (Nat.le_of_ble_eq_true rfl) (show qm_TT qi_199 (qm_Runs qm_P (d + 8)) K 0 [some (.inr (some 71)), none, none, none] [] (qL qLM) M 0 0 from qm_wp_TT [4] 28 (h _))
theorem lp_R_fixed {d : Nat} {K : qm_K} {M0 : qm_M} {n : Nat} {w p : Nat → Nat} (hMR : qMR M0 n w p) (hK : ∀ (r : Int) (M2 : qm_M), (r = anFixed n w p ∧ (M2 71 35 ≠ 0 → rKn M2 n w p) ∧ mF M2 M0) → K (.inl r) (qL qLM) M2) : ∀ (j c : Nat) (M : qm_M), c + j = n → (M 71 35 ≠ 0 → rKn M n w p) → mF M M0 → at_R_fixed_4 d K M (bits (fun l => (∀ t, t < rT n w p → ¬ rIn n w p t l) ∧ l < c) 8 : Int) (c : Int)
  | 0, c, M, hc, hk, hF => fun d3 => by
    have hc : c = n := by omega
    subst hc
    have mr := mF_MR hMR hF
    refine rg_R_fixed_4 (n := c) (w := w) (p := p) (And.intro (fun _ => hK _ M ⟨rfl, hk, hF⟩) (fun q => absurd q (by rw [mr.1]; omega))) d3
  | j + 1, c, M, hc, hk, hF => fun d3 => by
    have hI := hMR.2.2.2
    have h8 := hI.2.1
    have mr := mF_MR hMR hF
    have hb : bits (fun l => (∀ t, t < rT n w p → ¬ rIn n w p t l) ∧ l < c) 8 < 2147483648 := bits_lt31 (by decide)
    have hB : mayB n w p 0 c (cN n w p) < 2147483648 := bits_lt31 (by decide)
    have hpos := may_pos (s := 0) hI (show c < n by omega)
    have hfx := fixed_iff hI (show c < n by omega)
    refine rg_R_fixed_4 (n := n) (w := w) (p := p) (And.intro (fun q => absurd q (by rw [mr.1]; omega)) (fun _ => And.intro mr (And.intro hk ?_))) d3
    intro r1 M2 q2
    have e1 : r1 = (mayB n w p 0 c (cN n w p) : Int) := by
      rw [q2.1]
      unfold anMay
      rw [if_neg (by omega), Int.toNat_natCast]
      rfl
    have ih := lp_R_fixed (d := d) hMR hK j (c + 1) M2 (by omega) q2.2.1 (mF_trans q2.2.2 hF)
    have ea : qm_and r1 (r1 - 1) = ((mayB n w p 0 c (cN n w p) &&& (mayB n w p 0 c (cN n w p) - 1) : Nat) : Int) := by
      rw [e1, show (mayB n w p 0 c (cN n w p) : Int) - 1 = ((mayB n w p 0 c (cN n w p) - 1 : Nat) : Int) by omega]
      exact qb_and hB (by omega)
    rw [ea]
    refine And.intro (by unfold qm_R; omega) (And.intro (fun h => And.intro (by unfold qm_R; omega) ?_) (fun h => And.intro (by unfold qm_R; omega) ?_))
    · have hn : ¬ ∀ t, t < rT n w p → ¬ rIn n w p t c := fun q => h (by rw [hfx.mpr q]; rfl)
      rw [show bits (fun l => (∀ t, t < rT n w p → ¬ rIn n w p t l) ∧ l < c + 1) 8 = bits (fun l => (∀ t, t < rT n w p → ¬ rIn n w p t l) ∧ l < c) 8 from bits_congr (fun l _ => ⟨fun q => ⟨q.1, by
        by_cases hl : l = c
        · exact absurd (hl ▸ q.1) hn
        · omega⟩, fun q => ⟨q.1, by omega⟩⟩)] at ih
      rw [show qm_or (bits (fun l => (∀ t, t < rT n w p → ¬ rIn n w p t l) ∧ l < c) 8 : Int) 0 = (bits (fun l => (∀ t, t < rT n w p → ¬ rIn n w p t l) ∧ l < c) 8 : Int) from (qb_or hb (b := 0) (by decide)).trans (by rw [Nat.or_zero])]
      exact ih
    · have hy : ∀ t, t < rT n w p → ¬ rIn n w p t c := hfx.mp (by omega)
      rw [show bits (fun l => (∀ t, t < rT n w p → ¬ rIn n w p t l) ∧ l < c + 1) 8 = bits (fun l => (∀ t, t < rT n w p → ¬ rIn n w p t l) ∧ l < c) 8 ||| 2 ^ c from by
        rw [bits_or (by omega)]
        refine bits_congr (fun l _ => ⟨fun q => ?_, fun q => q.elim (fun z => ⟨z.1, by omega⟩) (fun z => ⟨by rw [z]; exact hy, by omega⟩)⟩)
        by_cases hl : l = c
        · exact Or.inr hl
        · exact Or.inl ⟨q.1, by omega⟩] at ih
      rw [qb_shl1 _ (by omega), qb_or hb (pow_lt31 (by omega))]
      exact ih
theorem s_R_fixed  {n : Nat} {w p : Nat → Nat} {d : Nat} {K : qm_K} {M : qm_M}  (hp0 : qMR M n w p) (hp1 : M 71 35 ≠ 0 → rKn M n w p) (hK : ∀ (r : Int) (M2 : qm_M), (r = anFixed n w p ∧ (M2 71 35 ≠ 0 → rKn M2 n w p) ∧ mF M2 M) → K (.inl r) (qL qLM) M2) : qm_Runs qm_P (d + 9) 199 [(.inr (some 71))] (qL qLM) M K := by
  refine en_R_fixed (n := n) (w := w) (p := p)  ?_
  have := lp_R_fixed (d := d) hp0 hK n 0 M (by omega) hp1 (fun _ _ _ _ => rfl)
  rw [show bits (fun l => (∀ t, t < rT n w p → ¬ rIn n w p t l) ∧ l < 0) 8 = 0 from bits_0 (fun t _ q => absurd q.2 (Nat.not_lt_zero _))] at this
  exact this
