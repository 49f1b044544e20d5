theorem rKn_keep {M M2 : qm_M} {n : Nat} {w p : Nat → Nat} (h : rKn M n w p) (e85 : M2 85 = M 85) (e89 : M2 89 = M 89) (e90 : M2 90 = M 90) (e91 : M2 91 = M 91) (e92 : M2 92 = M 92) (e95 : M2 95 = M 95) (e31 : M2 71 31 = M 71 31) (e34 : M2 71 34 = M 71 34) : rKn M2 n w p := by
  unfold rKn qRp qRt mCl qAr at *
  rw [e85, e89, e90, e91, e92, e95, e31, e34]
  exact h
def at_R_makes_16 (a N : Nat) (d : Nat) (K : qm_K) (M : qm_M) (x1 x3 : Int) : Prop := qm_TT qi_186 (qm_Runs qm_P (d + 1)) K 16 [some (.inr (some 71)), some (.inl x1), some (.inr (some a)), some (.inl x3)] [] (qL qLM) M 0 0
theorem rg_R_makes_16 {a N : Nat} {n td : Nat} {w p ud ue : Nat → Nat} {d : Nat} {K : qm_K} {M : qm_M} {x1 x3 : Int} (hA : qArr (qL qLM) a N) (h :
    ((M 71 31) ≤ x3 →
     K (.inl 0) (qL qLM) M) ∧
    (¬ (M 71 31) ≤ x3 →
     0 ≤ x1 ∧ x1 < 4096 ∧
     ∀ (y2 : Int), y2 = (M 95 (Int.toNat x1)) →
     ((qm_and (qm_shr y2 x3) 1 = 1) →
      (qInv n w p ∧ td < rT n w p ∧ x3 = (td : Int) ∧ qRt M n w p td) ∧
      (qAr M a n ud ∧ 8 ≤ (N : Nat) ∧ a ≠ 89 ∧ a ≠ 90) ∧
      ((∀ a, rIn n w p td a → ue a = rX n w p td a) ∧ ∀ a, ¬ rIn n w p td a → ue a = ud a) ∧
      (∀ (M4 : qm_M), (qAr M4 a n ue ∧ ∀ c, c ≠ a → M4 c = M c) →
       qm_R (x3 + 1) ∧
       at_R_makes_16 a N d K M4 x1 ((x3 + 1)))) ∧
     (¬ (qm_and (qm_shr y2 x3) 1 = 1) →
      qm_R (x3 + 1) ∧
      at_R_makes_16 a N d K M x1 ((x3 + 1))))) : at_R_makes_16 a N d K M x1 x3 :=
  qm_wp_TT [16] 21 (And.intro (lf_71_31 ()) (And.intro (fun q5 => (h.1 q5)) (fun q6 => Exists.intro 95 (And.intro (lf_71_33 ()) (Exists.intro 4096 (And.intro (la_95 ()) (And.intro (h.2 q6).1 (And.intro (h.2 q6).2.1 (And.intro True.intro (s_R_has (d := d + 0)   (And.intro (fun q7 => And.intro (((h.2 q6).2.2 _ rfl).2 (qm_b0 q7)).1 ((((h.2 q6).2.2 _ rfl).2 (qm_b0 q7)).2)) (fun q8 => And.intro (lo_71 ()) (s_R_does (d := d + 0) hA ((((h.2 q6).2.2 _ rfl).1 (qm_b1 q8)).1) ((((h.2 q6).2.2 _ rfl).1 (qm_b1 q8)).2.1) ((((h.2 q6).2.2 _ rfl).1 (qm_b1 q8)).2.2.1) (fun M4 p9 => And.intro ((((h.2 q6).2.2 _ rfl).1 (qm_b1 q8)).2.2.2 M4 p9).1 (((((h.2 q6).2.2 _ rfl).1 (qm_b1 q8)).2.2.2 M4 p9).2)))))))))))))))
theorem en_R_makes {a N : Nat} {n td : Nat} {w p ud ue : Nat → Nat} {d : Nat} {K : qm_K} {M : qm_M} {m : Int} (hA : qArr (qL qLM) a N) (h :
    (0 ≤ ((0 : Int) : Int) ∧ 0 ≤ ((0 : Int) : Int) ∧ 0 ≤ ((M 71 0) : Int) ∧ ((0 : Int) : Int) + (M 71 0) ≤ (8 : Int) ∧ ((0 : Int) : Int) + (M 71 0) ≤ (N : Int)) ∧
    ((85 : Nat) ≠ a ∨ ((0 : Int) : Int) ≤ (0 : Int)) ∧
    ∀ (M1 : qm_M), M1 = (cpM M 85 0 a 0 (M 71 0)) →
    at_R_makes_16 a N d K M1 m 0) : qm_Runs qm_P (d + 2) 186 [(.inr (some 71)), (.inl m), (.inr (some a))] (qL qLM) M K :=
  And.intro (Nat.le_of_ble_eq_true rfl) (show qm_TT qi_186 (qm_Runs qm_P (d + 1)) K 0 [some (.inr (some 71)), some (.inl m), some (.inr (some a)), none] [] (qL qLM) M 0 0 from qm_wp_TT [16] 21 (Exists.intro 85 (And.intro (lf_71_20 ()) (And.intro (lf_71_0 ()) (And.intro True.intro (s_R_copies (d := d + 0) (And.intro (la_85 ()) (by decide)) hA (h.1) (h.2.1) ((h.2.2 _ rfl))))))))
theorem lp_R_makes {a N d : Nat} {K : qm_K} {M0 : qm_M} {n k : Nat} {w p : Nat → Nat} (hA : qArr (qL qLM) a N) (h8N : 8 ≤ N) (hne : a ≠ 71 ∧ a ≠ 85 ∧ a ≠ 89 ∧ a ≠ 90 ∧ a ≠ 95) (hI : qInv n w p) (hKn : rKn M0 n w p) (hk : k < cN n w p) (hK : ∀ M2 : qm_M, (qAr M2 a n (mU n w p (bS (cE n w p k))) ∧ ∀ c, c ≠ a → M2 c = M0 c) → K (.inl 0) (qL qLM) M2) : ∀ (j t : Nat) (M : qm_M), t + j = rT n w p → qAr M a n (mU n w p (sT (cE n w p k) t)) → (∀ c, c ≠ a → M c = M0 c) → at_R_makes_16 a N d K M (k : Int) (t : Int)
  | 0, t, M, ht, hu, hc => by
    have ht : t = rT n w p := by omega
    refine rg_R_makes_16 (n := n) (td := 0) (w := w) (p := p) (ud := p) (ue := p) hA (And.intro (fun _ => hK M ⟨?_, hc⟩) (fun q => absurd q (by rw [hc 71 (Ne.symm hne.1), hKn.2.1.1]; omega)))
    rw [ht, sT_T (cE_spec hk).2.1] at hu
    exact hu
  | j + 1, t, M, ht, hu, hc => by
    have h28 := (r_T hI).1
    have h4 := cN_le hI
    have htT : t < rT n w p := by omega
    have hz := (cE_spec hk).2.1
    have hz31 := cE_31 hI hk
    have hq := (bitq (z := cE n w p k) (t := t) hz31 (by omega)).1
    have hr : qm_R ((t : Int) + 1) := by unfold qm_R; omega
    have ih := lp_R_makes (d := d) hA h8N hne hI hKn hk hK j (t + 1)
    have hid := sT_id (t := t) hz
    have hnt : ¬ sT (cE n w p k) t t := fun q => Nat.lt_irrefl _ q.2
    have hRt : qRt M n w p t := by
      have := hKn.2.1.2 t htT
      unfold qRt at *
      rw [hc 90 (Ne.symm hne.2.2.2.1), hc 89 (Ne.symm hne.2.2.1)]
      exact this
    refine rg_R_makes_16 (n := n) (td := t) (w := w) (p := p) (ud := mU n w p (sT (cE n w p k) t)) (ue := mU n w p (sT (cE n w p k) (t + 1))) hA (And.intro (fun q => absurd q (by rw [hc 71 (Ne.symm hne.1), hKn.2.1.1]; omega)) (fun _ => And.intro (by omega) (And.intro (by omega) ?_)))
    intro y2 e2
    rw [Int.toNat_natCast, hc 95 (Ne.symm hne.2.2.2.2), hKn.2.2.2.2 k hk] at e2
    rw [e2]
    refine And.intro (fun h => ?_) (fun h => And.intro hr ?_)
    · have hb : bS (cE n w p k) t := hq.mp h
      have hrd : ∀ u, rNd n w p t u → sT (cE n w p k) t u := fun u hu => ⟨hz.2 t u hb hu, (Nd_lt hu).1⟩
      have hadd := m_add hI hid htT hnt hrd
      rw [← sT_t hb] at hadd
      refine And.intro ⟨hI, htT, rfl, hRt⟩ (And.intro ⟨hu, h8N, hne.2.2.1, hne.2.2.2.1⟩ (And.intro ⟨hadd.1, hadd.2.1⟩ ?_))
      intro M4 h4
      exact And.intro hr (ih M4 (by omega) h4.1 (fun c q => by rw [h4.2 c q]; exact hc c q))
    · refine ih M (by omega) ?_ hc
      rw [sT_f (fun q => h (hq.mpr q))]
      exact hu
theorem s_R_makes {a N : Nat} {n : Nat} {w p : Nat → Nat} {d : Nat} {K : qm_K} {M : qm_M} {m : Int} (hA : qArr (qL qLM) a N) (hp0 : qMR M n w p ∧ rKn M n w p) (hp1 : 0 ≤ (m : Int) ∧ (m : Int) < (cN n w p : Int)) (hp2 : 8 ≤ (N : Nat) ∧ a ≠ 71 ∧ a ≠ 85 ∧ a ≠ 89 ∧ a ≠ 90 ∧ a ≠ 95) (hK : ∀ (M2 : qm_M), (qAr M2 a n (mU n w p (bS (cE n w p (Int.toNat m)))) ∧ ∀ c, c ≠ a → M2 c = M c) → K (.inl 0) (qL qLM) M2) : qm_Runs qm_P (d + 2) 186 [(.inr (some 71)), (.inl m), (.inr (some a))] (qL qLM) M K := by
  obtain ⟨hMR, hKn⟩ := hp0
  obtain ⟨k, rfl⟩ : ∃ k : Nat, m = (k : Int) := ⟨m.toNat, by omega⟩
  have hk : k < cN n w p := by omega
  rw [Int.toNat_natCast] at hK
  obtain ⟨h8N, hne⟩ := hp2
  have hI := hMR.2.2.2
  have h8 := hI.2.1
  refine en_R_makes (n := n) (td := 0) (w := w) (p := p) (ud := p) (ue := p) hA ?_
  rw [hMR.1]
  refine And.intro (by omega) (And.intro (Or.inl (Ne.symm hne.2.1)) ?_)
  intro M1 e1
  refine lp_R_makes hA h8N hne hI hKn hk hK (rT n w p) 0 M1 (by omega) (fun x hx => ?_) (fun c hc => by rw [e1, cpM_c hc])
  rw [e1, cpM_0 hx, hKn.1 x hx, sT_0, m_0 hI]
theorem en_R_isMatch  {n : Nat} {w p : Nat → Nat} {d : Nat} {K : qm_K} {M : qm_M} {m : Int} (h :
    (qMR M n w p) ∧
    (M 71 35 ≠ 0 → rKn M n w p) ∧
    (∀ (M2 : qm_M), (rKn M2 n w p ∧ M2 71 35 ≠ 0 ∧ kF M2 M) →
     qm_R ((M2 71 34) - 1) ∧
     K (.inl (qm_b (0 ≤ m ∧ m ≤ ((M2 71 34) - 1)))) (qL qLM) M2)) : qm_Runs qm_P (d + 8) 185 [(.inr (some 71)), (.inl m)] (qL qLM) M K :=
  And.intro (Nat.le_of_ble_eq_true rfl) (show qm_TT qi_185 (qm_Runs qm_P (d + 7)) K 0 [some (.inr (some 71)), some (.inl m)] [] (qL qLM) M 0 0 from qm_wp_TT [] 13 (And.intro (lo_71 ()) (s_R_knows (d := d + 0)  (h.1) (h.2.1) (fun M2 p3 => And.intro (lf_71_34 ()) (And.intro (h.2.2 M2 p3).1 (And.intro True.intro (s_R_isIn (d := d + 6)   (And.intro (qm_b01 _) (h.2.2 M2 p3).2))))))))
theorem s_R_isMatch  {n : Nat} {w p : Nat → Nat} {d : Nat} {K : qm_K} {M : qm_M} {m : Int} (hp0 : qMR M n w p) (hp1 : M 71 35 ≠ 0 → rKn M n w p) (hK : ∀ (r : Int) (M2 : qm_M), (r = qm_b (0 ≤ m ∧ m < (cN n w p : Int)) ∧ rKn M2 n w p ∧ M2 71 35 ≠ 0 ∧ kF M2 M) → K (.inl r) (qL qLM) M2) : qm_Runs qm_P (d + 8) 185 [(.inr (some 71)), (.inl m)] (qL qLM) M K := by
  refine en_R_isMatch (n := n) (w := w) (p := p)  ?_
  refine And.intro hp0 (And.intro hp1 ?_)
  intro M2 h2
  have h4 := cN_le hp0.2.2.2
  rw [h2.1.2.2.2.1]
  refine And.intro (by unfold qm_R; omega) ?_
  rw [show (0 ≤ m ∧ m ≤ (cN n w p : Int) - 1) = (0 ≤ m ∧ m < (cN n w p : Int)) from propext (by omega)]
  exact hK _ M2 ⟨rfl, h2⟩
def at_R_isLike_5 (a b N N2 : Nat) (d : Nat) (K : qm_K) (M : qm_M) (x3 x4 : Int) : Prop := qm_TT qi_187 (qm_Runs qm_P (d + 0)) K 5 [some (.inr (some 71)), some (.inr (some a)), some (.inr (some b)), some (.inl x3), some (.inl x4)] [] (qL qLM) M 0 0
theorem rg_R_isLike_5 {a b N N2 : Nat}  {d : Nat} {K : qm_K} {M : qm_M} {x3 x4 : Int} (hA : qArr (qL qLM) a N) (hB : qArr (qL qLM) b N2) (h :
    ((M 71 0) ≤ x4 →
     (x3 = 0 ∨ x3 = 1) ∧
     K (.inl x3) (qL qLM) M) ∧
    (¬ (M 71 0) ≤ x4 →
     0 ≤ x4 ∧ x4 < N ∧
     ∀ (y1 : Int), y1 = (M a (Int.toNat x4)) →
     0 ≤ x4 ∧ x4 < N2 ∧
     ∀ (y2 : Int), y2 = (M b (Int.toNat x4)) →
     (y1 ≠ y2 →
      qm_R (x4 + 1) ∧
      at_R_isLike_5 a b N N2 d K M ((qm_and x3 0)) ((x4 + 1))) ∧
     (¬ y1 ≠ y2 →
      qm_R (x4 + 1) ∧
      at_R_isLike_5 a b N N2 d K M ((qm_and x3 1)) ((x4 + 1))))) : at_R_isLike_5 a b N N2 d K M x3 x4 :=
  qm_wp_TT [5] 22 (And.intro (lf_71_0 ()) (And.intro (fun q3 => (h.1 q3)) (fun q4 => Exists.intro N (And.intro hA.1 (And.intro (h.2 q4).1 (And.intro (h.2 q4).2.1 (Exists.intro N2 (And.intro hB.1 (And.intro ((h.2 q4).2.2 _ rfl).1 (And.intro ((h.2 q4).2.2 _ rfl).2.1 (And.intro (fun q5 => And.intro ((((h.2 q4).2.2 _ rfl).2.2 _ rfl).1 q5).1 (((((h.2 q4).2.2 _ rfl).2.2 _ rfl).1 q5).2)) (fun q6 => And.intro ((((h.2 q4).2.2 _ rfl).2.2 _ rfl).2 q6).1 (((((h.2 q4).2.2 _ rfl).2.2 _ rfl).2 q6).2)))))))))))))
theorem en_R_isLike {a b N N2 : Nat}  {d : Nat} {K : qm_K} {M : qm_M}  (hA : qArr (qL qLM) a N) (hB : qArr (qL qLM) b N2) (h :
    at_R_isLike_5 a b N N2 d K M 1 0) : qm_Runs qm_P (d + 1) 187 [(.inr (some 71)), (.inr (some a)), (.inr (some b))] (qL qLM) M K :=
  And.intro (Nat.le_of_ble_eq_true rfl) (show qm_TT qi_187 (qm_Runs qm_P (d + 0)) K 0 [some (.inr (some 71)), some (.inr (some a)), some (.inr (some b)), none, none] [] (qL qLM) M 0 0 from qm_wp_TT [5] 22 (h))
theorem and01 : qm_and 1 1 = 1 ∧ qm_and 0 1 = 0 ∧ qm_and 1 0 = 0 ∧ qm_and 0 0 = 0 := by decide
theorem lp_R_isLike {a b N N2 d : Nat} {K : qm_K} {M : qm_M} {n : Nat} (hA : qArr (qL qLM) a N) (hB : qArr (qL qLM) b N2) (h0 : M 71 0 = (n : Int)) (h8 : n ≤ 8) (hN : n ≤ N) (hN2 : n ≤ N2) (hK : K (.inl (qm_b (∀ x, x < n → M a x = M b x))) (qL qLM) M) : ∀ (j x : Nat), x + j = n → at_R_isLike_5 a b N N2 d K M (qm_b (∀ y, y < x → M a y = M b y)) (x : Int)
  | 0, x, hx => by
    have hx : x = n := by omega
    subst hx
    exact rg_R_isLike_5 hA hB (And.intro (fun _ => And.intro (qm_b01 _) hK) (fun q => absurd q (by rw [h0]; omega)))
  | j + 1, x, hx => by
    have ih := lp_R_isLike (d := d) hA hB h0 h8 hN hN2 hK j (x + 1) (by omega)
    refine rg_R_isLike_5 hA hB (And.intro (fun q => absurd q (by rw [h0]; omega)) (fun _ => And.intro (by omega) (And.intro (by omega) ?_)))
    intro y1 e1
    refine And.intro (by omega) (And.intro (by omega) ?_)
    intro y2 e2
    rw [Int.toNat_natCast] at e1 e2
    have hr : qm_R ((x : Int) + 1) := by unfold qm_R; omega
    have cond : qm_b (∀ y, y < x + 1 → M a y = M b y) = if y1 = y2 then qm_b (∀ y, y < x → M a y = M b y) else 0 := by
      by_cases h : y1 = y2
      · rw [if_pos h]
        congr 1
        refine propext ⟨fun q y hy => q y (by omega), fun q y hy => ?_⟩
        by_cases hyx : y = x
        · rw [hyx, ← e1, ← e2, h]
        · exact q y (by omega)
      · rw [if_neg h]
        exact qm_bff (fun q => h (by rw [e1, e2]; exact q x (by omega)))
    rw [cond] at ih
    refine And.intro (fun h => And.intro hr ?_) (fun h => And.intro hr ?_)
    · rw [if_neg h] at ih
      rcases qm_b01 (∀ y, y < x → M a y = M b y) with q | q
      · rw [q, and01.2.2.2]; exact ih
      · rw [q, and01.2.2.1]; exact ih
    · rw [if_pos (Classical.not_not.mp h)] at ih
      rcases qm_b01 (∀ y, y < x → M a y = M b y) with q | q
      · rw [q] at ih ⊢
        rw [and01.2.1]; exact ih
      · rw [q] at ih ⊢
        rw [and01.1]; exact ih
theorem s_R_isLike {a b N N2 : Nat} {n : Nat} {d : Nat} {K : qm_K} {M : qm_M}  (hA : qArr (qL qLM) a N) (hB : qArr (qL qLM) b N2) (hp0 : M 71 0 = (n : Int) ∧ n ≤ 8 ∧ n ≤ (N : Nat) ∧ n ≤ (N2 : Nat)) (hK : K (.inl (qm_b (∀ x, x < n → M a x = M b x))) (qL qLM) M) : qm_Runs qm_P (d + 1) 187 [(.inr (some 71)), (.inr (some a)), (.inr (some b))] (qL qLM) M K := by
  refine en_R_isLike  hA hB ?_
  obtain ⟨h0, h8, hN, hN2⟩ := hp0
  have := lp_R_isLike (d := d) hA hB h0 h8 hN hN2 hK n 0 (by omega)
  rw [qm_bt (fun y hy => absurd hy (Nat.not_lt_zero _))] at this
  exact this
noncomputable def gG (n : Nat) (w p : Nat → Nat) (t k : Nat) : Int := (p (ix 1 (rri n w p t k) (rle n w p t k)) : Int)
noncomputable def gR (n : Nat) (w p : Nat → Nat) (t k : Nat) : Int := ((p (ix 0 (rle n w p t k) (rri n w p t k)) : Int) + gG n w p t k - (p (ix 0 (rle n w p t k) (rri n w p t (k + 1))) : Int)) - (p (ix 1 (rri n w p t (k + 1)) (rle n w p t k)) : Int)
theorem gR_sum {n : Nat} {w p : Nat → Nat} {t : Nat} : ∀ k, sumI (gR n w p t) k = sumI (rga1 n w p t) k + gG n w p t 0 - gG n w p t k
  | 0 => by show (0 : Int) = 0 + _ - _; omega
  | k + 1 => by
    show sumI (gR n w p t) k + gR n w p t k = sumI (rga1 n w p t) k + rga1 n w p t k + _ - _
    rw [gR_sum k]
    unfold gR rga1 gG
    omega
theorem gR_end {n : Nat} {w p : Nat → Nat} (hI : qInv n w p) {t : Nat} (hl : rL n w p t < n) : sumI (gR n w p t) (rlen n w p t) = rgn n w p t := by
  rw [gR_sum]
  have h := (rlen_ok hI hl).2.2.1
  have e : gG n w p t (rlen n w p t) = gG n w p t 0 := by
    unfold gG rri
    rw [h]
  unfold rgn
  omega
def at_R_gain_4  (d : Nat) (K : qm_K) (M : qm_M) (x1 x2 x3 : Int) : Prop := ∀ (d4 d5 d6 : Option qm_V), qm_TT qi_183 (qm_Runs qm_P (d + 2)) K 4 [some (.inr (some 71)), some (.inl x1), some (.inl x2), some (.inl x3), d4, d5, d6] [] (qL qLM) M 0 0
theorem rg_R_gain_4   {d : Nat} {K : qm_K} {M : qm_M} {x1 x2 x3 : Int} (h :
    0 ≤ x1 ∧ x1 < 28 ∧
    ∀ (y1 : Int), y1 = (M 90 (Int.toNat x1)) →
    (y1 ≤ x3 →
     K (.inl x2) (qL qLM) M) ∧
    (¬ y1 ≤ x3 →
     qm_R (8 * x1) ∧
     qm_R ((8 * x1) + x3) ∧
     0 ≤ ((8 * x1) + x3) ∧ ((8 * x1) + x3) < 224 ∧
     ∀ (y2 : Int), y2 = (M 89 (Int.toNat ((8 * x1) + x3))) →
     (0 : Int) < 10 ∧
     qm_R (8 * x1) ∧
     qm_R ((8 * x1) + x3) ∧
     0 ≤ ((8 * x1) + x3) ∧ ((8 * x1) + x3) < 224 ∧
     ∀ (y3 : Int), y3 = (M 89 (Int.toNat ((8 * x1) + x3))) →
     (0 : Int) < 10 ∧
     qm_R (8 * x1) ∧
     qm_R (x3 + 1) ∧
     0 ≤ x1 ∧ x1 < 28 ∧
     ∀ (y4 : Int), y4 = (M 90 (Int.toNat x1)) →
     (0 : Int) < y4 ∧
     qm_R ((8 * x1) + (Int.tmod (x3 + 1) y4)) ∧
     0 ≤ ((8 * x1) + (Int.tmod (x3 + 1) y4)) ∧ ((8 * x1) + (Int.tmod (x3 + 1) y4)) < 224 ∧
     ∀ (y5 : Int), y5 = (M 89 (Int.toNat ((8 * x1) + (Int.tmod (x3 + 1) y4)))) →
     (0 : Int) < 10 ∧
     (0 ≤ ((0 : Int) : Int) ∧ ((0 : Int) : Int) ≤ 1 ∧ 0 ≤ ((Int.tdiv y2 10) : Int) ∧ ((Int.tdiv y2 10) : Int) ≤ 7 ∧ 0 ≤ ((Int.tmod y3 10) : Int) ∧ ((Int.tmod y3 10) : Int) ≤ 7) ∧
     ∀ (y6 : Int), y6 = (M 73 (Int.toNat (64 * 0 + 8 * (Int.tdiv y2 10) + (Int.tmod y3 10)))) →
     (0 ≤ ((1 : Int) : Int) ∧ ((1 : Int) : Int) ≤ 1 ∧ 0 ≤ ((Int.tmod y3 10) : Int) ∧ ((Int.tmod y3 10) : Int) ≤ 7 ∧ 0 ≤ ((Int.tdiv y2 10) : Int) ∧ ((Int.tdiv y2 10) : Int) ≤ 7) ∧
     ∀ (y7 : Int), y7 = (M 73 (Int.toNat (64 * 1 + 8 * (Int.tmod y3 10) + (Int.tdiv y2 10)))) →
     qm_R (y6 + y7) ∧
     (0 ≤ ((0 : Int) : Int) ∧ ((0 : Int) : Int) ≤ 1 ∧ 0 ≤ ((Int.tdiv y2 10) : Int) ∧ ((Int.tdiv y2 10) : Int) ≤ 7 ∧ 0 ≤ ((Int.tmod y5 10) : Int) ∧ ((Int.tmod y5 10) : Int) ≤ 7) ∧
     ∀ (y8 : Int), y8 = (M 73 (Int.toNat (64 * 0 + 8 * (Int.tdiv y2 10) + (Int.tmod y5 10)))) →
     qm_R ((y6 + y7) - y8) ∧
     (0 ≤ ((1 : Int) : Int) ∧ ((1 : Int) : Int) ≤ 1 ∧ 0 ≤ ((Int.tmod y5 10) : Int) ∧ ((Int.tmod y5 10) : Int) ≤ 7 ∧ 0 ≤ ((Int.tdiv y2 10) : Int) ∧ ((Int.tdiv y2 10) : Int) ≤ 7) ∧
     ∀ (y9 : Int), y9 = (M 73 (Int.toNat (64 * 1 + 8 * (Int.tmod y5 10) + (Int.tdiv y2 10)))) →
     qm_R (((y6 + y7) - y8) - y9) ∧
     qm_R (x2 + (((y6 + y7) - y8) - y9)) ∧
     qm_R (x3 + 1) ∧
     at_R_gain_4  d K M x1 ((x2 + (((y6 + y7) - y8) - y9))) ((x3 + 1)))) : at_R_gain_4  d K M x1 x2 x3 :=
  fun d4 d5 d6 => qm_wp_TT [4] 78 (Exists.intro 90 (And.intro (lf_71_26 ()) (Exists.intro 28 (And.intro (la_90 ()) (And.intro h.1 (And.intro h.2.1 (And.intro (fun q10 => ((h.2.2 _ rfl).1 q10)) (fun q11 => Exists.intro 89 (And.intro (lf_71_25 ()) (And.intro ((h.2.2 _ rfl).2 q11).1 (And.intro ((h.2.2 _ rfl).2 q11).2.1 (Exists.intro 224 (And.intro (la_89 ()) (And.intro ((h.2.2 _ rfl).2 q11).2.2.1 (And.intro ((h.2.2 _ rfl).2 q11).2.2.2.1 (And.intro (((h.2.2 _ rfl).2 q11).2.2.2.2 _ rfl).1 (Exists.intro 89 (And.intro (lf_71_25 ()) (And.intro (((h.2.2 _ rfl).2 q11).2.2.2.2 _ rfl).2.1 (And.intro (((h.2.2 _ rfl).2 q11).2.2.2.2 _ rfl).2.2.1 (Exists.intro 224 (And.intro (la_89 ()) (And.intro (((h.2.2 _ rfl).2 q11).2.2.2.2 _ rfl).2.2.2.1 (And.intro (((h.2.2 _ rfl).2 q11).2.2.2.2 _ rfl).2.2.2.2.1 (And.intro ((((h.2.2 _ rfl).2 q11).2.2.2.2 _ rfl).2.2.2.2.2 _ rfl).1 (Exists.intro 89 (And.intro (lf_71_25 ()) (And.intro ((((h.2.2 _ rfl).2 q11).2.2.2.2 _ rfl).2.2.2.2.2 _ rfl).2.1 (And.intro ((((h.2.2 _ rfl).2 q11).2.2.2.2 _ rfl).2.2.2.2.2 _ rfl).2.2.1 (Exists.intro 90 (And.intro (lf_71_26 ()) (Exists.intro 28 (And.intro (la_90 ()) (And.intro ((((h.2.2 _ rfl).2 q11).2.2.2.2 _ rfl).2.2.2.2.2 _ rfl).2.2.2.1 (And.intro ((((h.2.2 _ rfl).2 q11).2.2.2.2 _ rfl).2.2.2.2.2 _ rfl).2.2.2.2.1 (And.intro (((((h.2.2 _ rfl).2 q11).2.2.2.2 _ rfl).2.2.2.2.2 _ rfl).2.2.2.2.2 _ rfl).1 (And.intro (((((h.2.2 _ rfl).2 q11).2.2.2.2 _ rfl).2.2.2.2.2 _ rfl).2.2.2.2.2 _ rfl).2.1 (Exists.intro 224 (And.intro (la_89 ()) (And.intro (((((h.2.2 _ rfl).2 q11).2.2.2.2 _ rfl).2.2.2.2.2 _ rfl).2.2.2.2.2 _ rfl).2.2.1 (And.intro (((((h.2.2 _ rfl).2 q11).2.2.2.2 _ rfl).2.2.2.2.2 _ rfl).2.2.2.2.2 _ rfl).2.2.2.1 (And.intro ((((((h.2.2 _ rfl).2 q11).2.2.2.2 _ rfl).2.2.2.2.2 _ rfl).2.2.2.2.2 _ rfl).2.2.2.2 _ rfl).1 (And.intro (lo_71 ()) (s_R_placeOf (d := d + 0)  (((((((h.2.2 _ rfl).2 q11).2.2.2.2 _ rfl).2.2.2.2.2 _ rfl).2.2.2.2.2 _ rfl).2.2.2.2 _ rfl).2.1) (And.intro (lo_71 ()) (s_R_placeOf (d := d + 0)  ((((((((h.2.2 _ rfl).2 q11).2.2.2.2 _ rfl).2.2.2.2.2 _ rfl).2.2.2.2.2 _ rfl).2.2.2.2 _ rfl).2.2 _ rfl).1) (And.intro ((((((((h.2.2 _ rfl).2 q11).2.2.2.2 _ rfl).2.2.2.2.2 _ rfl).2.2.2.2.2 _ rfl).2.2.2.2 _ rfl).2.2 _ rfl).2 _ rfl).1 (And.intro (lo_71 ()) (s_R_placeOf (d := d + 0)  (((((((((h.2.2 _ rfl).2 q11).2.2.2.2 _ rfl).2.2.2.2.2 _ rfl).2.2.2.2.2 _ rfl).2.2.2.2 _ rfl).2.2 _ rfl).2 _ rfl).2.1) (And.intro (((((((((h.2.2 _ rfl).2 q11).2.2.2.2 _ rfl).2.2.2.2.2 _ rfl).2.2.2.2.2 _ rfl).2.2.2.2 _ rfl).2.2 _ rfl).2 _ rfl).2.2 _ rfl).1 (And.intro (lo_71 ()) (s_R_placeOf (d := d + 0)  ((((((((((h.2.2 _ rfl).2 q11).2.2.2.2 _ rfl).2.2.2.2.2 _ rfl).2.2.2.2.2 _ rfl).2.2.2.2 _ rfl).2.2 _ rfl).2 _ rfl).2.2 _ rfl).2.1) (And.intro ((((((((((h.2.2 _ rfl).2 q11).2.2.2.2 _ rfl).2.2.2.2.2 _ rfl).2.2.2.2.2 _ rfl).2.2.2.2 _ rfl).2.2 _ rfl).2 _ rfl).2.2 _ rfl).2.2 _ rfl).1 (And.intro ((((((((((h.2.2 _ rfl).2 q11).2.2.2.2 _ rfl).2.2.2.2.2 _ rfl).2.2.2.2.2 _ rfl).2.2.2.2 _ rfl).2.2 _ rfl).2 _ rfl).2.2 _ rfl).2.2 _ rfl).2.1 (And.intro ((((((((((h.2.2 _ rfl).2 q11).2.2.2.2 _ rfl).2.2.2.2.2 _ rfl).2.2.2.2.2 _ rfl).2.2.2.2 _ rfl).2.2 _ rfl).2 _ rfl).2.2 _ rfl).2.2 _ rfl).2.2.1 (((((((((((h.2.2 _ rfl).2 q11).2.2.2.2 _ rfl).2.2.2.2.2 _ rfl).2.2.2.2.2 _ rfl).2.2.2.2 _ rfl).2.2 _ rfl).2 _ rfl).2.2 _ rfl).2.2 _ rfl).2.2.2 _ _ _))))))))))))))))))))))))))))))))))))))))))))))))))))))))
theorem en_R_gain   {d : Nat} {K : qm_K} {M : qm_M} {t : Int} (h :
    at_R_gain_4  d K M t 0 0) : qm_Runs qm_P (d + 3) 183 [(.inr (some 71)), (.inl t)] (qL qLM) M K :=
  And.intro (Nat.le_of_ble_eq_true rfl) (show qm_TT qi_183 (qm_Runs qm_P (d + 2)) K 0 [some (.inr (some 71)), some (.inl t), none, none, none, none, none] [] (qL qLM) M 0 0 from qm_wp_TT [4] 78 (h _ _ _))
theorem lp_R_gain {d : Nat} {K : qm_K} {M : qm_M} {n t : Nat} {w p : Nat → Nat} (hMR : qMR M n w p) (ht : t < rT n w p) (hT : qRt M n w p t) (hK : K (.inl (rgn n w p t)) (qL qLM) M) : ∀ (j k : Nat), k + j = rlen n w p t → at_R_gain_4 d K M (t : Int) (sumI (gR n w p t) k) (k : Int)
  | 0, k, hk => fun d4 d5 d6 => by
    have hI := hMR.2.2.2
    have h28 := (T_lt hI ht).1
    have hk : k = rlen n w p t := by omega
    subst hk
    refine rg_R_gain_4 (And.intro (by omega) (And.intro (by omega) ?_)) d4 d5 d6
    intro y1 e1
    rw [Int.toNat_natCast, hT.1] at e1
    refine And.intro (fun _ => ?_) (fun q => absurd q (by omega))
    rw [gR_end hI (T_lt hI ht).2]
    exact hK
  | j + 1, k, hk => fun d4 d5 d6 => by
    have hI := hMR.2.2.2
    have h8 := hI.2.1
    have h28 := (T_lt hI ht).1
    have hl := (T_lt hI ht).2
    have hlen := rlen_ok hI hl
    have hx := rle_lt hI hl k
    have hx1 := rle_lt hI hl (k + 1)
    have hm : (k + 1) % rlen n w p t < rlen n w p t := Nat.mod_lt _ (by omega)
    have ih := lp_R_gain (d := d) hMR ht hT hK j (k + 1) (by omega)
    have q1 := (hI.2.2 0 _ (by omega) hx.1 _ hx.2).2.2.1
    have q2 := (hI.2.2 0 _ (by omega) hx.1 _ hx1.2).2.2.1
    have q3 := (hI.2.2 1 _ (by omega) hx.2 _ hx.1).2.2.1
    have q4 := (hI.2.2 1 _ (by omega) hx1.2 _ hx.1).2.2.1
    have hs := sumI_abs (f := gR n w p t) (b := 28) (n := k) (fun j _ => by
      have a := rle_lt hI hl j
      have b := rle_lt hI hl (j + 1)
      have r1 := (hI.2.2 0 _ (by omega) a.1 _ a.2).2.2.1
      have r2 := (hI.2.2 0 _ (by omega) a.1 _ b.2).2.2.1
      have r3 := (hI.2.2 1 _ (by omega) a.2 _ a.1).2.2.1
      have r4 := (hI.2.2 1 _ (by omega) b.2 _ a.1).2.2.1
      unfold gR gG
      omega)
    have ei : Int.toNat (8 * (t : Int) + (k : Int)) = 8 * t + k := by omega
    have td : Int.tdiv (rPk n w p t k : Int) 10 = (rle n w p t k : Int) := td10 (by omega)
    have tmk : Int.tmod (rPk n w p t k : Int) 10 = (rri n w p t k : Int) := tm10 (by omega)
    have er : rri n w p t ((k + 1) % rlen n w p t) = rri n w p t (k + 1) := by
      unfold rri
      rw [rle_m hI hl (by omega)]
    have tmn : Int.tmod (rPk n w p t ((k + 1) % rlen n w p t) : Int) 10 = (rri n w p t (k + 1) : Int) := by
      have := tm10 (a := rle n w p t ((k + 1) % rlen n w p t)) (b := rri n w p t ((k + 1) % rlen n w p t)) (by rw [er]; omega)
      unfold rPk
      rw [this, er]
    refine rg_R_gain_4 (And.intro (by omega) (And.intro (by omega) ?_)) d4 d5 d6
    intro y1 e1
    rw [Int.toNat_natCast, hT.1] at e1
    refine And.intro (fun q => absurd q (by omega)) (fun _ => And.intro (by unfold qm_R; omega) (And.intro (by unfold qm_R; omega) (And.intro (by omega) (And.intro (by omega) ?_))))
    intro y2 e2
    rw [ei, hT.2 k (by omega)] at e2
    refine And.intro (by decide) (And.intro (by unfold qm_R; omega) (And.intro (by unfold qm_R; omega) (And.intro (by omega) (And.intro (by omega) ?_))))
    intro y3 e3
    rw [ei, hT.2 k (by omega)] at e3
    refine And.intro (by decide) (And.intro (by unfold qm_R; omega) (And.intro (by unfold qm_R; omega) (And.intro (by omega) (And.intro (by omega) ?_))))
    intro y4 e4
    rw [Int.toNat_natCast, hT.1] at e4
    have em : Int.tmod ((k : Int) + 1) y4 = (((k + 1) % rlen n w p t : Nat) : Int) := by
      rw [e4]
      exact tmN (a := k + 1)
    rw [em]
    refine And.intro (by omega) (And.intro (by unfold qm_R; omega) (And.intro (by omega) (And.intro (by omega) ?_)))
    intro y5 e5
    rw [show Int.toNat (8 * (t : Int) + (((k + 1) % rlen n w p t : Nat) : Int)) = 8 * t + (k + 1) % rlen n w p t by omega, hT.2 _ hm] at e5
    rw [e2, e3, e5, td, tmk, tmn]
    refine And.intro (by decide) (And.intro (by omega) ?_)
    intro y6 e6
    rw [show (64 * 0 + 8 * (rle n w p t k : Int) + (rri n w p t k : Int)) = 64 * ((0 : Nat) : Int) + 8 * (rle n w p t k : Int) + (rri n w p t k : Int) by omega, rPl hMR (by omega) hx.1 hx.2] at e6
    refine And.intro (by omega) ?_
    intro y7 e7
    rw [show (64 * 1 + 8 * (rri n w p t k : Int) + (rle n w p t k : Int)) = 64 * ((1 : Nat) : Int) + 8 * (rri n w p t k : Int) + (rle n w p t k : Int) by omega, rPl hMR (by omega) hx.2 hx.1] at e7
    refine And.intro (by unfold qm_R; omega) (And.intro (by omega) ?_)
    intro y8 e8
    rw [show (64 * 0 + 8 * (rle n w p t k : Int) + (rri n w p t (k + 1) : Int)) = 64 * ((0 : Nat) : Int) + 8 * (rle n w p t k : Int) + (rri n w p t (k + 1) : Int) by omega, rPl hMR (by omega) hx.1 hx1.2] at e8
    refine And.intro (by unfold qm_R; omega) (And.intro (by omega) ?_)
    intro y9 e9
    rw [show (64 * 1 + 8 * (rri n w p t (k + 1) : Int) + (rle n w p t k : Int)) = 64 * ((1 : Nat) : Int) + 8 * (rri n w p t (k + 1) : Int) + (rle n w p t k : Int) by omega, rPl hMR (by omega) hx1.2 hx.1] at e9
    have ev : (y6 + y7 - y8) - y9 = gR n w p t k := by
      unfold gR gG
      rw [e6, e7, e8, e9]
    have es : sumI (gR n w p t) (k + 1) = sumI (gR n w p t) k + gR n w p t k := rfl
    rw [ev]
    have hg : -(28 : Int) ≤ gR n w p t k ∧ gR n w p t k ≤ 28 := by unfold gR gG; omega
    refine And.intro (by unfold qm_R; omega) (And.intro (by unfold qm_R; omega) (And.intro (by unfold qm_R; omega) ?_))
    rw [← es]
    exact ih
theorem s_R_gain  {n i : Nat} {w p : Nat → Nat} {d : Nat} {K : qm_K} {M : qm_M} {t : Int} (hp0 : qMR M n w p) (hp1 : i < rT n w p ∧ t = (i : Int) ∧ qRt M n w p i) (hK : K (.inl ((rgn n w p i))) (qL qLM) M) : qm_Runs qm_P (d + 3) 183 [(.inr (some 71)), (.inl t)] (qL qLM) M K := by
  refine en_R_gain   ?_
  obtain ⟨hi, rfl, hT⟩ := hp1
  exact lp_R_gain hp0 hi hT hK (rlen n w p i) 0 (by omega)
