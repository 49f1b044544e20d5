/-! two places of a list exchanged -/
def xW (w : Nat → Nat) (s a k j : Nat) : Nat → Nat := updF (updF w (ix s a k) (w (ix s a j))) (ix s a j) (w (ix s a k))
def xP (w p : Nat → Nat) (s a k j : Nat) : Nat → Nat := updF (updF p (ix s a (w (ix s a j))) k) (ix s a (w (ix s a k))) j
theorem ix_i8 {s a k s2 a2 k2 : Nat} (h1 : a < 8) (h2 : k < 8) (h3 : a2 < 8) (h4 : k2 < 8) (h : ix s a k = ix s2 a2 k2) : s = s2 ∧ a = a2 ∧ k = k2 := by unfold ix at h; omega
theorem uF_s {f : Nat → Nat} {i x : Nat} : updF f i x i = x := if_pos rfl
theorem uF_k {f : Nat → Nat} {i x j : Nat} (h : j ≠ i) : updF f i x j = f j := if_neg h
theorem xW_i {w : Nat → Nat} {s a k j : Nat} : xW w s a k j (ix s a j) = w (ix s a k) := uF_s
theorem xW_k {w : Nat → Nat} {s a k j : Nat} : xW w s a k j (ix s a k) = w (ix s a j) := by
  unfold xW
  by_cases h : ix s a k = ix s a j
  · rw [h, uF_s]
  · rw [uF_k h, uF_s]
theorem xW_o {w : Nat → Nat} {s a k j x : Nat} (h1 : x ≠ ix s a k) (h2 : x ≠ ix s a j) : xW w s a k j x = w x := by unfold xW; rw [uF_k h2, uF_k h1]
theorem xW_x {w : Nat → Nat} {s a k j : Nat} : xW (xW w s a k j) s a k j = w := by
  funext x
  by_cases h1 : x = ix s a k
  · rw [h1, xW_k, xW_i]
  · by_cases h2 : x = ix s a j
    · rw [h2, xW_i, xW_k]
    · rw [xW_o h1 h2, xW_o h1 h2]
theorem qInv_x {n : Nat} {w p : Nat → Nat} {s a k j : Nat} (h : qInv n w p) (hs : s < 2) (ha : a < n) (hk : k < n) (hj : j < n) : qInv n (xW w s a k j) (xP w p s a k j) := by
  have h8 := h.2.1
  refine ⟨h.1, h.2.1, fun s1 a1 hs1 ha1 k1 hk1 => ?_⟩
  have g := h.2.2 s1 a1 hs1 ha1
  have gk := g k1 hk1
  by_cases hsa : s1 = s ∧ a1 = a
  · obtain ⟨rfl, rfl⟩ := hsa
    have ik := g k hk
    have ij := g j hj
    have inj : ∀ x y, x < 8 → y < 8 → ix s1 a1 x = ix s1 a1 y → x = y := fun x y q1 q2 q => (ix_i8 (by omega) q1 (by omega) q2 q).2.2
    -- the places of what stands there
    have pi : xP w p s1 a1 k j (ix s1 a1 (w (ix s1 a1 k))) = j := uF_s
    have pk : xP w p s1 a1 k j (ix s1 a1 (w (ix s1 a1 j))) = k := by
      unfold xP
      by_cases q : ix s1 a1 (w (ix s1 a1 j)) = ix s1 a1 (w (ix s1 a1 k))
      · rw [q, uF_s]
        have := inj _ _ (by omega) (by omega) q
        rw [← ik.2.1, ← ij.2.1, this]
      · rw [uF_k q, uF_s]
    have po : ∀ x, x < n → x ≠ k → x ≠ j → xP w p s1 a1 k j (ix s1 a1 (w (ix s1 a1 x))) = x := fun x hx q1 q2 => by
      have ixx := g x hx
      have n1 : ix s1 a1 (w (ix s1 a1 x)) ≠ ix s1 a1 (w (ix s1 a1 k)) := fun q => q1 (by
        have := inj _ _ (by omega) (by omega) q
        rw [← ixx.2.1, ← ik.2.1, this])
      have n2 : ix s1 a1 (w (ix s1 a1 x)) ≠ ix s1 a1 (w (ix s1 a1 j)) := fun q => q2 (by
        have := inj _ _ (by omega) (by omega) q
        rw [← ixx.2.1, ← ij.2.1, this])
      unfold xP
      rw [uF_k n1, uF_k n2]
      exact ixx.2.1
    -- every one stands somewhere
    have all : ∀ x, x < n → xW w s1 a1 k j (ix s1 a1 x) < n ∧ xP w p s1 a1 k j (ix s1 a1 (xW w s1 a1 k j (ix s1 a1 x))) = x := fun x hx => by
      by_cases q1 : x = k
      · rw [q1, xW_k]; exact ⟨ij.1, pk⟩
      · by_cases q2 : x = j
        · rw [q2, xW_i]; exact ⟨ik.1, pi⟩
        · rw [xW_o (fun q => q1 (inj _ _ (by omega) (by omega) q)) (fun q => q2 (inj _ _ (by omega) (by omega) q))]
          exact ⟨(g x hx).1, po x hx q1 q2⟩
    have back : xP w p s1 a1 k j (ix s1 a1 k1) < n ∧ xW w s1 a1 k j (ix s1 a1 (xP w p s1 a1 k j (ix s1 a1 k1))) = k1 := by
      have e : k1 = w (ix s1 a1 (p (ix s1 a1 k1))) := gk.2.2.2.symm
      have hx := gk.2.2.1
      generalize p (ix s1 a1 k1) = x at e hx
      subst e
      by_cases q1 : x = k
      · rw [q1, pi, xW_i]; exact ⟨hj, rfl⟩
      · by_cases q2 : x = j
        · rw [q2, pk, xW_k]; exact ⟨hk, rfl⟩
        · rw [po x hx q1 q2, xW_o (fun q => q1 (inj _ _ (by omega) (by omega) q)) (fun q => q2 (inj _ _ (by omega) (by omega) q))]
          exact ⟨hx, rfl⟩
    exact ⟨(all k1 hk1).1, (all k1 hk1).2, back.1, back.2⟩
  · have n1 : ∀ x y, x < 8 → y < 8 → ix s1 a1 x ≠ ix s a y := fun x y q1 q2 q => hsa (by have := ix_i8 (by omega) q1 (by omega) q2 q; exact ⟨this.1, this.2.1⟩)
    have wk := (h.2.2 s a hs ha k hk).1
    have wj := (h.2.2 s a hs ha j hj).1
    have ew : ∀ x, x < 8 → xW w s a k j (ix s1 a1 x) = w (ix s1 a1 x) := fun x q => xW_o (n1 _ _ q (by omega)) (n1 _ _ q (by omega))
    have ep : ∀ x, x < 8 → xP w p s a k j (ix s1 a1 x) = p (ix s1 a1 x) := fun x q => by unfold xP; rw [uF_k (n1 _ _ q (by omega)), uF_k (n1 _ _ q (by omega))]
    rw [ew k1 (by omega), ep _ (by omega), ep k1 (by omega), ew _ (by omega)]
    exact gk
theorem sw2_at {M : qm_M} {c n : Nat} {w : Nat → Nat} {s a k j : Nat} (h8 : n ≤ 8) (h : qAt M c n w) (hs : s < 2) (ha : a < n) (hk : k < n) (hj : j < n) : qAt (sw2 M c (ix s a k) (ix s a j)) c n (xW w s a k j) := fun s1 a1 k1 hs1 ha1 hk1 => by
  unfold sw2
  by_cases q2 : ix s1 a1 k1 = ix s a j
  · rw [q2, qu_s, xW_i]; exact h s a k hs ha hk
  · rw [qu_k q2]
    by_cases q1 : ix s1 a1 k1 = ix s a k
    · rw [q1, qu_s, xW_k]; exact h s a j hs ha hj
    · rw [qu_k q1, xW_o q1 q2]; exact h s1 a1 k1 hs1 ha1 hk1
theorem sw2_B {M : qm_M} {c i j : Nat} (h : mB M c 128) (hi : i < 128) (hj : j < 128) : mB (sw2 M c i j) c 128 := fun x hx => by
  unfold sw2
  by_cases q2 : x = j
  · rw [q2, qu_s]; exact h i hi
  · rw [qu_k q2]
    by_cases q1 : x = i
    · rw [q1, qu_s]; exact h j hj
    · rw [qu_k q1]; exact h x hx
theorem sw2_c {M : qm_M} {c d i j : Nat} (h : d ≠ c) : sw2 M c i j d = M d := by unfold sw2; rw [qu_cf h, qu_cf h]
theorem sw2_sw2 {M : qm_M} {c i j : Nat} : sw2 (sw2 M c i j) c i j c = M c := by
  funext x
  have g1 : sw2 M c i j c j = M c i := by unfold sw2; rw [qu_s]
  have g2 : sw2 M c i j c i = M c j := by
    unfold sw2
    by_cases q : i = j
    · rw [q, qu_s]
    · rw [qu_k q, qu_s]
  have e : sw2 (sw2 M c i j) c i j = qm_u (qm_u (sw2 M c i j) c i (M c i)) c j (M c j) := by
    show qm_u (qm_u (sw2 M c i j) c i (sw2 M c i j c j)) c j (sw2 M c i j c i) = _
    rw [g1, g2]
  rw [e]
  by_cases q2 : x = j
  · rw [q2, qu_s]
  · rw [qu_k q2]
    by_cases q1 : x = i
    · rw [q1, qu_s]
    · rw [qu_k q1]; unfold sw2; rw [qu_k q2, qu_k q1]
theorem toN_ix {s a k : Int} (hs : 0 ≤ s) (ha : 0 ≤ a) (hk : 0 ≤ k) : Int.toNat (64 * s + 8 * a + k) = ix s.toNat a.toNat k.toNat := by unfold ix; omega
theorem toN_ix1 {s a k : Int} (hs : 0 ≤ s) (ha : 0 ≤ a) (hk : 0 ≤ k) : Int.toNat (64 * s + 8 * a + k + 1) = ix s.toNat a.toNat (k.toNat + 1) := by unfold ix; omega
def stOk (n : Nat) (s a k : Int) : Prop := 0 ≤ s ∧ s ≤ 1 ∧ 0 ≤ a ∧ a < (n : Int) ∧ 0 ≤ k ∧ k + 1 < (n : Int)
theorem chF_I {M2 M0 : qm_M} {n b f ln kn : Nat} {H : Nat → Nat → Nat} {p u v tp kw kp ku kv : Nat → Nat} {w p2 : Nat → Nat} (h : rI M0 n H b f p u v ln tp kn kw kp ku kv) (hq : qMR M2 n w p2 ∧ mB M2 72 128 ∧ rHs M2 n (nH H b w) (nB b) 0 ∧ M2 71 35 = 0) (hc : ∀ c, c ≠ 71 → c ≠ 72 → c ≠ 73 → c ≠ 75 → c ≠ 76 → M2 c = M0 c) (hf : ∀ y, y = 1 ∨ y = 14 → M2 71 y = M0 71 y) : rI M2 n (nH H b w) (nB b) 0 p2 u v ln tp kn kw kp ku kv :=
  ⟨⟨by rw [nH_top]; exact hq.1, hq.2.1⟩, ⟨qHa_mem h.2.1.1 (hc _ (by decide) (by decide) (by decide) (by decide) (by decide)), h.2.1.2⟩, hq.2.2.1, rTp_mem h.2.2.2.1 (hc _ (by decide) (by decide) (by decide) (by decide) (by decide)) (hf _ (by decide)), rIm_mem h.2.2.2.2.1 (hc _ (by decide) (by decide) (by decide) (by decide) (by decide)) (hc _ (by decide) (by decide) (by decide) (by decide) (by decide)) (hf _ (by decide)), fun z => absurd hq.2.2.2 z⟩
theorem en_R_mayStir   {d : Nat} {K : qm_K} {M : qm_M} {s : Int} {a : Int} {k : Int} (h :
    ((0 ≤ s ∧ s ≤ 1) →
     (1 ≤ M 71 0 ∧ M 71 0 ≤ 8) ∧
     ((0 ≤ a ∧ a < M 71 0) →
      qm_R ((M 71 0) - 2) ∧
      ((0 ≤ k ∧ k ≤ ((M 71 0) - 2)) →
       K (.inl 1) (qL qLM) M) ∧
      (¬ (0 ≤ k ∧ k ≤ ((M 71 0) - 2)) →
       K (.inl 0) (qL qLM) M)) ∧
     (¬ (0 ≤ a ∧ a < M 71 0) →
      K (.inl 0) (qL qLM) M)) ∧
    (¬ (0 ≤ s ∧ s ≤ 1) →
     K (.inl 0) (qL qLM) M)) : qm_Runs qm_P (d + 3) 160 [(.inr (some 71)), (.inl s), (.inl a), (.inl k)] (qL qLM) M K :=
  And.intro (Nat.le_of_ble_eq_true rfl) (show qm_TT qi_160 (qm_Runs qm_P (d + 2)) K 0 [some (.inr (some 71)), some (.inl s), some (.inl a), some (.inl k)] [] (qL qLM) M 0 0 from qm_wp_TT [] 23 (And.intro True.intro (s_R_isIn (d := d + 1)   (And.intro (fun q1 => And.intro (Or.inl rfl) (h.2 (qm_b0 q1))) (fun q2 => And.intro (lo_71 ()) (s_R_isOne (d := d + 0)  ((h.1 (qm_b1 q2)).1) (And.intro (fun q3 => And.intro (Or.inl rfl) ((h.1 (qm_b1 q2)).2.2 (qm_b0 q3))) (fun q4 => And.intro (lf_71_0 ()) (And.intro ((h.1 (qm_b1 q2)).2.1 (qm_b1 q4)).1 (And.intro True.intro (s_R_isIn (d := d + 1)   (And.intro (fun q5 => And.intro (Or.inl rfl) (((h.1 (qm_b1 q2)).2.1 (qm_b1 q4)).2.2 (qm_b0 q5))) (fun q6 => And.intro (Or.inr rfl) (((h.1 (qm_b1 q2)).2.1 (qm_b1 q4)).2.1 (qm_b1 q6)))))))))))))))
theorem s_R_mayStir   {d : Nat} {K : qm_K} {M : qm_M} {s : Int} {a : Int} {k : Int} (hp0 : 1 ≤ M 71 0 ∧ M 71 0 ≤ 8) (hK : K (.inl (qm_b (0 ≤ s ∧ s ≤ 1 ∧ 0 ≤ a ∧ a < M 71 0 ∧ 0 ≤ k ∧ k + 1 < M 71 0))) (qL qLM) M) : qm_Runs qm_P (d + 3) 160 [(.inr (some 71)), (.inl s), (.inl a), (.inl k)] (qL qLM) M K := by
  refine en_R_mayStir   ?_
  refine And.intro (fun h => And.intro hp0 (And.intro (fun h2 => And.intro (by unfold qm_R; omega) (And.intro (fun h3 => ?_) (fun h3 => ?_))) (fun h2 => ?_))) (fun h => ?_)
  · exact qk_eq hK (qm_bt (by omega))
  · exact qk_eq hK (qm_bff (by omega))
  · exact qk_eq hK (qm_bff (by omega))
  · exact qk_eq hK (qm_bff (by omega))
theorem en_R_stir  {n b f : Nat} {H : Nat → Nat → Nat} {w p : Nat → Nat} {d : Nat} {K : qm_K} {M : qm_M} {s : Int} {a : Int} {k : Int} (h :
    (1 ≤ M 71 0 ∧ M 71 0 ≤ 8) ∧
    ((0 ≤ s ∧ s ≤ 1 ∧ 0 ≤ a ∧ a < M 71 0 ∧ 0 ≤ k ∧ k + 1 < M 71 0) →
     (0 ≤ ((0 : Int) : Int) ∧ 0 ≤ ((0 : Int) : Int) ∧ 0 ≤ ((128 : Int) : Int) ∧ ((0 : Int) : Int) + (128 : Int) ≤ (128 : Int) ∧ ((0 : Int) : Int) + (128 : Int) ≤ (128 : Int)) ∧
     ((72 : Nat) ≠ 75 ∨ ((0 : Int) : Int) ≤ (0 : Int)) ∧
     ∀ (M1 : qm_M), M1 = (cpM M 72 0 75 0 128) →
     (0 ≤ (s : Int) ∧ (s : Int) ≤ 1 ∧ 0 ≤ (a : Int) ∧ (a : Int) ≤ 7 ∧ 0 ≤ (k : Int) ∧ (k : Int) ≤ 6 ∧ (128 : Nat) = 128) ∧
     ∀ (M2 : qm_M), M2 = (sw2 M1 75 (Int.toNat (64 * s + 8 * a + k)) (Int.toNat (64 * s + 8 * a + k + 1))) →
     (M2 71 0 = (n : Int) ∧ qAt M2 72 n (H b) ∧ mB M2 72 128) ∧
     (rHs M2 n H b f) ∧
     (qAt M2 75 n w ∧ qInv n w p ∧ mB M2 75 128) ∧
     (∀ (M4 : qm_M), (qMR M4 n w p ∧ mB M4 72 128 ∧ rHs M4 n (nH H b w) (nB b) 0 ∧ M4 71 35 = 0 ∧ chF M4 M2) →
      (0 ≤ (s : Int) ∧ (s : Int) ≤ 1 ∧ 0 ≤ (a : Int) ∧ (a : Int) ≤ 8 ∧ 0 ≤ (k : Int) ∧ (k : Int) ≤ 8) ∧
      ∀ (y5 : Int), y5 = (64 * s + 8 * a + k) →
      0 ≤ y5 ∧ y5 < 128 ∧
      ∀ (y6 : Int), y6 = (M4 72 (Int.toNat y5)) →
      K (.inl y6) (qL qLM) M4)) ∧
    (¬ (0 ≤ s ∧ s ≤ 1 ∧ 0 ≤ a ∧ a < M 71 0 ∧ 0 ≤ k ∧ k + 1 < M 71 0) →
     K (.inl ((-1))) (qL qLM) M)) : qm_Runs qm_P (d + 4) 162 [(.inr (some 71)), (.inl s), (.inl a), (.inl k)] (qL qLM) M K :=
  And.intro (Nat.le_of_ble_eq_true rfl) (show qm_TT qi_162 (qm_Runs qm_P (d + 3)) K 0 [some (.inr (some 71)), some (.inl s), some (.inl a), some (.inl k)] [] (qL qLM) M 0 0 from qm_wp_TT [] 34 (And.intro (lo_71 ()) (s_R_mayStir (d := d + 0)  (h.1) (And.intro (fun q7 => Exists.intro 72 (And.intro (lf_71_2 ()) (Exists.intro 75 (And.intro (lf_71_5 ()) (And.intro True.intro (s_R_copies (d := d + 2) (And.intro (la_72 ()) (by decide)) (And.intro (la_75 ()) (by decide)) ((h.2.1 (qm_b1 q7)).1) ((h.2.1 (qm_b1 q7)).2.1) (Exists.intro 75 (And.intro (lf_71_5 ()) (And.intro (lo_71 ()) (s_R_stirs (d := d + 1) (And.intro (la_75 ()) (by decide)) (((h.2.1 (qm_b1 q7)).2.2 _ rfl).1) (And.intro (lo_71 ()) (s_R_changes (d := d + 1)  ((((h.2.1 (qm_b1 q7)).2.2 _ rfl).2 _ rfl).1) ((((h.2.1 (qm_b1 q7)).2.2 _ rfl).2 _ rfl).2.1) ((((h.2.1 (qm_b1 q7)).2.2 _ rfl).2 _ rfl).2.2.1) (fun M4 p9 => Exists.intro 72 (And.intro (lf_71_2 ()) (And.intro True.intro (s_R_at (d := d + 2)  (((((h.2.1 (qm_b1 q7)).2.2 _ rfl).2 _ rfl).2.2.2 M4 p9).1) (Exists.intro 128 (And.intro (la_72 ()) (And.intro (((((h.2.1 (qm_b1 q7)).2.2 _ rfl).2 _ rfl).2.2.2 M4 p9).2 _ rfl).1 (And.intro (((((h.2.1 (qm_b1 q7)).2.2 _ rfl).2 _ rfl).2.2.2 M4 p9).2 _ rfl).2.1 (((((((h.2.1 (qm_b1 q7)).2.2 _ rfl).2 _ rfl).2.2.2 M4 p9).2 _ rfl).2.2 _ rfl)))))))))))))))))))))) (fun q8 => (h.2.2 (qm_b2 q8)))))))
theorem s_R_stir  {n b f ln kn : Nat} {H : Nat → Nat → Nat} {p u v tp kw kp ku kv : Nat → Nat} {d : Nat} {K : qm_K} {M : qm_M} {s : Int} {a : Int} {k : Int} (hp0 : rI M n H b f p u v ln tp kn kw kp ku kv) (hK : ∀ (r : Int) (M2 : qm_M), ((¬ stOk n s a k → r = -1 ∧ rI M2 n H b f p u v ln tp kn kw kp ku kv) ∧ (stOk n s a k → r = (H b (ix (Int.toNat s) (Int.toNat a) (Int.toNat k + 1)) : Int) ∧ rI M2 n (nH H b (xW (H b) (Int.toNat s) (Int.toNat a) (Int.toNat k) (Int.toNat k + 1))) (nB b) 0 (xP (H b) p (Int.toNat s) (Int.toNat a) (Int.toNat k) (Int.toNat k + 1)) u v ln tp kn kw kp ku kv) ∧ (∀ c, c < 71 → M2 c = M c)) → K (.inl r) (qL qLM) M2) : qm_Runs qm_P (d + 4) 162 [(.inr (some 71)), (.inl s), (.inl a), (.inl k)] (qL qLM) M K := by
  obtain ⟨⟨⟨m1, m2, m3, hI⟩, mb⟩, hha, hhs, htp, him, hkn⟩ := id hp0
  have h1 := hI.1
  have h8 := hI.2.1
  refine en_R_stir (n := n) (b := b) (f := f) (H := H) (w := xW (H b) s.toNat a.toNat k.toNat (k.toNat + 1)) (p := xP (H b) p s.toNat a.toNat k.toNat (k.toNat + 1)) ?_
  rw [m1]
  refine And.intro (by omega) (And.intro (fun h => ?_) (fun h => hK _ M ⟨fun _ => ⟨rfl, hp0⟩, fun q => absurd q h, fun _ _ => rfl⟩))
  have hg := h
  refine And.intro (by decide) (And.intro (Or.inl (by decide)) ?_)
  intro M3 e3
  refine And.intro (by omega) ?_
  intro M4 e4
  rw [toN_ix (by omega) (by omega) (by omega), toN_ix1 (by omega) (by omega) (by omega)] at e4
  have hI2 := qInv_x (s := s.toNat) (a := a.toNat) (k := k.toNat) (j := k.toNat + 1) hI (by omega) (by omega) (by omega) (by omega)
  have c3 : ∀ c, c ≠ 75 → M4 c = M c := fun c hc => by rw [e4, sw2_c hc, e3, cpM_c hc]
  have a3 : qAt M3 75 n (H b) := fun s1 a1 k1 q1 q2 q3 => by rw [e3, cpM_L (ix_lt q1 (by omega) (by omega))]; exact m2 s1 a1 k1 q1 q2 q3
  have b3 : mB M3 75 128 := fun x hx => by rw [e3, cpM_L hx]; exact mb x hx
  have f4 : ∀ y, M4 71 y = M 71 y := fun y => by rw [c3 71 (by decide)]
  refine And.intro ⟨by rw [f4]; exact m1, qAt_mem m2 (c3 72 (by decide)), mB_mem mb (c3 72 (by decide))⟩ (And.intro (rHs_mem hhs (c3 _ (by decide)) (c3 _ (by decide)) (f4 _) (f4 _)) (And.intro ⟨by rw [e4]; exact sw2_at h8 a3 (by omega) (by omega) (by omega) (by omega), hI2, by rw [e4]; exact sw2_B b3 (ix_lt (by omega) (by omega) (by omega)) (ix_lt (by omega) (by omega) (by omega))⟩ ?_))
  intro M6 q
  obtain ⟨q1, q2, q3, q4, q5⟩ := q
  refine And.intro (by omega) ?_
  intro y7 e7
  refine And.intro (by omega) (And.intro (by omega) ?_)
  intro y8 e8
  rw [e7, toN_ix (by omega) (by omega) (by omega), q1.2.1 _ _ _ (by omega) (by omega) (by omega), xW_k] at e8
  have c6 : ∀ c, c ≠ 71 → c ≠ 72 → c ≠ 73 → c ≠ 75 → c ≠ 76 → M6 c = M c := fun c g1 g2 g3 g4 g5 => funext fun y => by rw [q5 c y g2 g3 g5 (Or.inl g1), c3 c g4]
  refine hK _ M6 ⟨fun z => absurd hg z, fun _ => ⟨e8, chF_I hp0 ⟨q1, q2, q3, q4⟩ c6 (fun y hy => by rw [q5 71 y (by decide) (by decide) (by decide) (Or.inr (by omega)), f4])⟩, fun c hc => c6 c (by omega) (by omega) (by omega) (by omega) (by omega)⟩
theorem en_R_stirred  {n : Nat} {w p w2 p2 : Nat → Nat} {d : Nat} {K : qm_K} {M : qm_M} {s : Int} {a : Int} {k : Int} (h :
    (1 ≤ M 71 0 ∧ M 71 0 ≤ 8) ∧
    ((0 ≤ s ∧ s ≤ 1 ∧ 0 ≤ a ∧ a < M 71 0 ∧ 0 ≤ k ∧ k + 1 < M 71 0) →
     (0 ≤ (s : Int) ∧ (s : Int) ≤ 1 ∧ 0 ≤ (a : Int) ∧ (a : Int) ≤ 7 ∧ 0 ≤ (k : Int) ∧ (k : Int) ≤ 6 ∧ (128 : Nat) = 128) ∧
     ∀ (M1 : qm_M), M1 = (sw2 M 72 (Int.toNat (64 * s + 8 * a + k)) (Int.toNat (64 * s + 8 * a + k + 1))) →
     (M1 71 0 = (n : Int) ∧ qAt M1 72 n w ∧ qInv n w p) ∧
     (mB M1 72 128) ∧
     (∀ (M3 : qm_M), (qMR M3 n w p ∧ M3 71 35 = 0 ∧ ∀ c x, c ≠ 73 → c ≠ 71 ∨ x ≠ 35 → M3 c x = M1 c x) →
      (qMR M3 n w p) ∧
      (M3 71 35 ≠ 0 → rKn M3 n w p) ∧
      (∀ (M5 : qm_M), (rKn M5 n w p ∧ M5 71 35 ≠ 0 ∧ kF M5 M3) →
       (0 ≤ (s : Int) ∧ (s : Int) ≤ 1 ∧ 0 ≤ (a : Int) ∧ (a : Int) ≤ 7 ∧ 0 ≤ (k : Int) ∧ (k : Int) ≤ 6 ∧ (128 : Nat) = 128) ∧
       ∀ (M6 : qm_M), M6 = (sw2 M5 72 (Int.toNat (64 * s + 8 * a + k)) (Int.toNat (64 * s + 8 * a + k + 1))) →
       (M6 71 0 = (n : Int) ∧ qAt M6 72 n w2 ∧ qInv n w2 p2) ∧
       (mB M6 72 128) ∧
       (∀ (M8 : qm_M), (qMR M8 n w2 p2 ∧ M8 71 35 = 0 ∧ ∀ c x, c ≠ 73 → c ≠ 71 ∨ x ≠ 35 → M8 c x = M6 c x) →
        K (.inl ((M5 71 34))) (qL qLM) M8)))) ∧
    (¬ (0 ≤ s ∧ s ≤ 1 ∧ 0 ≤ a ∧ a < M 71 0 ∧ 0 ≤ k ∧ k + 1 < M 71 0) →
     K (.inl ((-1))) (qL qLM) M)) : qm_Runs qm_P (d + 8) 163 [(.inr (some 71)), (.inl s), (.inl a), (.inl k)] (qL qLM) M K :=
  And.intro (Nat.le_of_ble_eq_true rfl) (show qm_TT qi_163 (qm_Runs qm_P (d + 7)) K 0 [some (.inr (some 71)), some (.inl s), some (.inl a), some (.inl k), none] [] (qL qLM) M 0 0 from qm_wp_TT [] 34 (And.intro (lo_71 ()) (s_R_mayStir (d := d + 4)  (h.1) (And.intro (fun q9 => Exists.intro 72 (And.intro (lf_71_2 ()) (And.intro (lo_71 ()) (s_R_stirs (d := d + 5) (And.intro (la_72 ()) (by decide)) ((h.2.1 (qm_b1 q9)).1) (And.intro (lo_71 ()) (s_R_places (d := d + 6)  (((h.2.1 (qm_b1 q9)).2 _ rfl).1) (((h.2.1 (qm_b1 q9)).2 _ rfl).2.1) (fun M3 p11 => And.intro (lo_71 ()) (s_R_knows (d := d + 0)  ((((h.2.1 (qm_b1 q9)).2 _ rfl).2.2 M3 p11).1) ((((h.2.1 (qm_b1 q9)).2 _ rfl).2.2 M3 p11).2.1) (fun M5 p12 => And.intro (lf_71_34 ()) (Exists.intro 72 (And.intro (lf_71_2 ()) (And.intro (lo_71 ()) (s_R_stirs (d := d + 5) (And.intro (la_72 ()) (by decide)) (((((h.2.1 (qm_b1 q9)).2 _ rfl).2.2 M3 p11).2.2 M5 p12).1) (And.intro (lo_71 ()) (s_R_places (d := d + 6)  ((((((h.2.1 (qm_b1 q9)).2 _ rfl).2.2 M3 p11).2.2 M5 p12).2 _ rfl).1) ((((((h.2.1 (qm_b1 q9)).2 _ rfl).2.2 M3 p11).2.2 M5 p12).2 _ rfl).2.1) (fun M8 p13 => ((((((h.2.1 (qm_b1 q9)).2 _ rfl).2.2 M3 p11).2.2 M5 p12).2 _ rfl).2.2 M8 p13))))))))))))))))) (fun q10 => (h.2.2 (qm_b2 q10)))))))
theorem s_R_stirred  {n b f ln kn : Nat} {H : Nat → Nat → Nat} {p u v tp kw kp ku kv : Nat → Nat} {d : Nat} {K : qm_K} {M : qm_M} {s : Int} {a : Int} {k : Int} (hp0 : rI M n H b f p u v ln tp kn kw kp ku kv) (hK : ∀ (r : Int) (M2 : qm_M), ((¬ stOk n s a k → r = -1) ∧ (stOk n s a k → r = (cN n (xW (H b) (Int.toNat s) (Int.toNat a) (Int.toNat k) (Int.toNat k + 1)) (xP (H b) p (Int.toNat s) (Int.toNat a) (Int.toNat k) (Int.toNat k + 1)) : Int)) ∧ rI M2 n H b f p u v ln tp kn kw kp ku kv ∧ (∀ c, c < 71 → M2 c = M c)) → K (.inl r) (qL qLM) M2) : qm_Runs qm_P (d + 8) 163 [(.inr (some 71)), (.inl s), (.inl a), (.inl k)] (qL qLM) M K := by
  obtain ⟨⟨⟨m1, m2, m3, hI⟩, mb⟩, hha, hhs, htp, him, hkn⟩ := id hp0
  have h1 := hI.1
  have h8 := hI.2.1
  refine en_R_stirred (n := n) (w := xW (H b) s.toNat a.toNat k.toNat (k.toNat + 1)) (p := xP (H b) p s.toNat a.toNat k.toNat (k.toNat + 1)) (w2 := H b) (p2 := p) ?_
  rw [m1]
  refine And.intro (by omega) (And.intro (fun h => ?_) (fun h => hK _ M ⟨fun _ => rfl, fun q => absurd q h, hp0, fun _ _ => rfl⟩))
  have hg := h
  refine And.intro (by omega) ?_
  intro M3 e3
  rw [toN_ix (by omega) (by omega) (by omega), toN_ix1 (by omega) (by omega) (by omega)] at e3
  have hI2 := qInv_x (s := s.toNat) (a := a.toNat) (k := k.toNat) (j := k.toNat + 1) hI (by omega) (by omega) (by omega) (by omega)
  have i1 : ix s.toNat a.toNat k.toNat < 128 := ix_lt (by omega) (by omega) (by omega)
  have i2 : ix s.toNat a.toNat (k.toNat + 1) < 128 := ix_lt (by omega) (by omega) (by omega)
  have c3 : ∀ c, c ≠ 72 → M3 c = M c := fun c hc => by rw [e3, sw2_c hc]
  refine And.intro ⟨by rw [c3 71 (by decide)]; exact m1, by rw [e3]; exact sw2_at h8 m2 (by omega) (by omega) (by omega) (by omega), hI2⟩ (And.intro (by rw [e3]; exact sw2_B mb i1 i2) ?_)
  intro M5 q
  obtain ⟨q1, q2, q3⟩ := q
  refine And.intro q1 (And.intro (fun z => absurd q2 z) ?_)
  intro M7 z
  obtain ⟨z1, z2, z3⟩ := z
  refine And.intro (by omega) ?_
  intro M8 e8
  rw [toN_ix (by omega) (by omega) (by omega), toN_ix1 (by omega) (by omega) (by omega)] at e8
  have e72 : M7 72 = M3 72 := funext fun y => by rw [z3 72 y (by decide) (by decide) (Or.inl (by decide)), q3 72 y (by decide) (Or.inl (by decide))]
  have g72 : M8 72 = M 72 := by
    have : M8 72 = sw2 (sw2 M 72 (ix s.toNat a.toNat k.toNat) (ix s.toNat a.toNat (k.toNat + 1))) 72 (ix s.toNat a.toNat k.toNat) (ix s.toNat a.toNat (k.toNat + 1)) 72 := by
      rw [← e3, e8]
      funext x
      unfold sw2 qm_u
      simp only [if_true, e72]
    rw [this, sw2_sw2]
  have f8 : ∀ y, y = 0 ∨ y = 1 ∨ y = 8 ∨ y = 9 ∨ y = 14 → M8 71 y = M 71 y := fun y hy => by rw [e8, sw2_c (by decide), z3 71 y (by decide) (by decide) (Or.inr (by omega)), q3 71 y (by decide) (Or.inr (by omega)), c3 71 (by decide)]
  refine And.intro ⟨by rw [f8 0 (by decide)]; exact m1, qAt_mem m2 g72, hI⟩ (And.intro (mB_mem mb g72) ?_)
  intro M10 t
  obtain ⟨t1, t2, t3⟩ := t
  have c10 : ∀ c, c < 81 → c ≠ 71 → c ≠ 72 → c ≠ 73 → M10 c = M c := fun c g0 g1 g2 g3 => funext fun y => by rw [t3 c y g3 (Or.inl g1), e8, sw2_c g2, z3 c y (by omega) (by omega) (Or.inl g1), q3 c y g3 (Or.inl g1), c3 c g2]
  have f10 : ∀ y, y = 0 ∨ y = 1 ∨ y = 8 ∨ y = 9 ∨ y = 14 → M10 71 y = M 71 y := fun y hy => by rw [t3 71 y (by decide) (Or.inr (by omega)), f8 y hy]
  refine hK _ M10 ⟨fun z => absurd hg z, fun _ => z1.2.2.2.1, ⟨⟨t1, mB_mem mb (by rw [← g72]; exact funext fun y => t3 72 y (by decide) (Or.inl (by decide)))⟩, ⟨qHa_mem hha.1 (c10 _ (by decide) (by decide) (by decide) (by decide)), hha.2⟩, rHs_mem hhs (c10 _ (by decide) (by decide) (by decide) (by decide)) (c10 _ (by decide) (by decide) (by decide) (by decide)) (f10 _ (by decide)) (f10 _ (by decide)), rTp_mem htp (c10 _ (by decide) (by decide) (by decide) (by decide)) (f10 _ (by decide)), rIm_mem him (c10 _ (by decide) (by decide) (by decide) (by decide)) (c10 _ (by decide) (by decide) (by decide) (by decide)) (f10 _ (by decide)), fun z => absurd t2 z⟩, fun c hc => c10 c (by omega) (by omega) (by omega) (by omega)⟩
