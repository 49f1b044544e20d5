/-! who asks whom -/
/-- of n numbers that differ, all below n, each is one -/
theorem pigeon : ∀ (n : Nat) (f : Nat → Nat), (∀ a, a < n → f a < n) → (∀ a b, a < n → b < n → f a = f b → a = b) → ∀ y, y < n → ∃ x, x < n ∧ f x = y
  | 0, _, _, _, y, hy => absurd hy (Nat.not_lt_zero _)
  | n + 1, f, h1, h2, y, hy => by
    by_cases hyn : f n = y
    · exact ⟨n, by omega, hyn⟩
    · -- the value at n is put where n's own value was
      have key : ∀ a, a < n → (if f a = n then f n else f a) < n := fun a ha => by
        have hfa := h1 a (by omega)
        have hfn := h1 n (by omega)
        have hne : f a ≠ f n := fun z => by have := h2 a n (by omega) (by omega) z; omega
        split <;> omega
      have inj : ∀ a b, a < n → b < n → (if f a = n then f n else f a) = (if f b = n then f n else f b) → a = b := fun a b ha hb z => by
        have hna : f a ≠ f n := fun z => by have := h2 a n (by omega) (by omega) z; omega
        have hnb : f b ≠ f n := fun z => by have := h2 b n (by omega) (by omega) z; omega
        split at z <;> split at z
        · exact h2 a b (by omega) (by omega) (by omega)
        · omega
        · omega
        · exact h2 a b (by omega) (by omega) z
      by_cases hy2 : y = n
      · -- n itself: whoever has it, or f n
        subst hy2
        by_cases hfn : f y = y
        · exact ⟨y, by omega, hfn⟩
        · have hlt : f y < y := by have := h1 y (by omega); omega
          obtain ⟨x, hx, e⟩ := pigeon y (fun a => if f a = y then f y else f a) key inj (f y) hlt
          split at e
          · exact ⟨x, by omega, by assumption⟩
          · have := h2 x y (by omega) (by omega) e
            omega
      · obtain ⟨x, hx, e⟩ := pigeon n (fun a => if f a = n then f n else f a) key inj y (by omega)
        split at e
        · exact absurd e hyn
        · exact ⟨x, by omega, e⟩
def galone (n : Nat) (h : Nat → Nat) (x : Nat) : Prop := ∀ y, y < n → h y ≠ x
noncomputable def gfa (n : Nat) (h : Nat → Nat) : Nat := lst (galone n h) n
def gyes (p : Nat → Nat) (s : Nat) (h : Nat → Nat) (a y : Nat) : Prop := h y = 9 ∨ p (ix (1 - s) y a) < p (ix (1 - s) y (h y))
noncomputable def gstep (n : Nat) (w p : Nat → Nat) (s : Nat) (z : (Nat → Nat) × (Nat → Nat)) : (Nat → Nat) × (Nat → Nat) :=
  (updF z.1 (gfa n z.2) (z.1 (gfa n z.2) + 1), @ite _ (gyes p s z.2 (gfa n z.2) (w (ix s (gfa n z.2) (z.1 (gfa n z.2))))) (Classical.propDecidable _) (updF z.2 (w (ix s (gfa n z.2) (z.1 (gfa n z.2)))) (gfa n z.2)) z.2)
noncomputable def gst (n : Nat) (w p : Nat → Nat) (s : Nat) : Nat → (Nat → Nat) × (Nat → Nat)
  | 0 => (fun _ => 0, fun _ => 9)
  | i + 1 => gstep n w p s (gst n w p s i)
/-- what is told of the i-th time -/
noncomputable def gtold (n : Nat) (w p : Nat → Nat) (s i : Nat) : Nat :=
  100 * gfa n (gst n w p s i).2 + 10 * w (ix s (gfa n (gst n w p s i).2) ((gst n w p s i).1 (gfa n (gst n w p s i).2))) + @ite Nat (gyes p s (gst n w p s i).2 (gfa n (gst n w p s i).2) (w (ix s (gfa n (gst n w p s i).2) ((gst n w p s i).1 (gfa n (gst n w p s i).2))))) (Classical.propDecidable _) 1 0
noncomputable def gN (n : Nat) (w p : Nat → Nat) (s : Nat) : Nat := lst (fun i => gfa n (gst n w p s i).2 = n) 65
def gsum (n : Nat) (q : Nat → Nat) : Nat := sumN q n
theorem sumN_upd {f : Nat → Nat} {a x : Nat} : ∀ {n : Nat}, a < n → sumN (updF f a x) n + f a = sumN f n + x
  | 0, h => absurd h (Nat.not_lt_zero _)
  | n + 1, h => by
    show sumN (updF f a x) n + updF f a x n + f a = sumN f n + f n + x
    by_cases hn : a = n
    · have : sumN (updF f a x) n = sumN f n := sumN_congr (fun j hj => by unfold updF; rw [if_neg (by omega)])
      rw [this]
      unfold updF
      rw [if_pos hn.symm, hn]
      omega
    · have := sumN_upd (f := f) (x := x) (n := n) (a := a) (by omega)
      have h2 : updF f a x n = f n := by unfold updF; rw [if_neg (by omega)]
      omega
theorem sumN_lt {f : Nat → Nat} {b a : Nat} : ∀ {n : Nat}, (∀ j, j < n → f j ≤ b) → a < n → f a < b → sumN f n < n * b
  | 0, _, h, _ => absurd h (Nat.not_lt_zero _)
  | n + 1, h, ha, hb => by
    show sumN f n + f n < (n + 1) * b
    rw [Nat.succ_mul]
    by_cases hn : a = n
    · subst hn
      have := sumN_le (n := a) (fun j hj => h j (by omega))
      omega
    · have := sumN_lt (n := n) (fun j hj => h j (by omega)) (by omega) hb
      have := h n (by omega)
      omega
/-- what holds all the while -/
def gI (n : Nat) (w p : Nat → Nat) (s i : Nat) (q h : Nat → Nat) : Prop :=
  (∀ y, y < n → h y = 9 ∨ h y < n) ∧ (∀ y z, y < n → z < n → h y = h z → h y < n → y = z) ∧ (∀ x, x < n → q x ≤ n) ∧
  (∀ x k, x < n → k < q x → h (w (ix s x k)) ≠ 9 ∧ p (ix (1 - s) (w (ix s x k)) (h (w (ix s x k)))) ≤ p (ix (1 - s) (w (ix s x k)) x)) ∧
  (∀ y, y < n → h y < n → ∃ k, k + 1 = q (h y) ∧ w (ix s (h y) k) = y) ∧ sumN q n = i
theorem gI_0 {n : Nat} {w p : Nat → Nat} {s : Nat} (h8 : n ≤ 8) : gI n w p s 0 (fun _ => 0) (fun _ => 9) := by
  refine ⟨fun y _ => Or.inl rfl, fun y z _ _ _ h => absurd (show 9 < n from h) (by omega), fun x _ => Nat.zero_le _, fun x k _ h => absurd h (Nat.not_lt_zero _), fun y _ h => absurd (show 9 < n from h) (by omega), ?_⟩
  have : ∀ m, sumN (fun _ => 0) m = 0 := fun m => by
    induction m with
    | zero => rfl
    | succ m ih => show sumN _ m + 0 = 0; omega
  exact this n
/-- who is alone has somebody left to ask -/
theorem gI_ask {n : Nat} {w p : Nat → Nat} {s i : Nat} {q h : Nat → Nat} (hI : qInv n w p) (hs : s < 2) (g : gI n w p s i q h) {a : Nat} (ha : a < n) (hal : galone n h a) : q a < n := by
  obtain ⟨g1, g2, g3, g4, g5, g6⟩ := g
  rcases Nat.lt_or_ge (q a) n with hq | hq
  · exact hq
  · exfalso
    have hall : ∀ y, y < n → h y < n := fun y hy => by
      have hp := hI.2.2 s a hs ha y hy
      have := (g4 a (p (ix s a y)) ha (by omega)).1
      rw [hp.2.2.2] at this
      rcases g1 y hy with z | z
      · exact absurd z this
      · exact z
    obtain ⟨y, hy, e⟩ := pigeon n h hall (fun y z hy hz e => g2 y z hy hz e (hall y hy)) a ha
    exact hal y hy e
theorem gI_step {n : Nat} {w p : Nat → Nat} {s i : Nat} {q h : Nat → Nat} (hI : qInv n w p) (hs : s < 2) (g : gI n w p s i q h) (hfa : gfa n h < n) : gI n w p s (i + 1) (gstep n w p s (q, h)).1 (gstep n w p s (q, h)).2 := by
  have hal : galone n h (gfa n h) := lst_P hfa
  have hq := gI_ask hI hs g hfa hal
  obtain ⟨g1, g2, g3, g4, g5, g6⟩ := g
  unfold gstep
  simp only
  generalize gfa n h = a at *
  have hw := hI.2.2 s a hs hfa (q a) hq
  generalize hy : w (ix s a (q a)) = y at *
  have hyn := hw.1
  have h8 := hI.2.1
  have hsum : sumN (updF q a (q a + 1)) n = i + 1 := by
    have := sumN_upd (f := q) (x := q a + 1) hfa
    omega
  have hqle : ∀ x, x < n → updF q a (q a + 1) x ≤ n := fun x hx => by
    unfold updF
    split
    · omega
    · exact g3 x hx
  by_cases hyes : gyes p s h a y
  · rw [if_pos hyes]
    refine ⟨fun z hz => ?_, fun z1 z2 hz1 hz2 e hlt => ?_, hqle, fun x k hx hk => ?_, fun z hz hlt => ?_, hsum⟩
    · unfold updF
      split
      · exact Or.inr hfa
      · exact g1 z hz
    · unfold updF at e hlt
      split at e <;> split at e
      · omega
      · exact absurd e.symm (hal z2 hz2)
      · exact absurd e (hal z1 hz1)
      · rename_i h1 h2
        rw [if_neg h1] at hlt
        exact g2 z1 z2 hz1 hz2 e hlt
    · have hold : k < q x → updF h y a (w (ix s x k)) ≠ 9 ∧ p (ix (1 - s) (w (ix s x k)) (updF h y a (w (ix s x k)))) ≤ p (ix (1 - s) (w (ix s x k)) x) := fun hkq => by
        have := g4 x k hx hkq
        unfold updF
        by_cases hz : w (ix s x k) = y
        · rw [if_pos hz]
          rw [hz] at this ⊢
          refine ⟨by omega, ?_⟩
          rcases hyes with z | z
          · exact absurd z this.1
          · omega
        · rw [if_neg hz]; exact this
      unfold updF at hk
      by_cases hxa : x = a
      · rw [if_pos hxa] at hk
        by_cases hkq : k < q a
        · exact hold (by rw [hxa]; exact hkq)
        · have : k = q a := by omega
          subst this
          subst hxa
          rw [hy]
          unfold updF
          rw [if_pos rfl]
          exact ⟨by omega, Nat.le_refl _⟩
      · rw [if_neg hxa] at hk
        exact hold hk
    · unfold updF at hlt ⊢
      by_cases hzy : z = y
      · rw [if_pos hzy, if_pos rfl]
        exact ⟨q a, rfl, by rw [hzy]; exact hy⟩
      · rw [if_neg hzy] at hlt ⊢
        obtain ⟨k, e1, e2⟩ := g5 z hz hlt
        refine ⟨k, ?_, e2⟩
        rw [if_neg (hal z hz)]
        exact e1
  · rw [if_neg hyes]
    have hno : h y ≠ 9 ∧ p (ix (1 - s) y (h y)) ≤ p (ix (1 - s) y a) := by
      unfold gyes at hyes
      exact ⟨fun z => hyes (Or.inl z), Nat.le_of_not_lt fun z => hyes (Or.inr z)⟩
    refine ⟨g1, g2, hqle, fun x k hx hk => ?_, fun z hz hlt => ?_, hsum⟩
    · unfold updF at hk
      by_cases hxa : x = a
      · rw [if_pos hxa] at hk
        by_cases hkq : k < q a
        · exact g4 x k hx (by rw [hxa]; exact hkq)
        · have : k = q a := by omega
          subst this
          subst hxa
          rw [hy]
          exact hno
      · rw [if_neg hxa] at hk
        exact g4 x k hx hk
    · obtain ⟨k, e1, e2⟩ := g5 z hz hlt
      refine ⟨k, ?_, e2⟩
      unfold updF
      rw [if_neg (hal z hz)]
      exact e1
theorem gst_I {n : Nat} {w p : Nat → Nat} {s : Nat} (hI : qInv n w p) (hs : s < 2) : ∀ i, (∀ j, j < i → gfa n (gst n w p s j).2 < n) → gI n w p s i (gst n w p s i).1 (gst n w p s i).2
  | 0, _ => gI_0 hI.2.1
  | i + 1, h => gI_step hI hs (gst_I hI hs i (fun j hj => h j (by omega))) (h i (by omega))
theorem gfa_le (n : Nat) (h : Nat → Nat) : gfa n h ≤ n := lst_le _ _
theorem gN_lt {n : Nat} {w p : Nat → Nat} {s i : Nat} (h : i < gN n w p s) : gfa n (gst n w p s i).2 < n := by
  have := lst_not (P := fun i => gfa n (gst n w p s i).2 = n) h
  have := gfa_le n (gst n w p s i).2
  omega
theorem gN_le {n : Nat} {w p : Nat → Nat} {s : Nat} (hI : qInv n w p) (hs : s < 2) : gN n w p s ≤ 64 := by
  rcases Nat.lt_or_ge (gN n w p s) 65 with h | h
  · omega
  · exfalso
    have hg := gst_I hI hs 64 (fun j hj => gN_lt (by omega))
    have hfa : gfa n (gst n w p s 64).2 < n := gN_lt (by omega)
    have hq := gI_ask hI hs hg hfa (lst_P hfa)
    have := sumN_lt (f := (gst n w p s 64).1) hg.2.2.1 hfa hq
    have h6 := hg.2.2.2.2.2
    have h8 := hI.2.1
    have : n * n ≤ 8 * 8 := Nat.mul_le_mul h8 h8
    omega
theorem gN_end {n : Nat} {w p : Nat → Nat} {s : Nat} (hI : qInv n w p) (hs : s < 2) : gfa n (gst n w p s (gN n w p s)).2 = n := lst_P (P := fun i => gfa n (gst n w p s i).2 = n) (N := 65) (by have := gN_le hI hs; unfold gN at this; omega)
/-- whom those who are asked have in the end; and whom those who ask have -/
noncomputable def gH (n : Nat) (w p : Nat → Nat) (s : Nat) : Nat → Nat := (gst n w p s (gN n w p s)).2
noncomputable def ginv (n : Nat) (h : Nat → Nat) (x : Nat) : Nat := @ite Nat (lst (fun y => h y = x) n < n) (Classical.propDecidable _) (lst (fun y => h y = x) n) 9
theorem ginv_some {n : Nat} {h : Nat → Nat} {x y : Nat} (hy : y < n) (e : h y = x) (hj : ∀ y z, y < n → z < n → h y = h z → h y < n → y = z) (hx : x < n) : ginv n h x = y := by
  have h1 : lst (fun y => h y = x) n < n := by
    rcases Nat.lt_or_ge (lst (fun y => h y = x) n) n with q | q
    · exact q
    · exact absurd e (lst_not (P := fun y => h y = x) (N := n) (by omega))
  unfold ginv
  rw [if_pos h1]
  have h2 : h (lst (fun y => h y = x) n) = x := lst_P (P := fun y => h y = x) h1
  exact hj _ _ h1 hy (by rw [h2, e]) (by rw [h2]; exact hx)
theorem ginv_none {n : Nat} {h : Nat → Nat} {x : Nat} (ha : galone n h x) : ginv n h x = 9 := by
  unfold ginv
  rw [if_neg]
  intro h1
  exact ha _ h1 (lst_P (P := fun y => h y = x) h1)
theorem ginv_cases {n : Nat} {h : Nat → Nat} {x : Nat} (h8 : n ≤ 8) : (ginv n h x = 9 ∧ galone n h x) ∨ (ginv n h x < n ∧ h (ginv n h x) = x) := by
  by_cases h1 : lst (fun y => h y = x) n < n
  · right
    unfold ginv
    rw [if_pos h1]
    exact ⟨h1, lst_P (P := fun y => h y = x) h1⟩
  · left
    unfold ginv
    rw [if_neg h1]
    exact ⟨rfl, fun y hy => lst_not (P := fun y => h y = x) (N := n) (by have := lst_le (fun y => h y = x) n; omega)⟩
/-- at the end all have somebody -/
theorem gH_all {n : Nat} {w p : Nat → Nat} {s : Nat} (hI : qInv n w p) (hs : s < 2) : gI n w p s (gN n w p s) (gst n w p s (gN n w p s)).1 (gH n w p s) ∧ (∀ x, x < n → ginv n (gH n w p s) x < n ∧ gH n w p s (ginv n (gH n w p s) x) = x) ∧ ∀ y, y < n → gH n w p s y < n ∧ ginv n (gH n w p s) (gH n w p s y) = y := by
  have hg := gst_I hI hs (gN n w p s) (fun j hj => gN_lt hj)
  have he := gN_end hI hs
  have hx : ∀ x, x < n → ginv n (gH n w p s) x < n ∧ gH n w p s (ginv n (gH n w p s) x) = x := fun x hx => by
    rcases ginv_cases (h := gH n w p s) (x := x) hI.2.1 with ⟨h1, h2⟩ | h
    · exact absurd h2 (lst_not (P := galone n (gst n w p s (gN n w p s)).2) (N := n) (by unfold gfa at he; omega))
    · exact h
  refine ⟨hg, hx, fun y hy => ?_⟩
  obtain ⟨x, hxn, e⟩ := pigeon n (ginv n (gH n w p s)) (fun a ha => (hx a ha).1) (fun a b ha hb z => by rw [← (hx a ha).2, z, (hx b hb).2]) y hy
  have h2 := (hx x hxn).2
  rw [e] at h2
  rw [h2]
  exact ⟨hxn, e⟩
/-- nobody blocks -/
def stab (n : Nat) (p u v : Nat → Nat) : Prop := ∀ l r, l < n → r < n → ¬ blk p u v l r
def qMt (n : Nat) (u v : Nat → Nat) : Prop := (∀ a, a < n → u a < n ∧ v (u a) = a) ∧ ∀ b, b < n → v b < n ∧ u (v b) = b
theorem qMt_pm {n : Nat} {u v : Nat → Nat} (h : qMt n u v) : qPm n u v := ⟨fun a ha => Or.inr (h.1 a ha), fun b hb => Or.inr (h.2 b hb)⟩
theorem qMt_best {n : Nat} {w p : Nat → Nat} (hI : qInv n w p) : qMt n (ginv n (gH n w p 0)) (gH n w p 0) ∧ qMt n (gH n w p 1) (ginv n (gH n w p 1)) := by
  have h0 := gH_all hI (s := 0) (by omega)
  have h1 := gH_all hI (s := 1) (by omega)
  exact ⟨⟨h0.2.1, h0.2.2⟩, ⟨h1.2.2, h1.2.1⟩⟩
/-- no left is ever turned away by whom it has in a stable match -/
theorem gst_opt {n : Nat} {w p : Nat → Nat} {u v : Nat → Nat} (hI : qInv n w p) (hm : qMt n u v) (hst : stab n p u v) : ∀ i, (∀ j, j < i → gfa n (gst n w p 0 j).2 < n) → ∀ x k, x < n → k < (gst n w p 0 i).1 x → w (ix 0 x k) = u x → (gst n w p 0 i).2 (u x) = x
  | 0, _, x, k, _, hk, _ => absurd hk (Nat.not_lt_zero _)
  | i + 1, hfa', x, k, hx, hk, e => by
    have hfa : ∀ j, j < i → gfa n (gst n w p 0 j).2 < n := fun j hj => hfa' j (by omega)
    have hg := gst_I hI (s := 0) (by omega) i hfa
    have ih := gst_opt hI hm hst i hfa
    have hfn := hfa' i (by omega)
    have hal : galone n (gst n w p 0 i).2 (gfa n (gst n w p 0 i).2) := lst_P hfn
    have hqn := gI_ask hI (by omega) hg hfn hal
    have hk' : k < (gstep n w p 0 (gst n w p 0 i)).1 x := hk
    show (gstep n w p 0 (gst n w p 0 i)).2 (u x) = x
    unfold gstep at hk' ⊢
    simp only at hk' ⊢
    generalize (gst n w p 0 i).1 = q at *
    generalize (gst n w p 0 i).2 = h at *
    generalize gfa n h = a at *
    have hw := hI.2.2 0 a (by omega) hfn (q a) hqn
    generalize hy : w (ix 0 a (q a)) = y at *
    have hyn := hw.1
    obtain ⟨g1, g2, g3, g4, g5, g6⟩ := hg
    have hux := hm.1 x hx
    -- one who would rather have y than u2 of his own, while y would rather have him: that blocks
    have noblock : ∀ z z2, z < n → z2 < n → z ≠ z2 → u z2 = y → p (ix 1 y z) < p (ix 1 y z2) → (∀ k2, k2 < p (ix 0 z y) → w (ix 0 z k2) ≠ u z) → False := by
      intro z z2 hz hz2 hne e2 hlt hno
      have hpz := hI.2.2 0 z (by omega) hz (u z) (hm.1 z hz).1
      have hne2 : u z ≠ y := fun q => hne (by rw [← (hm.1 z hz).2, q, ← e2, (hm.1 z2 hz2).2])
      have hle : p (ix 0 z y) ≤ p (ix 0 z (u z)) := Nat.le_of_not_lt fun q => hno _ q hpz.2.2.2
      have hpy := hI.2.2 0 z (by omega) hz y hyn
      have hne3 : p (ix 0 z y) ≠ p (ix 0 z (u z)) := fun q => hne2 (by rw [← hpz.2.2.2, ← q, hpy.2.2.2])
      have hvy : v y = z2 := by rw [← e2]; exact (hm.1 z2 hz2).2
      exact hst z y hz hyn ⟨hne2, Or.inr (by omega), Or.inr (by rw [hvy]; exact hlt)⟩
    by_cases hyes : gyes p 0 h a y
    · rw [if_pos hyes]
      unfold updF at hk' ⊢
      by_cases hxa : x = a
      · subst hxa
        rw [if_pos rfl] at hk'
        by_cases hkq : k < q x
        · exact absurd (ih x k hx hkq e) (hal (u x) hux.1)
        · have hkq : k = q x := by omega
          subst hkq
          rw [hy] at e
          rw [if_pos e.symm]
      · rw [if_neg hxa] at hk'
        have hh := ih x k hx hk' e
        by_cases huy : u x = y
        · exfalso
          rw [huy] at hh
          have hlt : p (ix 1 y a) < p (ix 1 y x) := by
            have h8 := hI.2.1
            rcases hyes with z | z
            · omega
            · rw [hh] at z; exact z
          refine noblock a x hfn hx (fun z => hxa z.symm) huy hlt (fun k2 hk2 e2 => ?_)
          rw [hw.2.1] at hk2
          exact hal (u a) (hm.1 a hfn).1 (ih a k2 hfn hk2 e2)
        · rw [if_neg huy]; exact hh
    · rw [if_neg hyes]
      unfold updF at hk'
      by_cases hxa : x = a
      · subst hxa
        rw [if_pos rfl] at hk'
        by_cases hkq : k < q x
        · exact absurd (ih x k hx hkq e) (hal (u x) hux.1)
        · exfalso
          have hkq : k = q x := by omega
          subst hkq
          rw [hy] at e
          have hno : h y ≠ 9 ∧ p (ix 1 y (h y)) ≤ p (ix 1 y x) := by
            unfold gyes at hyes
            exact ⟨fun z => hyes (Or.inl z), Nat.le_of_not_lt fun z => hyes (Or.inr z)⟩
          have hhy : h y < n := by rcases g1 y hyn with z | z; exact absurd z hno.1; exact z
          have hne : h y ≠ x := hal y hyn
          have hpp := hI.2.2 1 y (by omega) hyn
          have hne2 : p (ix 1 y (h y)) ≠ p (ix 1 y x) := fun z => hne (by rw [← (hpp (h y) hhy).2.2.2, z, (hpp x hx).2.2.2])
          refine noblock (h y) x hhy hx hne e.symm (by omega) (fun k2 hk2 e2 => ?_)
          obtain ⟨k3, e3, e4⟩ := g5 y hyn hhy
          have hk3 : p (ix 0 (h y) y) = k3 := by
            have := hI.2.2 0 (h y) (by omega) hhy k3 (by have := g3 (h y) hhy; omega)
            rw [e4] at this
            exact this.2.1
          have h5 := ih (h y) k2 hhy (by omega) e2
          have h6 := g2 (u (h y)) y (hm.1 _ hhy).1 hyn (by rw [h5]) (by rw [h5]; exact hhy)
          rw [h6] at e2
          have := hI.2.2 0 (h y) (by omega) hhy k2 (by have := g3 (h y) hhy; omega)
          rw [e2] at this
          omega
      · rw [if_neg hxa] at hk'
        exact ih x k hx hk' e
theorem best_stab {n : Nat} {w p : Nat → Nat} (hI : qInv n w p) : stab n p (ginv n (gH n w p 0)) (gH n w p 0) := by
  obtain ⟨⟨g1, g2, g3, g4, g5, g6⟩, h1, h2⟩ := gH_all hI (s := 0) (by omega)
  intro l r hl hr hb
  obtain ⟨b1, b2, b3⟩ := hb
  have hl1 := h1 l hl
  have hr1 := h2 r hr
  have b2 : p (ix 0 l r) < p (ix 0 l (ginv n (gH n w p 0) l)) := by rcases b2 with z | z; have := hI.2.1; omega; exact z
  have b3 : p (ix 1 r l) < p (ix 1 r (gH n w p 0 r)) := by rcases b3 with z | z; have := hI.2.1; omega; exact z
  obtain ⟨k, e1, e2⟩ := g5 _ hl1.1 (by rw [hl1.2]; exact hl)
  rw [hl1.2] at e1 e2
  have hpr := hI.2.2 0 l (by omega) hl r hr
  have hpk := hI.2.2 0 l (by omega) hl k (by have := g3 l hl; omega)
  rw [e2] at hpk
  have := g4 l (p (ix 0 l r)) hl (by omega)
  rw [hpr.2.2.2] at this
  have h3 := this.2
  simp only [Nat.sub_zero] at h3
  have h4 : p (ix 1 r (gH n w p 0 r)) ≤ p (ix 1 r l) := h3
  omega
theorem best_opt {n : Nat} {w p u v : Nat → Nat} (hI : qInv n w p) (hm : qMt n u v) (hst : stab n p u v) {x : Nat} (hx : x < n) : p (ix 0 x (ginv n (gH n w p 0) x)) ≤ p (ix 0 x (u x)) := by
  obtain ⟨⟨g1, g2, g3, g4, g5, g6⟩, h1, h2⟩ := gH_all hI (s := 0) (by omega)
  have hx1 := h1 x hx
  obtain ⟨k, e1, e2⟩ := g5 _ hx1.1 (by rw [hx1.2]; exact hx)
  rw [hx1.2] at e1 e2
  have hpk := hI.2.2 0 x (by omega) hx k (by have := g3 x hx; omega)
  rw [e2] at hpk
  have hux := hm.1 x hx
  have hpu := hI.2.2 0 x (by omega) hx (u x) hux.1
  rcases Nat.lt_or_ge (p (ix 0 x (u x))) (p (ix 0 x (ginv n (gH n w p 0) x))) with h | h
  · exfalso
    have h3 := gst_opt hI hm hst (gN n w p 0) (fun j hj => gN_lt hj) x (p (ix 0 x (u x))) hx (by omega) hpu.2.2.2
    have h4 := g2 (u x) (ginv n (gH n w p 0) x) hux.1 hx1.1 (by rw [hx1.2]; exact h3) (by show gH n w p 0 (u x) < n; rw [show gH n w p 0 (u x) = x from h3]; exact hx)
    rw [h4] at h
    omega
  · exact h
