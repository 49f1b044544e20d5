/-! all orders of one list, counted -/
theorem sumN_z {f : Nat → Nat} : ∀ {n : Nat}, (∀ j, j < n → f j = 0) → sumN f n = 0
  | 0, _ => rfl
  | n + 1, h => by
    show sumN f n + f n = 0
    rw [sumN_z (n := n) (fun j hj => h j (by omega)), h n (by omega)]
theorem sumN_one {f : Nat → Nat} {i : Nat} : ∀ {n : Nat}, i < n → (∀ j, j < n → j ≠ i → f j = 0) → sumN f n = f i
  | 0, hi, _ => absurd hi (Nat.not_lt_zero _)
  | n + 1, hi, h => by
    show sumN f n + f n = f i
    by_cases q : i = n
    · rw [sumN_z (n := n) (fun j hj => h j (by omega) (by omega)), q, Nat.zero_add]
    · rw [sumN_one (n := n) (by omega) (fun j hj hji => h j (by omega) hji), h n (by omega) (by omega), Nat.add_zero]
theorem sumN_ad {f g : Nat → Nat} : ∀ {n : Nat}, sumN (fun j => f j + g j) n = sumN f n + sumN g n
  | 0 => rfl
  | n + 1 => by
    show sumN (fun j => f j + g j) n + (f n + g n) = (sumN f n + f n) + (sumN g n + g n)
    rw [sumN_ad (n := n)]
    omega
theorem sumN_comm {f : Nat → Nat → Nat} {m : Nat} : ∀ {n : Nat}, sumN (fun i => sumN (fun j => f i j) m) n = sumN (fun j => sumN (fun i => f i j) n) m
  | 0 => (sumN_z (fun _ _ => rfl)).symm
  | n + 1 => by
    show sumN (fun i => sumN (fun j => f i j) m) n + sumN (fun j => f n j) m = sumN (fun j => sumN (fun i => f i j) n + f n j) m
    rw [sumN_comm (n := n), sumN_ad]
theorem sum_perm {n : Nat} {W Q h : Nat → Nat} (h1 : ∀ j, j < n → W j < n ∧ Q (W j) = j) (h2 : ∀ x, x < n → Q x < n ∧ W (Q x) = x) : sumN (fun j => h (W j)) n = sumN h n := by
  have a : sumN (fun j => h (W j)) n = sumN (fun j => sumN (fun x => if W j = x then h x else 0) n) n := sumN_congr (fun j hj => by
    rw [sumN_one (i := W j) (h1 j hj).1 (fun x _ hx => if_neg (fun e => hx e.symm)), if_pos rfl])
  have b : sumN h n = sumN (fun x => sumN (fun j => if W j = x then h x else 0) n) n := sumN_congr (fun x hx => by
    rw [sumN_one (i := Q x) (h2 x hx).1 (fun j hj hne => if_neg (fun e => hne (by rw [← e, (h1 j hj).2])))]
    rw [if_pos (h2 x hx).2])
  rw [a, b, sumN_comm]
def rng (n y : Nat) : Prop := y / 64 < 2 ∧ y / 8 % 8 < n ∧ y % 8 < n
theorem rng_ix {n s a k : Nat} (h8 : n ≤ 8) (hs : s < 2) (ha : a < n) (hk : k < n) : rng n (ix s a k) := by unfold rng ix; omega
theorem rng_of {n y : Nat} (h : rng n y) : y = ix (y / 64) (y / 8 % 8) (y % 8) := by unfold rng at h; unfold ix; omega
noncomputable def nrm (n : Nat) (w : Nat → Nat) : Nat → Nat := fun y => @ite Nat (rng n y) (Classical.propDecidable _) (w y) 0
noncomputable def plc (n : Nat) (w : Nat → Nat) : Nat → Nat := fun y => lst (fun k => w (y - y % 8 + k) = y % 8) n
theorem nrm_ix {n s a k : Nat} {w : Nat → Nat} (h8 : n ≤ 8) (hs : s < 2) (ha : a < n) (hk : k < n) : nrm n w (ix s a k) = w (ix s a k) := if_pos (rng_ix h8 hs ha hk)
theorem nrm_congr {n : Nat} {w w2 : Nat → Nat} (h : ∀ y, rng n y → w y = w2 y) : nrm n w = nrm n w2 := funext fun y => by
  unfold nrm
  split
  · rename_i q; exact h y q
  · rfl
theorem qInv_nrm {n : Nat} {w p : Nat → Nat} (h : qInv n w p) : qInv n (nrm n w) (plc n (nrm n w)) ∧ ∀ s a k, s < 2 → a < n → k < n → plc n (nrm n w) (ix s a k) = p (ix s a k) := by
  have h8 := h.2.1
  have e : ∀ s a k, s < 2 → a < n → k < n → plc n (nrm n w) (ix s a k) = p (ix s a k) := fun s a k hs ha hk => by
    have g := h.2.2 s a hs ha k hk
    unfold plc
    have e1 : ix s a k % 8 = k := by unfold ix; omega
    have e2 : ∀ j, ix s a k - ix s a k % 8 + j = ix s a j := fun j => by unfold ix; omega
    refine lst_eq g.2.2.1 ?_ (fun j hj q => ?_)
    · rw [e2, e1, nrm_ix h8 hs ha g.2.2.1]; exact g.2.2.2
    · rw [e2, e1, nrm_ix h8 hs ha (by omega)] at q
      have := (h.2.2 s a hs ha j (by omega)).2.1
      rw [q] at this
      omega
  refine ⟨⟨h.1, h.2.1, fun s a hs ha k hk => ?_⟩, e⟩
  have g := h.2.2 s a hs ha k hk
  rw [nrm_ix h8 hs ha hk, e s a _ hs ha g.1, e s a k hs ha hk, nrm_ix h8 hs ha g.2.2.1]
  exact g
noncomputable def pmS (F : (Nat → Nat) → Prop) (n r : Nat) : Nat → Nat → (Nat → Nat) → Nat
  | 0, _, w => @ite Nat (F w) (Classical.propDecidable _) 1 0
  | m + 1, k, w => sumN (fun x => @ite Nat (∀ j, j < k → w (ix 1 r j) ≠ x) (Classical.propDecidable _) (pmS F n r m (k + 1) (updF w (ix 1 r k) x)) 0) n
theorem pmS_congr {F : (Nat → Nat) → Prop} {n r : Nat} (h8 : n ≤ 8) (hr : r < n) (hF : ∀ w1 w2, (∀ y, rng n y → w1 y = w2 y) → (F w1 ↔ F w2)) : ∀ (m k : Nat) (w1 w2 : Nat → Nat), k + m = n → (∀ y, rng n y → (∀ j, k ≤ j → j < n → y ≠ ix 1 r j) → w1 y = w2 y) → pmS F n r m k w1 = pmS F n r m k w2
  | 0, k, w1, w2, hk, h => by
    have := hF w1 w2 (fun y hy => h y hy (fun j h1 h2 => absurd h1 (by omega)))
    unfold pmS
    by_cases q : F w1
    · rw [if_pos q, if_pos (this.mp q)]
    · rw [if_neg q, if_neg (fun z => q (this.mpr z))]
  | m + 1, k, w1, w2, hk, h => by
    have e : ∀ j, j < k → w1 (ix 1 r j) = w2 (ix 1 r j) := fun j hj => h _ (rng_ix h8 (by omega) hr (by omega)) (fun i h1 h2 q => by unfold ix at q; omega)
    show sumN _ n = sumN _ n
    refine sumN_congr (fun x _ => ?_)
    have ih : pmS F n r m (k + 1) (updF w1 (ix 1 r k) x) = pmS F n r m (k + 1) (updF w2 (ix 1 r k) x) := pmS_congr h8 hr hF m (k + 1) _ _ (by omega) (fun y hy hn => by
      by_cases q : y = ix 1 r k
      · rw [q, uF_s, uF_s]
      · rw [uF_k q, uF_k q]
        refine h y hy (fun j h1 h2 => ?_)
        by_cases hj : j = k
        · rw [hj]; exact q
        · exact hn j (by omega) h2)
    by_cases q : ∀ j, j < k → w1 (ix 1 r j) ≠ x
    · rw [if_pos q, if_pos (fun j hj => by rw [← e j hj]; exact q j hj), ih]
    · rw [if_neg q, if_neg (fun z => q (fun j hj => by rw [e j hj]; exact z j hj))]
theorem pmS_x {F : (Nat → Nat) → Prop} {n r : Nat} (hr : r < n) (hF : ∀ w1 w2, (∀ y, rng n y → w1 y = w2 y) → (F w1 ↔ F w2)) {m k : Nat} {w p : Nat → Nat} (hI : qInv n w p) (hk : k + (m + 1) = n) : pmS F n r (m + 1) k w = sumN (fun j => if k ≤ j then pmS F n r m (k + 1) (xW w 1 r k j) else 0) n := by
  have h8 := hI.2.1
  have g := hI.2.2 1 r (by omega) hr
  show sumN _ n = _
  rw [← sum_perm (W := fun j => w (ix 1 r j)) (Q := fun x => p (ix 1 r x)) (fun j hj => ⟨(g j hj).1, (g j hj).2.1⟩) (fun x hx => ⟨(g x hx).2.2.1, (g x hx).2.2.2⟩)]
  refine sumN_congr (fun j hj => ?_)
  have hinj : ∀ i, i < n → w (ix 1 r i) = w (ix 1 r j) → i = j := fun i hi q => by rw [← (g i hi).2.1, ← (g j hj).2.1, q]
  by_cases q : k ≤ j
  · rw [if_pos q, if_pos (fun i hi z => by have := hinj i (by omega) z; omega)]
    refine pmS_congr h8 hr hF m (k + 1) _ _ (by omega) (fun y hy hn => ?_)
    by_cases q1 : y = ix 1 r k
    · rw [q1, uF_s, xW_k]
    · rw [uF_k q1]
      by_cases q2 : y = ix 1 r j
      · exact absurd q2 (hn j (by
          rcases Nat.lt_or_ge k j with z | z
          · omega
          · exact absurd (by rw [q2, show j = k by omega]) q1) hj)
      · rw [xW_o q1 q2]
  · rw [if_neg q, if_neg (fun z => z j (by omega) rfl)]
theorem pmS_le {F : (Nat → Nat) → Prop} {n r : Nat} : ∀ (m k : Nat) (w : Nat → Nat), pmS F n r m k w ≤ n ^ m
  | 0, k, w => by
    unfold pmS
    split
    · exact Nat.le_refl _
    · exact Nat.zero_le _
  | m + 1, k, w => by
    show sumN _ n ≤ _
    rw [Nat.pow_succ, Nat.mul_comm]
    refine sumN_le (fun j _ => ?_)
    split
    · exact pmS_le m (k + 1) _
    · exact Nat.zero_le _
theorem xW_kk {w : Nat → Nat} {s a k : Nat} : xW w s a k k = w := by
  funext y
  by_cases q : y = ix s a k
  · rw [q, xW_k]
  · rw [xW_o q q]
theorem sumN_ge {f : Nat → Nat} {i : Nat} : ∀ {n : Nat}, i < n → f i ≤ sumN f n
  | 0, h => absurd h (Nat.not_lt_zero _)
  | n + 1, h => by
    show f i ≤ sumN f n + f n
    by_cases q : i = n
    · rw [q]; omega
    · have := sumN_ge (f := f) (n := n) (show i < n by omega)
      omega
theorem pmS_pos {F : (Nat → Nat) → Prop} {n r : Nat} (hr : r < n) (hF : ∀ w1 w2, (∀ y, rng n y → w1 y = w2 y) → (F w1 ↔ F w2)) {w p : Nat → Nat} (hI : qInv n w p) (h : F w) : ∀ (m k : Nat), k + m = n → 0 < pmS F n r m k w
  | 0, k, _ => by unfold pmS; rw [if_pos h]; decide
  | m + 1, k, hk => by
    have ih := pmS_pos hr hF hI h m (k + 1) (by omega)
    rw [pmS_x hr hF hI hk]
    refine Nat.lt_of_lt_of_le ih ?_
    have := sumN_ge (f := fun j => if k ≤ j then pmS F n r m (k + 1) (xW w 1 r k j) else 0) (i := k) (n := n) (by omega)
    simp only [Nat.le_refl, if_true, xW_kk] at this
    exact this
/-- what a right has, by its true list, if all told the lists w -/
noncomputable def lyV (n : Nat) (p : Nat → Nat) (r : Nat) (w : Nat → Nat) : Nat := p (ix 1 r (gH n (nrm n w) (plc n (nrm n w)) 0 r))
def lyQ (n : Nat) (p : Nat → Nat) (r v : Nat) (w : Nat → Nat) : Prop := lyV n p r w = v
theorem lyQ_c {n r v : Nat} {p : Nat → Nat} (w1 w2 : Nat → Nat) (h : ∀ y, rng n y → w1 y = w2 y) : lyQ n p r v w1 ↔ lyQ n p r v w2 := by
  unfold lyQ lyV
  rw [nrm_congr h]
noncomputable def lieN (n : Nat) (w p : Nat → Nat) (r v : Nat) : Nat := pmS (lyQ n p r v) n r n 0 w
noncomputable def lieB (n : Nat) (w p : Nat → Nat) (r : Nat) : Nat := lst (fun v => 0 < lieN n w p r v) n
noncomputable def anLie (n : Nat) (w p : Nat → Nat) (r k : Int) : Int := if r < 0 ∨ (n : Int) ≤ r ∨ k < 0 ∨ 1 < k then -1 else if 5 < n then -7 else if k = 0 then (lieB n w p r.toNat : Int) else (lieN n w p r.toNat (lieB n w p r.toNat) : Int)
theorem lyV_lt {n r : Nat} {w p w2 p2 : Nat → Nat} (hI : qInv n w p) (hI2 : qInv n w2 p2) (hr : r < n) : lyV n p r w2 < n := by
  have hm := (qMt_best (qInv_nrm hI2).1).1.2 r hr
  exact (hI.2.2 1 r (by omega) hr _ hm.1).2.2.1
theorem lie_pos {n r : Nat} {w p : Nat → Nat} (hI : qInv n w p) (hr : r < n) : ∃ v, v < n ∧ 0 < lieN n w p r v := ⟨lyV n p r w, lyV_lt hI hI hr, pmS_pos hr (fun w1 w2 => lyQ_c w1 w2) hI rfl n 0 (by omega)⟩
/-- the least of what was counted, and how often -/
def lyS (a b : Int) (n : Nat) (N : Nat → Nat) : Prop := (b = 0 ∧ ∀ v, v < n → N v = 0) ∨ ∃ v, v < n ∧ a = (v : Int) ∧ b = (N v : Int) ∧ 0 < N v ∧ ∀ u, u < v → N u = 0
theorem lyS_end {n r : Nat} {w p : Nat → Nat} {a b : Int} (hI : qInv n w p) (hr : r < n) (h : lyS a b n (lieN n w p r)) : a = (lieB n w p r : Int) ∧ b = (lieN n w p r (lieB n w p r) : Int) := by
  rcases h with h | ⟨v, h1, h2, h3, h4, h5⟩
  · obtain ⟨v, hv, hp⟩ := lie_pos hI hr
    have := h.2 v hv
    omega
  · have e : lieB n w p r = v := lst_eq h1 h4 (fun j hj => by have := h5 j hj; omega)
    rw [e]
    exact ⟨h2, h3⟩
theorem lyS_congr {a b : Int} {n : Nat} {N N2 : Nat → Nat} (h : lyS a b n N) (e : ∀ v, v < n → N v = N2 v) : lyS a b n N2 := by
  rcases h with h | ⟨v, h1, h2, h3, h4, h5⟩
  · exact Or.inl ⟨h.1, fun v hv => by rw [← e v hv]; exact h.2 v hv⟩
  · exact Or.inr ⟨v, h1, h2, by rw [← e v h1]; exact h3, by rw [← e v h1]; exact h4, fun u hu => by rw [← e u (by omega)]; exact h5 u hu⟩
/-- one more -/
theorem lyS_new {a b : Int} {n x : Nat} {N : Nat → Nat} (h : lyS a b n N) (hx : x < n) (hc : b = 0 ∨ (x : Int) < a) : lyS (x : Int) 1 n (fun v => N v + if v = x then 1 else 0) := by
  have hz : ∀ u, u ≤ x → N u = 0 := fun u hu => by
    rcases h with h | ⟨v, h1, h2, h3, h4, h5⟩
    · exact h.2 u (by omega)
    · exact h5 u (by omega)
  refine Or.inr ⟨x, hx, rfl, ?_, ?_, fun u hu => ?_⟩
  · show (1 : Int) = ((N x + if x = x then 1 else 0 : Nat) : Int)
    rw [hz x (Nat.le_refl _), if_pos rfl]; rfl
  · show 0 < N x + if x = x then 1 else 0
    rw [if_pos rfl]; omega
  · show (N u + if u = x then 1 else 0) = 0
    rw [hz u (by omega), if_neg (by omega)]
theorem lyS_same {a b : Int} {n x : Nat} {N : Nat → Nat} (h : lyS a b n N) (hb : b ≠ 0) (hc : (x : Int) = a) : lyS a (b + 1) n (fun v => N v + if v = x then 1 else 0) := by
  rcases h with h | ⟨v, h1, h2, h3, h4, h5⟩
  · exact absurd h.1 hb
  · have hv : v = x := by omega
    subst hv
    refine Or.inr ⟨v, h1, h2, ?_, ?_, fun u hu => ?_⟩
    · show b + 1 = ((N v + if v = v then 1 else 0 : Nat) : Int)
      rw [h3, if_pos rfl]; rfl
    · show 0 < N v + if v = v then 1 else 0
      rw [if_pos rfl]; omega
    · show (N u + if u = v then 1 else 0) = 0
      rw [h5 u hu, if_neg (by omega)]
theorem lyS_far {a b : Int} {n x : Nat} {N : Nat → Nat} (h : lyS a b n N) (hb : b ≠ 0) (hc : a < (x : Int)) : lyS a b n (fun v => N v + if v = x then 1 else 0) := by
  rcases h with h | ⟨v, h1, h2, h3, h4, h5⟩
  · exact absurd h.1 hb
  · refine Or.inr ⟨v, h1, h2, ?_, ?_, fun u hu => ?_⟩
    · show b = ((N v + if v = x then 1 else 0 : Nat) : Int)
      rw [if_neg (by omega)]; exact h3
    · show 0 < N v + if v = x then 1 else 0
      rw [if_neg (by omega)]; exact h4
    · show (N u + if u = x then 1 else 0) = 0
      rw [h5 u hu, if_neg (by omega)]
