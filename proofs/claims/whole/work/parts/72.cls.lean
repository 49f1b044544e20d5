/-! the orders by their numbers -/
def fct : Nat → Nat
  | 0 => 1
  | n + 1 => (n + 1) * fct n
theorem fct_pos : ∀ n, 0 < fct n
  | 0 => Nat.zero_lt_one
  | n + 1 => Nat.mul_pos (Nat.succ_pos n) (fct_pos n)
noncomputable def nthP (U : Nat → Prop) (N d : Nat) : Nat := lst (fun x => U x ∧ cnt U x = d) N
theorem cnt_up (U : Nat → Prop) {a b : Nat} (h : a ≤ b) : cnt U a ≤ cnt U b := cnt_le_le _ h
theorem nthP_at {U : Nat → Prop} {N m : Nat} (hm : m < N) (h : U m) : nthP U N (cnt U m) = m := lst_eq hm ⟨h, rfl⟩ (fun j hj q => by
  have h1 := cnt_t q.1
  have h2 := cnt_up U (show j + 1 ≤ m by omega)
  have := q.2
  omega)
theorem nthP_ok {U : Nat → Prop} {N : Nat} : ∀ {m d : Nat}, m ≤ N → d < cnt U m → nthP U N d < m ∧ U (nthP U N d) ∧ cnt U (nthP U N d) = d
  | 0, d, _, h => absurd h (Nat.not_lt_zero _)
  | m + 1, d, hm, h => by
    by_cases q : U m
    · rw [cnt_t q] at h
      by_cases e : d = cnt U m
      · rw [e, nthP_at (by omega) q]
        exact ⟨by omega, q, rfl⟩
      · have := nthP_ok (U := U) (N := N) (m := m) (d := d) (by omega) (by omega)
        exact ⟨by omega, this.2⟩
    · rw [cnt_f q] at h
      have := nthP_ok (U := U) (N := N) (m := m) (d := d) (by omega) h
      exact ⟨by omega, this.2⟩
theorem nthP_congr {U V : Nat → Prop} {N d : Nat} (h : ∀ x, x < N → (U x ↔ V x)) : nthP U N d = nthP V N d := lst_congr (fun x hx => by rw [h x hx, cnt_congr (fun j hj => h j (by omega))])
theorem sum_nth {U : Nat → Prop} {N : Nat} {g : Nat → Nat} : ∀ {m : Nat}, m ≤ N → sumN (fun x => @ite Nat (U x) (Classical.propDecidable _) (g x) 0) m = sumN (fun d => g (nthP U N d)) (cnt U m)
  | 0, _ => rfl
  | m + 1, hm => by
    show sumN _ m + (@ite Nat (U m) (Classical.propDecidable _) (g m) 0) = _
    rw [sum_nth (N := N) (m := m) (by omega)]
    by_cases q : U m
    · rw [if_pos q, cnt_t q]
      show _ = sumN (fun d => g (nthP U N d)) (cnt U m) + g (nthP U N (cnt U m))
      rw [nthP_at (by omega) q]
    · rw [if_neg q, cnt_f q, Nat.add_zero]
theorem sumN_ap {f : Nat → Nat} {a : Nat} : ∀ {b : Nat}, sumN f (a + b) = sumN f a + sumN (fun j => f (a + j)) b
  | 0 => rfl
  | b + 1 => by
    show sumN f (a + b) + f (a + b) = sumN f a + (sumN (fun j => f (a + j)) b + f (a + b))
    rw [sumN_ap (b := b)]
    omega
theorem sum_dm {G : Nat → Nat → Nat} {f : Nat} (hf : 0 < f) : ∀ {R : Nat}, sumN (fun q => G (q % f) (q / f)) (f * R) = sumN (fun d => sumN (fun r => G d r) R) f
  | 0 => (sumN_z (f := fun d => sumN (fun r => G d r) 0) (fun _ _ => rfl)).symm
  | R + 1 => by
    rw [Nat.mul_succ, sumN_ap, sum_dm hf (R := R)]
    have e : sumN (fun j => G ((f * R + j) % f) ((f * R + j) / f)) f = sumN (fun d => G d R) f := sumN_congr (fun j hj => by
      rw [Nat.mul_add_mod, Nat.mod_eq_of_lt hj, Nat.mul_add_div hf, Nat.div_eq_of_lt hj, Nat.add_zero])
    rw [e, ← sumN_ad]
    rfl
theorem cnt_del {U : Nat → Prop} {a : Nat} : ∀ {n : Nat}, a < n → U a → cnt (fun x => U x ∧ x ≠ a) n + 1 = cnt U n
  | 0, h, _ => absurd h (Nat.not_lt_zero _)
  | n + 1, h, hU => by
    by_cases q : a = n
    · subst q
      rw [cnt_t hU, cnt_f (fun z => z.2 rfl)]
      congr 1
      exact cnt_congr (fun j hj => ⟨fun z => z.1, fun z => ⟨z, by omega⟩⟩)
    · have ih := cnt_del (U := U) (a := a) (n := n) (by omega) hU
      by_cases z : U n
      · rw [cnt_t z, cnt_t ⟨z, fun e => q e.symm⟩]
        omega
      · rw [cnt_f z, cnt_f (fun e => z e.1)]
        exact ih
def unq (r k : Nat) (w : Nat → Nat) : Nat → Prop := fun x => ∀ j, j < k → w (ix 1 r j) ≠ x
def prq (n r k : Nat) (w : Nat → Nat) : Prop := (∀ j, j < k → w (ix 1 r j) < n) ∧ ∀ i j, i < j → j < k → w (ix 1 r i) ≠ w (ix 1 r j)
theorem unq_cnt {n r : Nat} {w : Nat → Nat} : ∀ {k : Nat}, prq n r k w → cnt (unq r k w) n + k = n
  | 0, _ => by
    have : ∀ m, cnt (unq r 0 w) m = m := fun m => by
      induction m with
      | zero => rfl
      | succ m ih => rw [cnt_t (fun j hj => absurd hj (Nat.not_lt_zero _)), ih]
    rw [this]; rfl
  | k + 1, h => by
    have ih := unq_cnt (n := n) (r := r) (w := w) (k := k) ⟨fun j hj => h.1 j (by omega), fun i j hi hj => h.2 i j hi (by omega)⟩
    have hd := cnt_del (U := unq r k w) (a := w (ix 1 r k)) (h.1 k (by omega)) (fun j hj => h.2 j k hj (by omega))
    have e : cnt (unq r (k + 1) w) n = cnt (fun x => unq r k w x ∧ x ≠ w (ix 1 r k)) n := cnt_congr (fun x _ => ⟨fun q => ⟨fun j hj => q j (by omega), fun e => q k (by omega) e.symm⟩, fun q j hj => by
      by_cases hjk : j = k
      · rw [hjk]; exact fun e => q.2 e.symm
      · exact q.1 j (by omega)⟩)
    omega
noncomputable def arL (n r : Nat) : Nat → Nat → Nat → (Nat → Nat) → (Nat → Nat)
  | 0, _, _, w => w
  | m + 1, k, q, w => arL n r m (k + 1) (q / (m + 1)) (updF w (ix 1 r k) (nthP (unq r k w) n (q % (m + 1))))
theorem prq_up {n r k x : Nat} {w : Nat → Nat} (h : prq n r k w) (hx : x < n) (hu : unq r k w x) : prq n r (k + 1) (updF w (ix 1 r k) x) := by
  have e : ∀ j, j < k → updF w (ix 1 r k) x (ix 1 r j) = w (ix 1 r j) := fun j hj => uF_k (by unfold ix; omega)
  refine ⟨fun j hj => ?_, fun i j hi hj => ?_⟩
  · by_cases hjk : j = k
    · rw [hjk, uF_s]; exact hx
    · rw [e j (by omega)]; exact h.1 j (by omega)
  · rw [e i (by omega)]
    by_cases hjk : j = k
    · rw [hjk, uF_s]; exact hu i (by omega)
    · rw [e j (by omega)]; exact h.2 i j hi (by omega)
theorem prq_nth {n r k m q : Nat} {w : Nat → Nat} (h : prq n r k w) (hk : k + (m + 1) = n) : nthP (unq r k w) n (q % (m + 1)) < n ∧ unq r k w (nthP (unq r k w) n (q % (m + 1))) := by
  have hc := unq_cnt h
  have hq : q % (m + 1) < m + 1 := Nat.mod_lt _ (Nat.succ_pos m)
  have := nthP_ok (U := unq r k w) (N := n) (m := n) (d := q % (m + 1)) (Nat.le_refl _) (by omega)
  exact ⟨this.1, this.2.1⟩
/-- each order once -/
theorem arL_sum {F : (Nat → Nat) → Prop} {n r : Nat} : ∀ (m k : Nat) (w : Nat → Nat), k + m = n → prq n r k w → sumN (fun q => @ite Nat (F (arL n r m k q w)) (Classical.propDecidable _) 1 0) (fct m) = pmS F n r m k w
  | 0, k, w, _, _ => by
    show 0 + _ = _
    rw [Nat.zero_add]
    rfl
  | m + 1, k, w, hk, hp => by
    have e1 : sumN (fun q => @ite Nat (F (arL n r (m + 1) k q w)) (Classical.propDecidable _) 1 0) (fct (m + 1)) = sumN (fun d => sumN (fun q => @ite Nat (F (arL n r m (k + 1) q (updF w (ix 1 r k) (nthP (unq r k w) n d)))) (Classical.propDecidable _) 1 0) (fct m)) (m + 1) :=
      sum_dm (G := fun d q => @ite Nat (F (arL n r m (k + 1) q (updF w (ix 1 r k) (nthP (unq r k w) n d)))) (Classical.propDecidable _) 1 0) (Nat.succ_pos m)
    have hc := unq_cnt hp
    have e2 : sumN (fun d => sumN (fun q => @ite Nat (F (arL n r m (k + 1) q (updF w (ix 1 r k) (nthP (unq r k w) n d)))) (Classical.propDecidable _) 1 0) (fct m)) (m + 1) = sumN (fun d => pmS F n r m (k + 1) (updF w (ix 1 r k) (nthP (unq r k w) n d))) (m + 1) := sumN_congr (fun d hd => by
      have := nthP_ok (U := unq r k w) (N := n) (m := n) (d := d) (Nat.le_refl _) (by omega)
      exact arL_sum m (k + 1) _ (by omega) (prq_up hp this.1 this.2.1))
    rw [e1, e2]
    have e3 := sum_nth (U := unq r k w) (N := n) (g := fun x => pmS F n r m (k + 1) (updF w (ix 1 r k) x)) (m := n) (Nat.le_refl _)
    rw [show cnt (unq r k w) n = m + 1 by omega] at e3
    rw [← e3]
    rfl
/-- the rest stays, the list is an order -/
theorem arL_o {n r : Nat} : ∀ (m k q : Nat) (w : Nat → Nat) {y : Nat}, k + m = n → n ≤ 8 → y / 8 ≠ 8 + r → arL n r m k q w y = w y
  | 0, k, q, w, y, _, _, _ => rfl
  | m + 1, k, q, w, y, hk, h8, hy => by
    show arL n r m (k + 1) (q / (m + 1)) (updF w (ix 1 r k) _) y = w y
    rw [arL_o m (k + 1) _ _ (by omega) h8 hy]
    exact uF_k (fun e => hy (by rw [e]; unfold ix; omega))
theorem arL_pre {n r : Nat} : ∀ (m k q : Nat) (w : Nat → Nat) {j : Nat}, j < k → arL n r m k q w (ix 1 r j) = w (ix 1 r j)
  | 0, k, q, w, j, _ => rfl
  | m + 1, k, q, w, j, hj => by
    show arL n r m (k + 1) (q / (m + 1)) (updF w (ix 1 r k) _) (ix 1 r j) = w (ix 1 r j)
    rw [arL_pre m (k + 1) _ _ (by omega)]
    exact uF_k (by unfold ix; omega)
theorem arL_prq {n r : Nat} : ∀ (m k q : Nat) (w : Nat → Nat), k + m = n → prq n r k w → prq n r n (arL n r m k q w)
  | 0, k, q, w, hk, hp => by
    have : k = n := by omega
    subst this
    exact hp
  | m + 1, k, q, w, hk, hp => arL_prq m (k + 1) _ _ (by omega) (prq_up hp (prq_nth hp hk).1 (prq_nth hp hk).2)
noncomputable def arP (n r : Nat) (w p : Nat → Nat) : Nat → Nat := fun y => if y / 8 = 8 + r then lst (fun k => w (ix 1 r k) = y % 8) n else p y
theorem qInv_ar {n r q : Nat} {w p : Nat → Nat} (hI : qInv n w p) (hr : r < n) : qInv n (arL n r n 0 q w) (arP n r (arL n r n 0 q w) p) := by
  have h8 := hI.2.1
  have hP := arL_prq (n := n) (r := r) n 0 q w (by omega) ⟨fun j hj => absurd hj (Nat.not_lt_zero _), fun i j _ hj => absurd hj (Nat.not_lt_zero _)⟩
  refine ⟨hI.1, h8, fun s a hs ha k hk => ?_⟩
  have hd : ∀ j, j < 8 → ix s a j / 8 = 8 * s + a ∧ ix s a j % 8 = j := fun j hj => by unfold ix; omega
  by_cases c : 8 * s + a = 8 + r
  · have es : s = 1 ∧ a = r := by omega
    obtain ⟨rfl, rfl⟩ := es
    have ep : ∀ j, j < n → arP n a (arL n a n 0 q w) p (ix 1 a j) = lst (fun k => arL n a n 0 q w (ix 1 a k) = j) n := fun j hj => by
      have := hd j (by omega)
      unfold arP
      rw [if_pos (by omega), this.2]
    have inj : ∀ i j, i < n → j < n → arL n a n 0 q w (ix 1 a i) = arL n a n 0 q w (ix 1 a j) → i = j := fun i j hi hj e => by
      rcases Nat.lt_trichotomy i j with z | z | z
      · exact absurd e (hP.2 i j z hj)
      · exact z
      · exact absurd e.symm (hP.2 j i z hi)
    have hx : lst (fun j => arL n a n 0 q w (ix 1 a j) = k) n < n := by
      obtain ⟨j, hj, e⟩ := pigeon n (fun j => arL n a n 0 q w (ix 1 a j)) (fun j hj => hP.1 j hj) inj k hk
      rcases Nat.lt_or_ge (lst (fun j => arL n a n 0 q w (ix 1 a j) = k) n) n with z | z
      · exact z
      · exact absurd e (lst_not (P := fun j => arL n a n 0 q w (ix 1 a j) = k) (N := n) (show j < _ by omega))
    refine ⟨hP.1 k hk, ?_, by rw [ep k hk]; exact hx, ?_⟩
    · rw [ep _ (hP.1 k hk)]
      exact lst_eq hk rfl (fun j hj e => by have := inj j k (by omega) hk e; omega)
    · rw [ep k hk]
      exact lst_P (P := fun j => arL n a n 0 q w (ix 1 a j) = k) hx
  · have ew : ∀ j, j < 8 → arL n r n 0 q w (ix s a j) = w (ix s a j) := fun j hj => by
      have := hd j hj
      exact arL_o n 0 q w (by omega) h8 (by omega)
    have ep : ∀ j, j < 8 → arP n r (arL n r n 0 q w) p (ix s a j) = p (ix s a j) := fun j hj => by
      have := hd j hj
      unfold arP
      rw [if_neg (by omega)]
    have g := hI.2.2 s a hs ha k hk
    rw [ew k (by omega), ep _ (by omega), ep k (by omega), ew _ (by omega)]
    exact g
