
/-! all turns: the matches from the lefts' best on, what each turn needs, the closed sets -/
noncomputable def ldr (n : Nat) (w p u v : Nat → Nat) : Nat := lst (cyc (fo n w p u v)) n
noncomputable def rM (n : Nat) (w p : Nat → Nat) : Nat → (Nat → Nat) × (Nat → Nat)
  | 0 => (ginv n (gH n w p 0), gH n w p 0)
  | t + 1 => if ldr n w p (rM n w p t).1 (rM n w p t).2 < n then (doU n w p (rM n w p t).1 (rM n w p t).2 (ldr n w p (rM n w p t).1 (rM n w p t).2), doV n w p (rM n w p t).1 (rM n w p t).2 (ldr n w p (rM n w p t).1 (rM n w p t).2)) else rM n w p t
noncomputable def rU (n : Nat) (w p : Nat → Nat) (t : Nat) : Nat → Nat := (rM n w p t).1
noncomputable def rV (n : Nat) (w p : Nat → Nat) (t : Nat) : Nat → Nat := (rM n w p t).2
noncomputable def rF (n : Nat) (w p : Nat → Nat) (t : Nat) : Nat → Nat := fo n w p (rU n w p t) (rV n w p t)
noncomputable def rX (n : Nat) (w p : Nat → Nat) (t : Nat) : Nat → Nat := nxr n w p (rU n w p t) (rV n w p t)
noncomputable def rL (n : Nat) (w p : Nat → Nat) (t : Nat) : Nat := ldr n w p (rU n w p t) (rV n w p t)
noncomputable def rT (n : Nat) (w p : Nat → Nat) : Nat := lst (fun t => rL n w p t = n) 29
theorem rM_pos {n : Nat} {w p : Nat → Nat} {t : Nat} (h : rL n w p t < n) : rM n w p (t + 1) = (doU n w p (rU n w p t) (rV n w p t) (rL n w p t), doV n w p (rU n w p t) (rV n w p t) (rL n w p t)) := if_pos h
theorem rM_neg {n : Nat} {w p : Nat → Nat} {t : Nat} (h : ¬ rL n w p t < n) : rM n w p (t + 1) = rM n w p t := if_neg h
theorem rUV_neg {n : Nat} {w p : Nat → Nat} {t : Nat} (h : ¬ rL n w p t < n) : rU n w p (t + 1) = rU n w p t ∧ rV n w p (t + 1) = rV n w p t := by
  unfold rU rV
  rw [rM_neg h]
  exact ⟨rfl, rfl⟩
/-- a left is one of a turn -/
def rIn (n : Nat) (w p : Nat → Nat) (t a : Nat) : Prop := inC (rF n w p t) (rL n w p t) a
theorem r_qMt {n : Nat} {w p : Nat → Nat} (hI : qInv n w p) : ∀ t, qMt n (rU n w p t) (rV n w p t)
  | 0 => (qMt_best hI).1
  | t + 1 => by
    have ih := r_qMt hI t
    by_cases h : rL n w p t < n
    · unfold rU rV
      rw [rM_pos h]
      exact (do_spec hI ih h (lst_P (P := cyc (rF n w p t)) h)).1
    · rw [(rUV_neg h).1, (rUV_neg h).2]
      exact ih
theorem r_lt {n : Nat} {w p : Nat → Nat} {t : Nat} (h : t < rT n w p) : rL n w p t < n ∧ cyc (rF n w p t) (rL n w p t) := by
  have h1 := lst_not (P := fun t => rL n w p t = n) h
  have h2 : rL n w p t ≤ n := lst_le _ _
  have h3 : rL n w p t < n := by omega
  exact ⟨h3, lst_P (P := cyc (rF n w p t)) h3⟩
theorem r_step {n : Nat} {w p : Nat → Nat} {t : Nat} (h : rL n w p t < n) : rU n w p (t + 1) = doU n w p (rU n w p t) (rV n w p t) (rL n w p t) ∧ rV n w p (t + 1) = doV n w p (rU n w p t) (rV n w p t) (rL n w p t) := by
  have e := rM_pos h
  exact ⟨congrArg Prod.fst e, congrArg Prod.snd e⟩
/-- a turn done: its lefts have their next, all others what they had -/
theorem r_in {n : Nat} {w p : Nat → Nat} (hI : qInv n w p) {t a : Nat} (ht : rL n w p t < n) (h : rIn n w p t a) : a < n ∧ rF n w p t a ≠ 9 ∧ rU n w p (t + 1) a = rX n w p t a ∧ rV n w p (t + 1) (rX n w p t a) = a ∧ rX n w p t a < n ∧ rV n w p t (rX n w p t a) = rF n w p t a ∧ rU n w p t (rF n w p t a) = rX n w p t a ∧ p (ix 0 a (rU n w p t a)) < p (ix 0 a (rX n w p t a)) ∧ p (ix 1 (rX n w p t a) a) < p (ix 1 (rX n w p t a) (rV n w p t (rX n w p t a))) ∧ ∀ r, r < n → p (ix 0 a (rU n w p t a)) < p (ix 0 a r) → p (ix 0 a r) < p (ix 0 a (rX n w p t a)) → p (ix 1 r (rV n w p t r)) < p (ix 1 r a) := by
  have hc : cyc (rF n w p t) (rL n w p t) := lst_P (P := cyc (rF n w p t)) ht
  have hm := r_qMt hI t
  have hd := (do_spec hI hm ht hc).2.1 a h
  have hx := nx_spec hI hm hd.1 hd.2.1
  have hs := r_step ht
  exact ⟨hd.1, hd.2.1, by rw [hs.1]; exact hd.2.2.1, by rw [hs.2]; exact hd.2.2.2, hx⟩
theorem r_out {n : Nat} {w p : Nat → Nat} (hI : qInv n w p) {t a : Nat} (h : ¬ rIn n w p t a) : rU n w p (t + 1) a = rU n w p t a := by
  by_cases ht : rL n w p t < n
  · have hc : cyc (rF n w p t) (rL n w p t) := lst_P (P := cyc (rF n w p t)) ht
    rw [(r_step ht).1]
    exact (do_spec hI (r_qMt hI t) ht hc).2.2.1 a h
  · rw [(rUV_neg ht).1]
theorem r_outV {n : Nat} {w p : Nat → Nat} (hI : qInv n w p) {t b : Nat} (h : ¬ rIn n w p t (rV n w p t b)) : rV n w p (t + 1) b = rV n w p t b := by
  by_cases ht : rL n w p t < n
  · have hc : cyc (rF n w p t) (rL n w p t) := lst_P (P := cyc (rF n w p t)) ht
    rw [(r_step ht).2]
    exact (do_spec hI (r_qMt hI t) ht hc).2.2.2.1 b h
  · rw [(rUV_neg ht).2]
theorem r_inV {n : Nat} {w p : Nat → Nat} (hI : qInv n w p) {t b : Nat} (ht : rL n w p t < n) (hb : b < n) (h : rIn n w p t (rV n w p t b)) : rIn n w p t (rV n w p (t + 1) b) ∧ rX n w p t (rV n w p (t + 1) b) = b ∧ p (ix 1 b (rV n w p (t + 1) b)) < p (ix 1 b (rV n w p t b)) := by
  have hc : cyc (rF n w p t) (rL n w p t) := lst_P (P := cyc (rF n w p t)) ht
  have hm := r_qMt hI t
  obtain ⟨a, h1, h2, h3⟩ := (do_spec hI hm ht hc).2.2.2.2 b hb h
  have e : rV n w p (t + 1) b = a := by rw [(r_step ht).2]; exact h3
  rw [e]
  have h4 := (r_in hI ht h1).2.2.2.2.2.2.2.2.1
  rw [show rX n w p t a = b from h2] at h4
  exact ⟨h1, h2, h4⟩
theorem r_monoU1 {n : Nat} {w p : Nat → Nat} (hI : qInv n w p) (t a : Nat) : p (ix 0 a (rU n w p t a)) ≤ p (ix 0 a (rU n w p (t + 1) a)) := by
  by_cases ht : rL n w p t < n
  · by_cases h : rIn n w p t a
    · have := r_in hI ht h
      rw [this.2.2.1]
      exact Nat.le_of_lt this.2.2.2.2.2.2.2.1
    · rw [r_out hI h]; exact Nat.le_refl _
  · rw [(rUV_neg ht).1]; exact Nat.le_refl _
theorem r_monoU {n : Nat} {w p : Nat → Nat} (hI : qInv n w p) (a t : Nat) : ∀ d, p (ix 0 a (rU n w p t a)) ≤ p (ix 0 a (rU n w p (t + d) a))
  | 0 => Nat.le_refl _
  | d + 1 => Nat.le_trans (r_monoU hI a t d) (r_monoU1 hI (t + d) a)
theorem r_monoUle {n : Nat} {w p : Nat → Nat} (hI : qInv n w p) (a : Nat) {t s : Nat} (h : t ≤ s) : p (ix 0 a (rU n w p t a)) ≤ p (ix 0 a (rU n w p s a)) := by
  have := r_monoU hI a t (s - t)
  rw [show t + (s - t) = s by omega] at this
  exact this
/-- a left that is moved goes down its list for good -/
theorem r_strU {n : Nat} {w p : Nat → Nat} (hI : qInv n w p) {a t s x : Nat} (hx : x < rT n w p) (h : rIn n w p x a) (h1 : t ≤ x) (h2 : x < s) : p (ix 0 a (rU n w p t a)) < p (ix 0 a (rU n w p s a)) := by
  have a1 := r_monoUle hI a h1
  have a2 := r_in hI (r_lt hx).1 h
  have a3 := r_monoUle hI a (show x + 1 ≤ s by omega)
  rw [a2.2.2.1] at a3
  have := a2.2.2.2.2.2.2.2.1
  omega
theorem r_sameU {n : Nat} {w p : Nat → Nat} (hI : qInv n w p) {a t : Nat} : ∀ d, (∀ x, t ≤ x → x < t + d → ¬ rIn n w p x a) → rU n w p (t + d) a = rU n w p t a
  | 0, _ => rfl
  | d + 1, h => by
    rw [show t + (d + 1) = t + d + 1 by omega, r_out hI (h (t + d) (by omega) (by omega))]
    exact r_sameU hI d (fun x h1 h2 => h x h1 (by omega))
theorem r_monoV1 {n : Nat} {w p : Nat → Nat} (hI : qInv n w p) (t : Nat) {b : Nat} (hb : b < n) : p (ix 1 b (rV n w p (t + 1) b)) ≤ p (ix 1 b (rV n w p t b)) := by
  by_cases ht : rL n w p t < n
  · by_cases h : rIn n w p t (rV n w p t b)
    · exact Nat.le_of_lt (r_inV hI ht hb h).2.2
    · rw [r_outV hI h]; exact Nat.le_refl _
  · rw [(rUV_neg ht).2]; exact Nat.le_refl _
theorem r_monoV {n : Nat} {w p : Nat → Nat} (hI : qInv n w p) {b : Nat} (hb : b < n) (t : Nat) : ∀ d, p (ix 1 b (rV n w p (t + d) b)) ≤ p (ix 1 b (rV n w p t b))
  | 0 => Nat.le_refl _
  | d + 1 => Nat.le_trans (r_monoV1 hI (t + d) hb) (r_monoV hI hb t d)
theorem r_monoVle {n : Nat} {w p : Nat → Nat} (hI : qInv n w p) {b : Nat} (hb : b < n) {t s : Nat} (h : t ≤ s) : p (ix 1 b (rV n w p s b)) ≤ p (ix 1 b (rV n w p t b)) := by
  have := r_monoV hI hb t (s - t)
  rw [show t + (s - t) = s by omega] at this
  exact this
theorem r_sameV {n : Nat} {w p : Nat → Nat} (hI : qInv n w p) {b t : Nat} : ∀ d, (∀ x, t ≤ x → x < t + d → ¬ rIn n w p x (rV n w p x b)) → rV n w p (t + d) b = rV n w p t b
  | 0, _ => rfl
  | d + 1, h => by
    rw [show t + (d + 1) = t + d + 1 by omega, r_outV hI (h (t + d) (by omega) (by omega))]
    exact r_sameV hI d (fun x h1 h2 => h x h1 (by omega))
/-- the latest of the numbers below t with P -/
theorem latest {P : Nat → Prop} : ∀ {t u : Nat}, u < t → P u → ∃ x, u ≤ x ∧ x < t ∧ P x ∧ ∀ y, x < y → y < t → ¬ P y
  | 0, _, h, _ => absurd h (Nat.not_lt_zero _)
  | t + 1, u, h, hu => by
    by_cases ht : P t
    · exact ⟨t, by omega, by omega, ht, fun y h1 h2 => absurd h2 (by omega)⟩
    · obtain ⟨x, h1, h2, h3, h4⟩ := latest (t := t) (by rcases Nat.lt_or_ge u t with q | q; exact q; exact absurd (by rw [show t = u by omega]; exact hu) ht) hu
      refine ⟨x, h1, by omega, h3, fun y h5 h6 => ?_⟩
      by_cases hy : y = t
      · rw [hy]; exact ht
      · exact h4 y h5 (by omega)
/-- what a turn needs at once: who brought one of its lefts to where it is; by whom a right that is passed over came past it -/
def rD (n : Nat) (w p : Nat → Nat) (t u : Nat) : Prop := t < rT n w p ∧ u < t ∧ ((∃ l, rIn n w p t l ∧ rIn n w p u l ∧ ∀ x, u < x → x < t → ¬ rIn n w p x l) ∨ ∃ l r, r < n ∧ rIn n w p t l ∧ p (ix 0 l (rU n w p t l)) < p (ix 0 l r) ∧ p (ix 0 l r) < p (ix 0 l (rX n w p t l)) ∧ p (ix 1 r (rV n w p (u + 1) r)) < p (ix 1 r l) ∧ p (ix 1 r l) < p (ix 1 r (rV n w p u r)))
/-- and all that those need -/
def rNd (n : Nat) (w p : Nat → Nat) (t u : Nat) : Prop := ∀ R : Nat → Nat → Prop, (∀ t v, rD n w p t v → R t v) → (∀ t v u, rD n w p t v → R v u → R t u) → R t u
theorem Nd_D {n : Nat} {w p : Nat → Nat} {t u : Nat} (h : rD n w p t u) : rNd n w p t u := fun _ h1 _ => h1 _ _ h
theorem Nd_DN {n : Nat} {w p : Nat → Nat} {t v u : Nat} (h : rD n w p t v) (h2 : rNd n w p v u) : rNd n w p t u := fun R h1 h3 => h3 _ _ _ h (h2 R h1 h3)
theorem Nd_lt {n : Nat} {w p : Nat → Nat} {t u : Nat} (h : rNd n w p t u) : u < t ∧ t < rT n w p := h (fun t u => u < t ∧ t < rT n w p) (fun _ _ h => ⟨h.2.1, h.1⟩) (fun t v u h1 h2 => ⟨Nat.lt_trans h2.1 h1.2.1, h1.1⟩)
theorem Nd_trans {n : Nat} {w p : Nat → Nat} {t u x : Nat} (h : rNd n w p t u) (h2 : rNd n w p u x) : rNd n w p t x := h (fun t u => ∀ x, rNd n w p u x → rNd n w p t x) (fun _ _ h x hx => Nd_DN h hx) (fun _ _ _ h1 h2 x hx => Nd_DN h1 (h2 x hx)) x h2
theorem Nd_inv {n : Nat} {w p : Nat → Nat} {t u : Nat} (h : rNd n w p t u) : ∃ v, rD n w p t v ∧ (v = u ∨ rNd n w p v u) := h (fun t u => ∃ v, rD n w p t v ∧ (v = u ∨ rNd n w p v u)) (fun _ v h => ⟨v, h, Or.inl rfl⟩) (fun t v u h1 h2 => by
  obtain ⟨x, h3, h4⟩ := h2
  refine ⟨v, h1, Or.inr ?_⟩
  rcases h4 with rfl | h4
  · exact Nd_D h3
  · exact Nd_DN h3 h4)
/-- of two turns with one left in common the later one needs the earlier one -/
theorem Nd_left {n : Nat} {w p : Nat → Nat} : ∀ (t u a : Nat), t < rT n w p → u < t → rIn n w p t a → rIn n w p u a → rNd n w p t u := by
  intro t
  induction t using Nat.strongRecOn with
  | _ t ih =>
    intro u a ht hu h1 h2
    obtain ⟨x, hx1, hx2, hx3, hx4⟩ := latest (P := fun x => rIn n w p x a) hu h2
    have hd : rD n w p t x := ⟨ht, hx2, Or.inl ⟨a, h1, hx3, hx4⟩⟩
    by_cases hxu : u = x
    · rw [hxu]; exact Nd_D hd
    · exact Nd_DN hd (ih x hx2 u a (by omega) (by omega) hx3 h2)
/-- the same of rights -/
theorem Nd_right {n : Nat} {w p : Nat → Nat} (hI : qInv n w p) : ∀ (t u b : Nat), t < rT n w p → u < t → b < n → rIn n w p t (rV n w p t b) → rIn n w p u (rV n w p u b) → rNd n w p t u := by
  intro t
  induction t using Nat.strongRecOn with
  | _ t ih =>
    intro u b ht hu hb h1 h2
    obtain ⟨x, hx1, hx2, hx3, hx4⟩ := latest (P := fun x => rIn n w p x (rV n w p x b)) hu h2
    have e : rV n w p t b = rV n w p (x + 1) b := by
      have := r_sameV hI (b := b) (t := x + 1) (t - (x + 1)) (fun y h3 h4 => hx4 y (by omega) (by omega))
      rw [show x + 1 + (t - (x + 1)) = t by omega] at this
      exact this
    have hin := (r_inV hI (r_lt (show x < rT n w p by omega)).1 hb hx3).1
    rw [e] at h1
    have hn := Nd_left t x _ ht hx2 h1 hin
    by_cases hxu : u = x
    · rw [hxu]; exact hn
    · exact Nd_trans hn (ih x hx2 u b (by omega) (by omega) hb hx3 h2)
/-- closed sets of turns -/
def rId (n : Nat) (w p : Nat → Nat) (S : Nat → Prop) : Prop := (∀ t, S t → t < rT n w p) ∧ ∀ t u, S t → rNd n w p t u → S u
noncomputable def rf (n : Nat) (w p : Nat → Nat) (S : Nat → Prop) (a : Nat) : Nat := lst (fun t => rIn n w p t a ∧ ¬ S t) (rT n w p)
noncomputable def rg (n : Nat) (w p : Nat → Nat) (S : Nat → Prop) (b : Nat) : Nat := lst (fun t => rIn n w p t (rV n w p t b) ∧ ¬ S t) (rT n w p)
noncomputable def mU (n : Nat) (w p : Nat → Nat) (S : Nat → Prop) (a : Nat) : Nat := rU n w p (rf n w p S a) a
noncomputable def mV (n : Nat) (w p : Nat → Nat) (S : Nat → Prop) (b : Nat) : Nat := rV n w p (rg n w p S b) b
theorem f_le {n : Nat} {w p : Nat → Nat} {S : Nat → Prop} {a : Nat} : rf n w p S a ≤ rT n w p := lst_le _ _
theorem g_le {n : Nat} {w p : Nat → Nat} {S : Nat → Prop} {b : Nat} : rg n w p S b ≤ rT n w p := lst_le _ _
theorem f_not {n : Nat} {w p : Nat → Nat} {S : Nat → Prop} {a t : Nat} (h : t < rf n w p S a) (h2 : rIn n w p t a) : S t := Classical.byContradiction fun z => lst_not (P := fun t => rIn n w p t a ∧ ¬ S t) h ⟨h2, z⟩
theorem f_at {n : Nat} {w p : Nat → Nat} {S : Nat → Prop} {a : Nat} (h : rf n w p S a < rT n w p) : rIn n w p (rf n w p S a) a ∧ ¬ S (rf n w p S a) := lst_P (P := fun t => rIn n w p t a ∧ ¬ S t) h
theorem g_not {n : Nat} {w p : Nat → Nat} {S : Nat → Prop} {b t : Nat} (h : t < rg n w p S b) (h2 : rIn n w p t (rV n w p t b)) : S t := Classical.byContradiction fun z => lst_not (P := fun t => rIn n w p t (rV n w p t b) ∧ ¬ S t) h ⟨h2, z⟩
theorem g_at {n : Nat} {w p : Nat → Nat} {S : Nat → Prop} {b : Nat} (h : rg n w p S b < rT n w p) : rIn n w p (rg n w p S b) (rV n w p (rg n w p S b) b) ∧ ¬ S (rg n w p S b) := lst_P (P := fun t => rIn n w p t (rV n w p t b) ∧ ¬ S t) h
theorem f_eq {n : Nat} {w p : Nat → Nat} {S : Nat → Prop} {a t : Nat} (ht : t < rT n w p) (h : rIn n w p t a) (h2 : ¬ S t) (h3 : ∀ x, x < t → rIn n w p x a → S x) : rf n w p S a = t := lst_eq ht ⟨h, h2⟩ (fun x hx z => z.2 (h3 x hx z.1))
theorem m_inv {n : Nat} {w p : Nat → Nat} (hI : qInv n w p) {S : Nat → Prop} (hS : rId n w p S) {a : Nat} (ha : a < n) : mU n w p S a < n ∧ mV n w p S (mU n w p S a) = a := by
  have hmt := (r_qMt hI (rf n w p S a)).1 a ha
  have hb : mU n w p S a < n := hmt.1
  refine ⟨hb, ?_⟩
  have hVb : rV n w p (rf n w p S a) (mU n w p S a) = a := hmt.2
  have key : rg n w p S (mU n w p S a) = rf n w p S a := by
    generalize mU n w p S a = b at *
    -- an earlier turn of the right outside of S can't be
    have no : ∀ u, u < rf n w p S a → rIn n w p u (rV n w p u b) → S u := by
      intro u hu h1
      have hfT := f_le (n := n) (w := w) (p := p) (S := S) (a := a)
      obtain ⟨x, hx1, hx2, hx3, hx4⟩ := latest (P := fun x => rIn n w p x (rV n w p x b)) hu h1
      have e : rV n w p (rf n w p S a) b = rV n w p (x + 1) b := by
        have := r_sameV hI (b := b) (t := x + 1) (rf n w p S a - (x + 1)) (fun y h3 h4 => hx4 y (by omega) (by omega))
        rw [show x + 1 + (rf n w p S a - (x + 1)) = rf n w p S a by omega] at this
        exact this
      have hin := (r_inV hI (r_lt (show x < rT n w p by omega)).1 hb hx3).1
      rw [← e, hVb] at hin
      have hSx := f_not hx2 hin
      by_cases hxu : u = x
      · rw [hxu]; exact hSx
      · exact hS.2 x u hSx (Nd_right hI x u b (by omega) (by omega) hb hx3 h1)
    by_cases hfT : rf n w p S a < rT n w p
    · have hf := f_at hfT
      exact lst_eq hfT ⟨by rw [hVb]; exact hf.1, hf.2⟩ (fun u hu z => z.2 (no u hu z.1))
    · have hfe : rf n w p S a = rT n w p := by have := f_le (n := n) (w := w) (p := p) (S := S) (a := a); omega
      rw [hfe] at no ⊢
      exact lst_none (fun u hu z => z.2 (no u hu z.1))
  unfold mV
  rw [key]
  exact hVb
theorem m_qMt {n : Nat} {w p : Nat → Nat} (hI : qInv n w p) {S : Nat → Prop} (hS : rId n w p S) : qMt n (mU n w p S) (mV n w p S) := by
  refine ⟨fun a ha => m_inv hI hS ha, fun b hb => ?_⟩
  obtain ⟨a, ha, e⟩ := pigeon n (mU n w p S) (fun a ha => (m_inv hI hS ha).1) (fun a c ha hc z => by rw [← (m_inv hI hS ha).2, z, (m_inv hI hS hc).2]) b hb
  have := (m_inv hI hS ha).2
  rw [e] at this
  rw [this]
  exact ⟨ha, e⟩
/-- a turn outside of S, all that it needs in S, is exposed in S's match, with its pairs -/
theorem m_ready {n : Nat} {w p : Nat → Nat} (hI : qInv n w p) {S : Nat → Prop} (hS : rId n w p S) {t : Nat} (ht : t < rT n w p) (hn : ¬ S t) (hr : ∀ u, rNd n w p t u → S u) {a : Nat} (ha : rIn n w p t a) : mU n w p S a = rU n w p t a ∧ nxr n w p (mU n w p S) (mV n w p S) a = rX n w p t a ∧ fo n w p (mU n w p S) (mV n w p S) a = rF n w p t a := by
  have hU : ∀ a, rIn n w p t a → mU n w p S a = rU n w p t a := fun a ha => by
    unfold mU
    rw [f_eq ht ha hn (fun x hx hxa => hr x (Nd_left t x a ht hx ha hxa))]
  obtain ⟨h1, h2, h3, h4, h5, h6, h7, h8, h9, h10⟩ := r_in hI (r_lt ht).1 ha
  have hFin : rIn n w p t (rF n w p t a) := inC_f ha
  have hVx : mV n w p S (rX n w p t a) = rF n w p t a := by
    have e := hU _ hFin
    rw [h7] at e
    have hFn := (r_in hI (r_lt ht).1 hFin).1
    rw [← e]
    exact (m_inv hI hS hFn).2
  have hni := nx_intro (u := mU n w p S) (v := mV n w p S) hI h1 h5 (by rw [hU a ha]; exact h8) (by rw [hVx, ← h6]; exact h9) (fun r hr2 q1 q2 => by
    rw [hU a ha] at q1
    have hle := h10 r hr2 q1 q2
    -- who has r in S's match
    show p (ix 1 r (mV n w p S r)) ≤ p (ix 1 r a)
    by_cases hgt : t ≤ rg n w p S r
    · have := r_monoVle hI hr2 hgt
      unfold mV
      omega
    · have hgt2 : rg n w p S r < t := by omega
      have hgT : rg n w p S r < rT n w p := by omega
      obtain ⟨g1, g2⟩ := g_at hgT
      unfold mV
      rcases Nat.lt_or_ge (p (ix 1 r a)) (p (ix 1 r (rV n w p (rg n w p S r) r))) with hlt | hge
      · exfalso
        -- between the two times r comes past a
        have hdown : ∀ y, y ≤ t → rV n w p y r ≠ a := fun y hy z => by
          have e := ((r_qMt hI y).2 r hr2).2
          rw [z] at e
          have := r_monoUle hI a hy
          rw [e] at this
          omega
        have hne : ∀ y, y ≤ t → p (ix 1 r (rV n w p y r)) ≠ p (ix 1 r a) := fun y hy z => by
          have i1 := hI.2.2 1 r (by omega) hr2 (rV n w p y r) ((r_qMt hI y).2 r hr2).1
          have i2 := hI.2.2 1 r (by omega) hr2 a h1
          exact hdown y hy (by rw [← i1.2.2.2, z, i2.2.2.2])
        obtain ⟨x, hx1, hx2, hx3, hx4⟩ := latest (P := fun y => p (ix 1 r a) < p (ix 1 r (rV n w p y r))) hgt2 hlt
        have hx5 : p (ix 1 r (rV n w p (x + 1) r)) < p (ix 1 r a) := by
          by_cases hxt : x + 1 = t
          · rw [hxt]; exact hle
          · have h11 := hx4 (x + 1) (by omega) (by omega)
            have h12 := hne (x + 1) (by omega)
            omega
        have hD : rD n w p t x := ⟨ht, hx2, Or.inr ⟨a, r, hr2, ha, q1, q2, hx5, hx3⟩⟩
        have hSx := hr x (Nd_D hD)
        by_cases hxg : x = rg n w p S r
        · exact g2 (by rw [← hxg]; exact hSx)
        · have hinx : rIn n w p x (rV n w p x r) := Classical.byContradiction fun z => by
            rw [r_outV hI z] at hx5
            omega
          exact g2 (hS.2 x _ hSx (Nd_right hI x _ r (by omega) (by omega) hr2 hinx g1))
      · exact hge)
  refine ⟨hU a ha, hni.1, ?_⟩
  rw [hni.2, hVx]
