/-! cycles of a function; one step of a match along such -/
def itf (f : Nat → Nat) : Nat → Nat → Nat
  | 0, x => x
  | j + 1, x => f (itf f j x)
theorem itf_add (f : Nat → Nat) (x : Nat) : ∀ j i, itf f (j + i) x = itf f j (itf f i x)
  | 0, i => by rw [Nat.zero_add]; rfl
  | j + 1, i => by
    rw [show j + 1 + i = (j + i) + 1 by omega]
    show f (itf f (j + i) x) = f (itf f j (itf f i x))
    rw [itf_add f x j i]
/-- a function that stays below n, or says 9 -/
def fok (n : Nat) (f : Nat → Nat) : Prop := n ≤ 8 ∧ (∀ x, f x = 9 ∨ f x < n) ∧ ∀ x, n ≤ x → f x = 9
def cyc (f : Nat → Nat) (l : Nat) : Prop := ∃ j, 1 ≤ j ∧ itf f j l = l
def inC (f : Nat → Nat) (l a : Nat) : Prop := ∃ k, itf f k l = a
theorem itf_9 {n : Nat} {f : Nat → Nat} (h : fok n f) : ∀ j, itf f j 9 = 9
  | 0 => rfl
  | j + 1 => by
    show f (itf f j 9) = 9
    rw [itf_9 h j]
    exact h.2.2 9 (by have := h.1; omega)
theorem cyc_mul {f : Nat → Nat} {l j : Nat} (h : itf f j l = l) : ∀ m, itf f (m * j) l = l
  | 0 => by rw [Nat.zero_mul]; rfl
  | m + 1 => by rw [Nat.succ_mul, itf_add, h]; exact cyc_mul h m
theorem cyc_lt {n : Nat} {f : Nat → Nat} {l : Nat} (h : fok n f) (hl : l < n) (hc : cyc f l) (k : Nat) : itf f k l < n := by
  obtain ⟨j, hj, e⟩ := hc
  rcases Nat.lt_or_ge (itf f k l) n with q | q
  · exact q
  · exfalso
    have h9 : itf f (k + 1) l = 9 := h.2.2 _ q
    have h1 : itf f ((k + 1) * j) l = l := cyc_mul e _
    have h2 : (k + 1) * j = ((k + 1) * j - (k + 1)) + (k + 1) := by
      have : (k + 1) * 1 ≤ (k + 1) * j := Nat.mul_le_mul (Nat.le_refl _) hj
      omega
    rw [h2, itf_add, h9, itf_9 h] at h1
    have := h.1
    omega
theorem inC_f {f : Nat → Nat} {l a : Nat} (h : inC f l a) : inC f l (f a) := by
  obtain ⟨k, rfl⟩ := h
  exact ⟨k + 1, rfl⟩
theorem inC_self (f : Nat → Nat) (l : Nat) : inC f l l := ⟨0, rfl⟩
theorem inC_trans {f : Nat → Nat} {l a c : Nat} (h1 : inC f l a) (h2 : inC f a c) : inC f l c := by
  obtain ⟨k, rfl⟩ := h1
  obtain ⟨j, rfl⟩ := h2
  exact ⟨j + k, itf_add f l j k⟩
/-- on a cycle one comes from each to each -/
theorem inC_back {f : Nat → Nat} {l a : Nat} (hc : cyc f l) (h : inC f l a) : inC f a l := by
  obtain ⟨k, rfl⟩ := h
  obtain ⟨j, hj, e⟩ := hc
  refine ⟨k * j - k, ?_⟩
  rw [← itf_add]
  have : k * 1 ≤ k * j := Nat.mul_le_mul (Nat.le_refl _) hj
  rw [show k * j - k + k = k * j by omega]
  exact cyc_mul e k
theorem inC_cyc {f : Nat → Nat} {l a : Nat} (hc : cyc f l) (h : inC f l a) : cyc f a := by
  obtain ⟨i, e⟩ := inC_back hc h
  obtain ⟨k, rfl⟩ := h
  obtain ⟨j, hj, e2⟩ := hc
  refine ⟨k + (j + i), by omega, ?_⟩
  rw [itf_add, itf_add, e, e2]
/-- how long a cycle is -/
noncomputable def per (f : Nat → Nat) (l : Nat) : Nat := lst (fun j => itf f (j + 1) l = l) 8 + 1
theorem inj_le {n m : Nat} {g : Nat → Nat} (h1 : ∀ a, a < m → g a < n) (h2 : ∀ a b, a < m → b < m → g a = g b → a = b) : m ≤ n := by
  rcases Nat.lt_or_ge n m with q | q
  · exfalso
    obtain ⟨x, hx, e⟩ := pigeon (n + 1) g (fun a ha => by have := h1 a (by omega); omega) (fun a b ha hb z => h2 a b (by omega) (by omega) z) n (by omega)
    have := h1 x (by omega)
    omega
  · exact q
theorem per_spec {n : Nat} {f : Nat → Nat} {l : Nat} (h : fok n f) (hl : l < n) (hc : cyc f l) : 1 ≤ per f l ∧ per f l ≤ n ∧ itf f (per f l) l = l ∧ (∀ j, 1 ≤ j → j < per f l → itf f j l ≠ l) ∧ ∀ i j, i < per f l → j < per f l → itf f i l = itf f j l → i = j := by
  -- the least period
  have hc2 := hc
  obtain ⟨j0, hj0, e0⟩ := hc
  obtain ⟨L, hL1, hL2, hL3⟩ : ∃ L, 1 ≤ L ∧ itf f L l = l ∧ ∀ j, 1 ≤ j → j < L → itf f j l ≠ l := by
    obtain ⟨m, hm, hmin⟩ := pk_least (fun j => 1 ≤ j ∧ itf f j l = l) ⟨j0, hj0, e0⟩
    exact ⟨m, hm.1, hm.2, fun j h1 h2 z => hmin j h2 ⟨h1, z⟩⟩
  have hinj : ∀ i j, i < j → j < L → itf f i l ≠ itf f j l := fun i j hij hj z => by
    have h1 : itf f (L - j + i) l = l := by
      rw [itf_add, z, ← itf_add, show L - j + j = L by omega]
      exact hL2
    exact hL3 _ (by omega) (by omega) h1
  have hinj2 : ∀ i j, i < L → j < L → itf f i l = itf f j l → i = j := fun i j hi hj z => by
    rcases Nat.lt_trichotomy i j with q | q | q
    · exact absurd z (hinj i j q hj)
    · exact q
    · exact absurd z.symm (hinj j i q hi)
  have hLn : L ≤ n := inj_le (fun a ha => cyc_lt h hl hc2 a) hinj2
  have h8 := h.1
  have hper : per f l = L := by
    have : lst (fun j => itf f (j + 1) l = l) 8 = L - 1 := lst_eq (by omega) (by show itf f (L - 1 + 1) l = l; rw [show L - 1 + 1 = L by omega]; exact hL2) (fun j hj z => hL3 (j + 1) (by omega) (by omega) z)
    unfold per
    omega
  rw [hper]
  exact ⟨hL1, hLn, hL2, hL3, hinj2⟩
theorem itf_mod {f : Nat → Nat} {l L : Nat} (e : itf f L l = l) (k : Nat) : itf f k l = itf f (k % L) l := by
  have h : k = k % L + (k / L) * L := by
    have := Nat.div_add_mod k L
    have h2 : L * (k / L) = (k / L) * L := Nat.mul_comm _ _
    omega
  have h3 := cyc_mul e (k / L)
  calc itf f k l = itf f (k % L + (k / L) * L) l := by rw [← h]
    _ = itf f (k % L) (itf f ((k / L) * L) l) := itf_add _ _ _ _
    _ = itf f (k % L) l := by rw [h3]
theorem inC_iff {n : Nat} {f : Nat → Nat} {l a : Nat} (h : fok n f) (hl : l < n) (hc : cyc f l) : inC f l a ↔ ∃ k, k < per f l ∧ itf f k l = a := by
  have hp := per_spec h hl hc
  constructor
  · rintro ⟨k, rfl⟩
    refine ⟨k % per f l, Nat.mod_lt _ (by omega), ?_⟩
    exact (itf_mod hp.2.2.1 k).symm
  · rintro ⟨k, -, e⟩
    exact ⟨k, e⟩
theorem inC_lt {n : Nat} {f : Nat → Nat} {l a : Nat} (h : fok n f) (hl : l < n) (hc : cyc f l) (ha : inC f l a) : a < n := by
  obtain ⟨k, rfl⟩ := ha
  exact cyc_lt h hl hc k
/-- on a cycle the function is one to one -/
theorem cyc_inj {n : Nat} {f : Nat → Nat} {l a c : Nat} (h : fok n f) (hl : l < n) (hc : cyc f l) (ha : inC f l a) (hcc : inC f l c) (e : f a = f c) : a = c := by
  have hp := per_spec h hl hc
  obtain ⟨i, hi, rfl⟩ := (inC_iff h hl hc).mp ha
  obtain ⟨j, hj, rfl⟩ := (inC_iff h hl hc).mp hcc
  have e1 : itf f (per f l - 1) (f (itf f i l)) = itf f (per f l - 1) (f (itf f j l)) := by rw [e]
  have g : ∀ i, itf f (per f l - 1) (f (itf f i l)) = itf f i l := fun i => by
    show itf f (per f l - 1) (itf f (i + 1) l) = _
    rw [← itf_add, show per f l - 1 + (i + 1) = i + per f l by omega, itf_add, hp.2.2.1]
  rw [g, g] at e1
  exact e1
/-! a match moves along a cycle -/
noncomputable def nxk (n : Nat) (w p u v : Nat → Nat) (l : Nat) : Nat := lst (fun k => p (ix 0 l (u l)) < k ∧ p (ix 1 (w (ix 0 l k)) l) < p (ix 1 (w (ix 0 l k)) (v (w (ix 0 l k))))) n
noncomputable def nxr (n : Nat) (w p u v : Nat → Nat) (l : Nat) : Nat := @ite Nat (nxk n w p u v l < n) (Classical.propDecidable _) (w (ix 0 l (nxk n w p u v l))) 9
noncomputable def fo (n : Nat) (w p u v : Nat → Nat) (l : Nat) : Nat := @ite Nat (l < n ∧ nxk n w p u v l < n) (Classical.propDecidable _) (v (w (ix 0 l (nxk n w p u v l)))) 9
theorem fo_ok {n : Nat} {w p u v : Nat → Nat} (hI : qInv n w p) (hm : qMt n u v) : fok n (fo n w p u v) := by
  refine ⟨hI.2.1, fun x => ?_, fun x hx => ?_⟩
  · unfold fo
    split
    · rename_i h
      exact Or.inr (hm.2 _ (hI.2.2 0 x (by omega) h.1 _ h.2).1).1
    · exact Or.inl rfl
  · unfold fo
    rw [if_neg (by omega)]
/-- what 'next' is -/
theorem nx_spec {n : Nat} {w p u v : Nat → Nat} (hI : qInv n w p) (hm : qMt n u v) {l : Nat} (hl : l < n) (hf : fo n w p u v l ≠ 9) : nxr n w p u v l < n ∧ v (nxr n w p u v l) = fo n w p u v l ∧ u (fo n w p u v l) = nxr n w p u v l ∧ p (ix 0 l (u l)) < p (ix 0 l (nxr n w p u v l)) ∧ p (ix 1 (nxr n w p u v l) l) < p (ix 1 (nxr n w p u v l) (v (nxr n w p u v l))) ∧ ∀ r, r < n → p (ix 0 l (u l)) < p (ix 0 l r) → p (ix 0 l r) < p (ix 0 l (nxr n w p u v l)) → p (ix 1 r (v r)) < p (ix 1 r l) := by
  have hk : nxk n w p u v l < n := by
    rcases Nat.lt_or_ge (nxk n w p u v l) n with q | q
    · exact q
    · exact absurd (by unfold fo; rw [if_neg (by omega)]) hf
  have hr : nxr n w p u v l = w (ix 0 l (nxk n w p u v l)) := by unfold nxr; rw [if_pos hk]
  have hfo : fo n w p u v l = v (w (ix 0 l (nxk n w p u v l))) := by unfold fo; rw [if_pos ⟨hl, hk⟩]
  have hi := hI.2.2 0 l (by omega) hl _ hk
  have hP : p (ix 0 l (u l)) < nxk n w p u v l ∧ p (ix 1 (w (ix 0 l (nxk n w p u v l))) l) < p (ix 1 (w (ix 0 l (nxk n w p u v l))) (v (w (ix 0 l (nxk n w p u v l))))) := lst_P hk
  rw [hr, hfo]
  refine ⟨hi.1, rfl, (hm.2 _ hi.1).2, by rw [hi.2.1]; exact hP.1, hP.2, fun r hr2 h1 h2 => ?_⟩
  rw [hi.2.1] at h2
  have hir := hI.2.2 0 l (by omega) hl r hr2
  have hno := lst_not (P := fun k => p (ix 0 l (u l)) < k ∧ p (ix 1 (w (ix 0 l k)) l) < p (ix 1 (w (ix 0 l k)) (v (w (ix 0 l k))))) (N := n) h2
  simp only [hir.2.2.2] at hno
  have hge : p (ix 1 r (v r)) ≤ p (ix 1 r l) := Nat.le_of_not_lt fun z => hno ⟨h1, z⟩
  have hne : v r ≠ l := fun z => by
    have := (hm.2 r hr2).2
    rw [z] at this
    rw [this] at h1
    omega
  have hv := (hm.2 r hr2).1
  have i1 := hI.2.2 1 r (by omega) hr2 (v r) hv
  have i2 := hI.2.2 1 r (by omega) hr2 l hl
  have : p (ix 1 r (v r)) ≠ p (ix 1 r l) := fun z => hne (by rw [← i1.2.2.2, z, i2.2.2.2])
  omega
/-- it is 'next' if it is the first one that would -/
theorem nx_intro {n : Nat} {w p u v : Nat → Nat} (hI : qInv n w p) {l r : Nat} (hl : l < n) (hr : r < n) (h1 : p (ix 0 l (u l)) < p (ix 0 l r)) (h2 : p (ix 1 r l) < p (ix 1 r (v r))) (h3 : ∀ r2, r2 < n → p (ix 0 l (u l)) < p (ix 0 l r2) → p (ix 0 l r2) < p (ix 0 l r) → p (ix 1 r2 (v r2)) ≤ p (ix 1 r2 l)) : nxr n w p u v l = r ∧ fo n w p u v l = v r := by
  have hir := hI.2.2 0 l (by omega) hl r hr
  have hk : nxk n w p u v l = p (ix 0 l r) := by
    refine lst_eq hir.2.2.1 ⟨h1, by rw [hir.2.2.2]; exact h2⟩ (fun k hk z => ?_)
    have hik := hI.2.2 0 l (by omega) hl k (by omega)
    have := h3 (w (ix 0 l k)) hik.1 (by rw [hik.2.1]; exact z.1) (by rw [hik.2.1]; exact hk)
    omega
  have hkn : nxk n w p u v l < n := by rw [hk]; exact hir.2.2.1
  constructor
  · unfold nxr
    rw [if_pos hkn, hk, hir.2.2.2]
  · unfold fo
    rw [if_pos ⟨hl, hkn⟩, hk, hir.2.2.2]
noncomputable def doU (n : Nat) (w p u v : Nat → Nat) (l : Nat) : Nat → Nat := fun a => @ite Nat (inC (fo n w p u v) l a) (Classical.propDecidable _) (nxr n w p u v a) (u a)
noncomputable def doV (n : Nat) (w p u v : Nat → Nat) (l : Nat) : Nat → Nat := fun b => @ite Nat (inC (fo n w p u v) l (v b)) (Classical.propDecidable _) (lst (fun a => inC (fo n w p u v) l a ∧ fo n w p u v a = v b) n) (v b)
theorem do_spec {n : Nat} {w p u v : Nat → Nat} (hI : qInv n w p) (hm : qMt n u v) {l : Nat} (hl : l < n) (hc : cyc (fo n w p u v) l) :
    qMt n (doU n w p u v l) (doV n w p u v l) ∧
    (∀ a, inC (fo n w p u v) l a → a < n ∧ fo n w p u v a ≠ 9 ∧ doU n w p u v l a = nxr n w p u v a ∧ doV n w p u v l (nxr n w p u v a) = a) ∧
    (∀ a, ¬ inC (fo n w p u v) l a → doU n w p u v l a = u a) ∧
    (∀ b, ¬ inC (fo n w p u v) l (v b) → doV n w p u v l b = v b) ∧
    (∀ b, b < n → inC (fo n w p u v) l (v b) → ∃ a, inC (fo n w p u v) l a ∧ nxr n w p u v a = b ∧ doV n w p u v l b = a) := by
  have hf := fo_ok hI hm
  have hin : ∀ a, inC (fo n w p u v) l a → a < n ∧ fo n w p u v a ≠ 9 := fun a ha => by
    refine ⟨inC_lt hf hl hc ha, ?_⟩
    have := inC_lt hf hl hc (inC_f ha)
    have := hI.2.1
    omega
  have hV : ∀ a, inC (fo n w p u v) l a → doV n w p u v l (nxr n w p u v a) = a := fun a ha => by
    obtain ⟨h1, h2⟩ := hin a ha
    have hx := nx_spec hI hm h1 h2
    unfold doV
    rw [if_pos (by rw [hx.2.1]; exact inC_f ha)]
    refine lst_eq h1 ⟨ha, hx.2.1.symm⟩ (fun j hj z => ?_)
    have := cyc_inj hf hl hc z.1 ha (by rw [z.2, hx.2.1])
    omega
  have hU : ∀ a, inC (fo n w p u v) l a → doU n w p u v l a = nxr n w p u v a := fun a ha => by unfold doU; rw [if_pos ha]
  have hU0 : ∀ a, ¬ inC (fo n w p u v) l a → doU n w p u v l a = u a := fun a ha => by unfold doU; rw [if_neg ha]
  have hV0 : ∀ b, ¬ inC (fo n w p u v) l (v b) → doV n w p u v l b = v b := fun b hb => by unfold doV; rw [if_neg hb]
  have hpre : ∀ c, inC (fo n w p u v) l c → ∃ a, inC (fo n w p u v) l a ∧ fo n w p u v a = c := fun c hcc => by
    obtain ⟨k, hk, rfl⟩ := (inC_iff hf hl hc).mp hcc
    have hp := per_spec hf hl hc
    cases k with
    | zero =>
      refine ⟨itf (fo n w p u v) (per (fo n w p u v) l - 1) l, ⟨_, rfl⟩, ?_⟩
      show itf (fo n w p u v) (per (fo n w p u v) l - 1 + 1) l = _
      rw [show per (fo n w p u v) l - 1 + 1 = per (fo n w p u v) l by omega]
      exact hp.2.2.1
    | succ k => exact ⟨itf (fo n w p u v) k l, ⟨k, rfl⟩, rfl⟩
  have hB : ∀ b, b < n → inC (fo n w p u v) l (v b) → ∃ a, inC (fo n w p u v) l a ∧ nxr n w p u v a = b ∧ doV n w p u v l b = a := fun b hb hbc => by
    obtain ⟨a, ha, e⟩ := hpre _ hbc
    obtain ⟨h1, h2⟩ := hin a ha
    have hx := nx_spec hI hm h1 h2
    have hnb : nxr n w p u v a = b := by rw [← hx.2.2.1, e]; exact (hm.2 b hb).2
    exact ⟨a, ha, hnb, by rw [← hnb]; exact hV a ha⟩
  refine ⟨⟨fun a ha => ?_, fun b hb => ?_⟩, fun a ha => ⟨(hin a ha).1, (hin a ha).2, hU a ha, hV a ha⟩, hU0, hV0, hB⟩
  · by_cases hac : inC (fo n w p u v) l a
    · rw [hU a hac]
      exact ⟨(nx_spec hI hm (hin a hac).1 (hin a hac).2).1, hV a hac⟩
    · rw [hU0 a hac]
      have := hm.1 a ha
      exact ⟨this.1, by rw [hV0 _ (by rw [this.2]; exact hac)]; exact this.2⟩
  · by_cases hbc : inC (fo n w p u v) l (v b)
    · obtain ⟨a, h1, h2, h3⟩ := hB b hb hbc
      rw [h3]
      exact ⟨(hin a h1).1, by rw [hU a h1]; exact h2⟩
    · rw [hV0 b hbc]
      have := hm.2 b hb
      exact ⟨this.1, by rw [hU0 _ hbc]; exact this.2⟩
