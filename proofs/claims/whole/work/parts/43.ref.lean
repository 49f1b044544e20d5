/-! closed sets: their matches are stable; what two have in common, what either has -/
theorem m_stab {n : Nat} {w p : Nat → Nat} (hI : qInv n w p) {S : Nat → Prop} (hS : rId n w p S) : stab n p (mU n w p S) (mV n w p S) := by
  have hid : ∀ t, rId n w p (fun u => S u ∧ u < t) := fun t => ⟨fun u hu => hS.1 u hu.1, fun a u ha hu => ⟨hS.2 a u ha.1 hu, by have := Nd_lt hu; have := ha.2; omega⟩⟩
  have key : ∀ t, t ≤ rT n w p → stab n p (mU n w p (fun u => S u ∧ u < t)) (mV n w p (fun u => S u ∧ u < t)) := by
    intro t
    induction t with
    | zero =>
      intro _ l r hl hr hb
      have e : (fun u => S u ∧ u < 0) = fun _ => False := S_ext (fun u => ⟨fun q => Nat.not_lt_zero _ q.2, fun q => q.elim⟩)
      rw [e] at hb
      unfold blk at hb
      rw [m_0 hI, mV_0 hI hr] at hb
      exact best_stab hI l r hl hr hb
    | succ t ih =>
      intro ht
      have ih := ih (by omega)
      by_cases hSt : S t
      · have hid0 := hid t
        have hnt : ¬ (S t ∧ t < t) := fun q => Nat.lt_irrefl _ q.2
        have hrd : ∀ u, rNd n w p t u → S u ∧ u < t := fun u hu => ⟨hS.2 t u hSt hu, (Nd_lt hu).1⟩
        have e : (fun u => S u ∧ u < t + 1) = fun u => (S u ∧ u < t) ∨ u = t := S_ext (fun u => ⟨fun q => by
          rcases Nat.lt_or_ge u t with z | z
          · exact Or.inl ⟨q.1, z⟩
          · exact Or.inr (by have := q.2; omega), fun q => by
          rcases q with q | q
          · exact ⟨q.1, by omega⟩
          · rw [q]; exact ⟨hSt, by omega⟩⟩)
        rw [e]
        have hadd := m_add hI hid0 (by omega) hnt hrd
        have hready := fun a (ha : rIn n w p t a) => m_ready hI hid0 (by omega) hnt hrd ha
        have hm := m_qMt hI hid0
        have hm2 := m_qMt hI (Id_add hid0 (by omega) hrd)
        intro l r hl hr hb
        obtain ⟨b1, b2, b3⟩ := hb
        have hu2 := (hm2.1 l hl).1
        have hv2 := (hm2.2 r hr).1
        have h8 := hI.2.1
        have c2 := b2.resolve_left (by omega)
        have c3 := b3.resolve_left (by omega)
        have c4 := hadd.2.2.2 r hr
        by_cases hin : rIn n w p t l
        · have hrl := hready l hin
          have hf9 := (r_in hI (r_lt (show t < rT n w p by omega)).1 hin).2.1
          have hx := nx_spec hI hm hl (by rw [hrl.2.2]; exact hf9)
          rw [hadd.1 l hin] at c2
          rw [hrl.2.1] at hx
          have hul := (hm.1 l hl)
          rcases Nat.lt_trichotomy (p (ix 0 l r)) (p (ix 0 l (mU n w p (fun u => S u ∧ u < t) l))) with q | q | q
          · exact ih l r hl hr ⟨fun z => by rw [z] at q; omega, Or.inr q, Or.inr (by omega)⟩
          · have i1 := (hI.2.2 0 l (by omega) hl r hr).2.2.2
            have i2 := (hI.2.2 0 l (by omega) hl _ hul.1).2.2.2
            rw [q, i2] at i1
            rw [← i1, hul.2] at c4
            rw [← i1] at c3
            omega
          · have := hx.2.2.2.2.2 r hr q c2
            omega
        · have e2 := hadd.2.1 l hin
          rw [e2] at c2 b1
          exact ih l r hl hr ⟨b1, Or.inr c2, Or.inr (by omega)⟩
      · have e : (fun u => S u ∧ u < t + 1) = fun u => S u ∧ u < t := S_ext (fun u => ⟨fun q => ⟨q.1, by
          rcases Nat.lt_or_ge u t with z | z
          · exact z
          · exact absurd q.1 (by rw [show u = t by have := q.2; omega]; exact hSt)⟩, fun q => ⟨q.1, by have := q.2; omega⟩⟩)
        rw [e]
        exact ih
  have := key (rT n w p) (Nat.le_refl _)
  rw [show (fun u => S u ∧ u < rT n w p) = S from S_ext (fun u => ⟨fun q => q.1, fun q => ⟨q, hS.1 u q⟩⟩)] at this
  exact this
noncomputable def pU (n : Nat) (w p : Nat → Nat) (S : Nat → Prop) (a : Nat) : Nat := p (ix 0 a (mU n w p S a))
theorem pU_w {n : Nat} {w p : Nat → Nat} (hI : qInv n w p) {S : Nat → Prop} (hS : rId n w p S) {a : Nat} (ha : a < n) : pU n w p S a < n ∧ w (ix 0 a (pU n w p S a)) = mU n w p S a := (hI.2.2 0 a (by omega) ha _ (m_inv hI hS ha).1).2.2
theorem f_iff {n : Nat} {w p : Nat → Nat} {S : Nat → Prop} (hS : rId n w p S) {a t : Nat} (ht : t < rT n w p) (h : rIn n w p t a) : S t ↔ t < rf n w p S a := by
  constructor
  · intro hs
    rcases Nat.lt_or_ge t (rf n w p S a) with q | q
    · exact q
    · exfalso
      have hf := f_at (n := n) (w := w) (p := p) (S := S) (a := a) (by omega)
      by_cases he : rf n w p S a = t
      · rw [he] at hf; exact hf.2 hs
      · exact hf.2 (hS.2 t _ hs (Nd_left t _ a ht (by omega) h hf.1))
  · intro hlt
    exact f_not hlt h
theorem f_and {n : Nat} {w p : Nat → Nat} {S S2 : Nat → Prop} (hS : rId n w p S) (hS2 : rId n w p S2) {a : Nat} : rf n w p (fun t => S t ∧ S2 t) a = min (rf n w p S a) (rf n w p S2 a) := by
  have h1 := f_le (n := n) (w := w) (p := p) (S := S) (a := a)
  have h2 := f_le (n := n) (w := w) (p := p) (S := S2) (a := a)
  by_cases hm : min (rf n w p S a) (rf n w p S2 a) < rT n w p
  · refine lst_eq hm ?_ (fun j hj z => z.2 ⟨f_not (by omega) z.1, f_not (by omega) z.1⟩)
    rcases Nat.le_total (rf n w p S a) (rf n w p S2 a) with q | q
    · rw [Nat.min_eq_left q] at hm ⊢
      have := f_at (n := n) (w := w) (p := p) (S := S) (a := a) hm
      exact ⟨this.1, fun z => this.2 z.1⟩
    · rw [Nat.min_eq_right q] at hm ⊢
      have := f_at (n := n) (w := w) (p := p) (S := S2) (a := a) hm
      exact ⟨this.1, fun z => this.2 z.2⟩
  · have e : min (rf n w p S a) (rf n w p S2 a) = rT n w p := by omega
    rw [e]
    exact lst_none (fun j hj z => z.2 ⟨f_not (by omega) z.1, f_not (by omega) z.1⟩)
theorem f_or {n : Nat} {w p : Nat → Nat} {S S2 : Nat → Prop} (hS : rId n w p S) (hS2 : rId n w p S2) {a : Nat} : rf n w p (fun t => S t ∨ S2 t) a = max (rf n w p S a) (rf n w p S2 a) := by
  have h1 := f_le (n := n) (w := w) (p := p) (S := S) (a := a)
  have h2 := f_le (n := n) (w := w) (p := p) (S := S2) (a := a)
  have no : ∀ j, j < max (rf n w p S a) (rf n w p S2 a) → ¬ (rIn n w p j a ∧ ¬ (S j ∨ S2 j)) := fun j hj z => by
    rcases Nat.lt_or_ge j (rf n w p S a) with q | q
    · exact z.2 (Or.inl (f_not q z.1))
    · exact z.2 (Or.inr (f_not (by omega) z.1))
  by_cases hm : max (rf n w p S a) (rf n w p S2 a) < rT n w p
  · refine lst_eq hm ?_ no
    have hin : rIn n w p (max (rf n w p S a) (rf n w p S2 a)) a := by
      rcases Nat.le_total (rf n w p S a) (rf n w p S2 a) with q | q
      · rw [Nat.max_eq_right q] at hm ⊢
        exact (f_at hm).1
      · rw [Nat.max_eq_left q] at hm ⊢
        exact (f_at hm).1
    refine ⟨hin, fun z => ?_⟩
    rcases z with z | z
    · have := (f_iff hS hm hin).mp z; omega
    · have := (f_iff hS2 hm hin).mp z; omega
  · have e : max (rf n w p S a) (rf n w p S2 a) = rT n w p := by omega
    rw [e] at no ⊢
    exact lst_none no
theorem Id_and {n : Nat} {w p : Nat → Nat} {S S2 : Nat → Prop} (hS : rId n w p S) (hS2 : rId n w p S2) : rId n w p (fun t => S t ∧ S2 t) := ⟨fun t h => hS.1 t h.1, fun t u h hu => ⟨hS.2 t u h.1 hu, hS2.2 t u h.2 hu⟩⟩
theorem Id_or {n : Nat} {w p : Nat → Nat} {S S2 : Nat → Prop} (hS : rId n w p S) (hS2 : rId n w p S2) : rId n w p (fun t => S t ∨ S2 t) := ⟨fun t h => h.elim (hS.1 t) (hS2.1 t), fun t u h hu => h.imp (fun q => hS.2 t u q hu) (fun q => hS2.2 t u q hu)⟩
theorem pU_and {n : Nat} {w p : Nat → Nat} (hI : qInv n w p) {S S2 : Nat → Prop} (hS : rId n w p S) (hS2 : rId n w p S2) {a : Nat} : pU n w p (fun t => S t ∧ S2 t) a = min (pU n w p S a) (pU n w p S2 a) := by
  unfold pU mU
  rw [f_and hS hS2]
  rcases Nat.le_total (rf n w p S a) (rf n w p S2 a) with q | q
  · have := r_monoUle hI a q
    rw [Nat.min_eq_left q, Nat.min_eq_left this]
  · have := r_monoUle hI a q
    rw [Nat.min_eq_right q, Nat.min_eq_right this]
theorem pU_or {n : Nat} {w p : Nat → Nat} (hI : qInv n w p) {S S2 : Nat → Prop} (hS : rId n w p S) (hS2 : rId n w p S2) {a : Nat} : pU n w p (fun t => S t ∨ S2 t) a = max (pU n w p S a) (pU n w p S2 a) := by
  unfold pU mU
  rw [f_or hS hS2]
  rcases Nat.le_total (rf n w p S a) (rf n w p S2 a) with q | q
  · have := r_monoUle hI a q
    rw [Nat.max_eq_right q, Nat.max_eq_right this]
  · have := r_monoUle hI a q
    rw [Nat.max_eq_left q, Nat.max_eq_left this]
theorem bS_and {x y : Nat} : bS (x &&& y) = fun t => bS x t ∧ bS y t := S_ext (fun _ => and_test)
theorem bS_lor {x y : Nat} : bS (x ||| y) = fun t => bS x t ∨ bS y t := S_ext (fun _ => or_test)
theorem cQ_and {n : Nat} {w p : Nat → Nat} {x y : Nat} (hx : cQ n w p x) (hy : cQ n w p y) : cQ n w p (x &&& y) := by
  unfold cQ
  rw [bS_and]
  exact Id_and hx hy
theorem cQ_or {n : Nat} {w p : Nat → Nat} {x y : Nat} (hx : cQ n w p x) (hy : cQ n w p y) : cQ n w p (x ||| y) := by
  unfold cQ
  rw [bS_lor]
  exact Id_or hx hy
