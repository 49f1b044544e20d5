
/-! which turns are exposed; each stable match comes of a closed set -/
theorem sumN_two {f g : Nat → Nat} {a b : Nat} : ∀ {n : Nat}, (∀ j, j < n → f j ≤ g j) → a < n → b < n → a ≠ b → f a < g a → f b < g b → sumN f n + 2 ≤ sumN g n
  | 0, _, h, _, _, _, _ => absurd h (Nat.not_lt_zero _)
  | n + 1, h, ha, hb, hab, h1, h2 => by
    have le : ∀ m, m ≤ n + 1 → sumN f m ≤ sumN g m := fun m => by
      induction m with
      | zero => intro _; exact Nat.le_refl _
      | succ m ih =>
        intro hm
        have := ih (by omega)
        have := h m (by omega)
        show sumN f m + f m ≤ sumN g m + g m
        omega
    have lt1 : ∀ (x : Nat) (m : Nat), x < m → m ≤ n + 1 → f x < g x → sumN f m + 1 ≤ sumN g m := fun x m => by
      induction m with
      | zero => intro hx; exact absurd hx (Nat.not_lt_zero _)
      | succ m ih =>
        intro hx hm hlt
        show sumN f m + f m + 1 ≤ sumN g m + g m
        by_cases hxm : x = m
        · have := le m (by omega)
          subst hxm
          omega
        · have := ih (by omega) (by omega) hlt
          have := h m (by omega)
          omega
    show sumN f n + f n + 2 ≤ sumN g n + g n
    by_cases han : a = n
    · have := lt1 b n (by omega) (by omega) h2
      subst han
      omega
    · by_cases hbn : b = n
      · have := lt1 a n (by omega) (by omega) h1
        subst hbn
        omega
      · have := sumN_two (n := n) (fun j hj => h j (by omega)) (by omega) (by omega) hab h1 h2
        have := h n (by omega)
        omega
/-- a turn has two lefts or more -/
theorem r_two {n : Nat} {w p : Nat → Nat} (hI : qInv n w p) {t : Nat} (ht : rL n w p t < n) : rIn n w p t (rL n w p t) ∧ rIn n w p t (rF n w p t (rL n w p t)) ∧ rF n w p t (rL n w p t) ≠ rL n w p t := by
  have h0 : rIn n w p t (rL n w p t) := inC_self _ _
  refine ⟨h0, inC_f h0, fun z => ?_⟩
  have h := r_in hI ht h0
  have h7 := h.2.2.2.2.2.2.1
  rw [z] at h7
  have h8 := h.2.2.2.2.2.2.2.1
  rw [h7] at h8
  omega
theorem r_sum {n : Nat} {w p : Nat → Nat} (hI : qInv n w p) : ∀ t, t ≤ rT n w p → 2 * t ≤ sumN (fun a => p (ix 0 a (rU n w p t a))) n
  | 0, _ => Nat.zero_le _
  | t + 1, h => by
    have ih := r_sum hI t (by omega)
    have hl := (r_lt (show t < rT n w p by omega)).1
    obtain ⟨h1, h2, h3⟩ := r_two hI hl
    have k1 := r_in hI hl h1
    have k2 := r_in hI hl h2
    have := sumN_two (f := fun a => p (ix 0 a (rU n w p t a))) (g := fun a => p (ix 0 a (rU n w p (t + 1) a))) (n := n) (fun j _ => r_monoU1 hI t j) k1.1 k2.1 (fun z => h3 z.symm) (by rw [k1.2.2.1]; exact k1.2.2.2.2.2.2.2.1) (by rw [k2.2.2.1]; exact k2.2.2.2.2.2.2.2.1)
    omega
theorem r_T {n : Nat} {w p : Nat → Nat} (hI : qInv n w p) : rT n w p ≤ 28 ∧ rL n w p (rT n w p) = n := by
  have h1 := r_sum hI (rT n w p) (Nat.le_refl _)
  have h2 := sumN_le (f := fun a => p (ix 0 a (rU n w p (rT n w p) a))) (b := n - 1) (n := n) (fun a ha => by have := (hI.2.2 0 a (by omega) ha (rU n w p (rT n w p) a) ((r_qMt hI _).1 a ha).1).2.2.1; omega)
  have h8 := hI.2.1
  have h3 : n * (n - 1) ≤ 8 * 7 := Nat.mul_le_mul h8 (by omega)
  have h4 : rT n w p ≤ 28 := by omega
  exact ⟨h4, lst_P (P := fun t => rL n w p t = n) (N := 29) (by unfold rT at h4; omega)⟩
/-- a ready turn more -/
theorem Id_add {n : Nat} {w p : Nat → Nat} {S : Nat → Prop} (hS : rId n w p S) {t : Nat} (ht : t < rT n w p) (hr : ∀ u, rNd n w p t u → S u) : rId n w p (fun x => S x ∨ x = t) := by
  refine ⟨fun x hx => ?_, fun x u hx hu => ?_⟩
  · rcases hx with h | h
    · exact hS.1 x h
    · rw [h]; exact ht
  · rcases hx with h | h
    · exact Or.inl (hS.2 x u h hu)
    · rw [h] at hu; exact Or.inl (hr u hu)
theorem m_add {n : Nat} {w p : Nat → Nat} (hI : qInv n w p) {S : Nat → Prop} (hS : rId n w p S) {t : Nat} (ht : t < rT n w p) (hn : ¬ S t) (hr : ∀ u, rNd n w p t u → S u) :
    (∀ a, rIn n w p t a → mU n w p (fun x => S x ∨ x = t) a = rX n w p t a) ∧ (∀ a, ¬ rIn n w p t a → mU n w p (fun x => S x ∨ x = t) a = mU n w p S a) ∧ (∀ b, b < n → ¬ rIn n w p t (mV n w p S b) → mV n w p (fun x => S x ∨ x = t) b = mV n w p S b) ∧ ∀ b, b < n → p (ix 1 b (mV n w p (fun x => S x ∨ x = t) b)) ≤ p (ix 1 b (mV n w p S b)) := by
  have hS' := Id_add hS ht hr
  have h1 : ∀ a, rIn n w p t a → mU n w p (fun x => S x ∨ x = t) a = rX n w p t a := fun a ha => by
    have hk := r_in hI (r_lt ht).1 ha
    have hlt : t < rf n w p (fun x => S x ∨ x = t) a := by
      rcases Nat.lt_or_ge t (rf n w p (fun x => S x ∨ x = t) a) with q | q
      · exact q
      · exfalso
        have hfa := f_at (S := fun x => S x ∨ x = t) (a := a) (show rf n w p (fun x => S x ∨ x = t) a < rT n w p by omega)
        by_cases he : rf n w p (fun x => S x ∨ x = t) a = t
        · exact hfa.2 (Or.inr he)
        · exact hfa.2 (Or.inl (hr _ (Nd_left t _ a ht (by omega) ha hfa.1)))
    have hsame := r_sameU hI (a := a) (t := t + 1) (rf n w p (fun x => S x ∨ x = t) a - (t + 1)) (fun x q1 q2 z => by
      have hx := f_not (S := fun x => S x ∨ x = t) (show x < rf n w p (fun x => S x ∨ x = t) a by omega) z
      rcases hx with hx | hx
      · exact hn (hS.2 x t hx (Nd_left x t a (hS.1 x hx) (by omega) z ha))
      · omega)
    rw [show t + 1 + (rf n w p (fun x => S x ∨ x = t) a - (t + 1)) = rf n w p (fun x => S x ∨ x = t) a by omega] at hsame
    unfold mU
    rw [hsame]
    exact hk.2.2.1
  have h2 : ∀ a, ¬ rIn n w p t a → mU n w p (fun x => S x ∨ x = t) a = mU n w p S a := fun a ha => by
    have : rf n w p (fun x => S x ∨ x = t) a = rf n w p S a := lst_congr (fun x _ => ⟨fun z => ⟨z.1, fun q => z.2 (Or.inl q)⟩, fun z => ⟨z.1, fun q => q.elim z.2 (fun q2 => ha (by rw [← q2]; exact z.1))⟩⟩)
    unfold mU
    rw [this]
  have h3 : ∀ b, b < n → ¬ rIn n w p t (mV n w p S b) → mV n w p (fun x => S x ∨ x = t) b = mV n w p S b := fun b hb hbn => by
    have hq := (m_qMt hI hS).2 b hb
    have e := h2 _ hbn
    rw [hq.2] at e
    have := ((m_qMt hI hS').1 _ hq.1).2
    rw [e] at this
    exact this
  refine ⟨h1, h2, h3, fun b hb => ?_⟩
  by_cases hbn : rIn n w p t (mV n w p S b)
  · have hq := (m_qMt hI hS).2 b hb
    have hru := m_ready hI hS ht hn hr hbn
    rw [hq.2] at hru
    have hVb : rV n w p t b = mV n w p S b := by
      have := ((r_qMt hI t).1 _ hq.1).2
      rw [← hru.1] at this
      exact this
    have hin := r_inV hI (r_lt ht).1 hb (by rw [hVb]; exact hbn)
    have e := h1 _ hin.1
    rw [hin.2.1] at e
    have hc := (r_in hI (r_lt ht).1 hin.1).1
    have := ((m_qMt hI hS').1 _ hc).2
    rw [e] at this
    rw [this, ← hVb]
    exact Nat.le_of_lt hin.2.2
  · rw [h3 b hb hbn]; exact Nat.le_refl _
theorem S_ext {S S2 : Nat → Prop} (h : ∀ t, S t ↔ S2 t) : S = S2 := funext fun t => propext (h t)
def Sto (n : Nat) (w p : Nat → Nat) (S : Nat → Prop) (j : Nat) : Nat → Prop := fun t => (S t ∨ t < j) ∧ t < rT n w p
theorem Sto_id {n : Nat} {w p : Nat → Nat} {S : Nat → Prop} (hS : rId n w p S) (j : Nat) : rId n w p (Sto n w p S j) := by
  refine ⟨fun t h => h.2, fun t u h hu => ?_⟩
  have := Nd_lt hu
  refine ⟨?_, by omega⟩
  rcases h.1 with q | q
  · exact Or.inl (hS.2 t u q hu)
  · exact Or.inr (by omega)
/-- what isn't touched by turns stays exposed -/
theorem m_keep {n : Nat} {w p : Nat → Nat} (hI : qInv n w p) {S : Nat → Prop} (hS : rId n w p S) {c : Nat} (hc : c < n) (hcy : cyc (fo n w p (mU n w p S) (mV n w p S)) c) :
    ∀ j, (∀ x, x < j → x < rT n w p → ¬ S x → ∀ a, inC (fo n w p (mU n w p S) (mV n w p S)) c a → ¬ rIn n w p x a) → ∀ a, inC (fo n w p (mU n w p S) (mV n w p S)) c a → mU n w p (Sto n w p S j) a = mU n w p S a ∧ nxr n w p (mU n w p (Sto n w p S j)) (mV n w p (Sto n w p S j)) a = nxr n w p (mU n w p S) (mV n w p S) a ∧ fo n w p (mU n w p (Sto n w p S j)) (mV n w p (Sto n w p S j)) a = fo n w p (mU n w p S) (mV n w p S) a
  | 0, _, a, _ => by
    have : Sto n w p S 0 = S := S_ext fun t => ⟨fun h => h.1.elim id (fun q => absurd q (Nat.not_lt_zero _)), fun h => ⟨Or.inl h, hS.1 t h⟩⟩
    rw [this]
    exact ⟨rfl, rfl, rfl⟩
  | j + 1, h, a, ha => by
    have ih := m_keep hI hS hc hcy j (fun x hx => h x (by omega))
    by_cases hj : j < rT n w p ∧ ¬ S j
    · have hSj := Sto_id hS j
      have hnj : ¬ Sto n w p S j j := fun z => z.1.elim hj.2 (fun q => Nat.lt_irrefl _ q)
      have hrj : ∀ u, rNd n w p j u → Sto n w p S j u := fun u hu => ⟨Or.inr (Nd_lt hu).1, by have := Nd_lt hu; omega⟩
      have e : Sto n w p S (j + 1) = fun x => Sto n w p S j x ∨ x = j := S_ext fun t => ⟨fun q => by
        by_cases htj : t = j
        · exact Or.inr htj
        · refine Or.inl ⟨q.1.imp id (fun z => by omega), q.2⟩, fun q => by
        rcases q with q | q
        · exact ⟨q.1.imp id (fun z => by omega), q.2⟩
        · rw [q]; exact ⟨Or.inr (by omega), hj.1⟩⟩
      obtain ⟨k1, k2, k3, k4⟩ := m_add hI hSj hj.1 hnj hrj
      rw [← e] at k1 k2 k3 k4
      have hno := h j (by omega) hj.1 hj.2
      obtain ⟨i1, i2, i3⟩ := ih a ha
      have hmS := m_qMt hI hSj
      have hfok := fo_ok hI (m_qMt hI hS)
      have han := inC_lt hfok hc hcy ha
      have hfan := inC_lt hfok hc hcy (inC_f ha)
      have h8 := hI.2.1
      have hx := nx_spec hI hmS han (by rw [i3]; omega)
      rw [i2, i3] at hx
      have e1 : mU n w p (Sto n w p S (j + 1)) a = mU n w p (Sto n w p S j) a := k2 a (hno a ha)
      have e2 : mV n w p (Sto n w p S (j + 1)) (nxr n w p (mU n w p S) (mV n w p S) a) = mV n w p (Sto n w p S j) (nxr n w p (mU n w p S) (mV n w p S) a) := k3 _ hx.1 (by rw [hx.2.1]; exact hno _ (inC_f ha))
      have hni := nx_intro (u := mU n w p (Sto n w p S (j + 1))) (v := mV n w p (Sto n w p S (j + 1))) hI han hx.1 (by rw [e1]; exact hx.2.2.2.1) (by rw [e2]; exact hx.2.2.2.2.1) (fun r hr q1 q2 => by
        rw [e1] at q1
        have := hx.2.2.2.2.2 r hr q1 q2
        have := k4 r hr
        omega)
      exact ⟨by rw [e1]; exact i1, hni.1, by rw [hni.2, e2]; exact hx.2.1⟩
    · have e : Sto n w p S (j + 1) = Sto n w p S j := S_ext fun t => ⟨fun q => ⟨by
        by_cases htj : t = j
        · left
          rw [htj]
          exact Classical.byContradiction fun z => hj ⟨by rw [← htj]; exact q.2, z⟩
        · exact q.1.imp id (fun z => by omega), q.2⟩, fun q => ⟨q.1.imp id (fun z => by omega), q.2⟩⟩
      rw [e]
      exact ih a ha
theorem m_full {n : Nat} {w p : Nat → Nat} {S : Nat → Prop} : mU n w p (Sto n w p S (rT n w p)) = rU n w p (rT n w p) ∧ mV n w p (Sto n w p S (rT n w p)) = rV n w p (rT n w p) := by
  constructor
  · funext a
    unfold mU
    have : rf n w p (Sto n w p S (rT n w p)) a = rT n w p := lst_none (fun x hx z => z.2 ⟨Or.inr hx, hx⟩)
    rw [this]
  · funext b
    unfold mV
    have : rg n w p (Sto n w p S (rT n w p)) b = rT n w p := lst_none (fun x hx z => z.2 ⟨Or.inr hx, hx⟩)
    rw [this]
/-- each cycle in a closed set's match is a turn that is ready there -/
theorem m_exposed {n : Nat} {w p : Nat → Nat} (hI : qInv n w p) {S : Nat → Prop} (hS : rId n w p S) {c : Nat} (hc : c < n) (hcy : cyc (fo n w p (mU n w p S) (mV n w p S)) c) :
    ∃ t, t < rT n w p ∧ ¬ S t ∧ (∀ u, rNd n w p t u → S u) ∧ ∀ a, inC (fo n w p (mU n w p S) (mV n w p S)) c a ↔ rIn n w p t a := by
  have hfok := fo_ok hI (m_qMt hI hS)
  -- the first turn outside of S that touches the cycle
  have hex : ∃ t, t < rT n w p ∧ ¬ S t ∧ ∃ a, inC (fo n w p (mU n w p S) (mV n w p S)) c a ∧ rIn n w p t a := by
    refine Classical.byContradiction fun hno => ?_
    have hk := m_keep hI hS hc hcy (rT n w p) (fun x _ hx hSx a ha hin => hno ⟨x, hx, hSx, a, ha, hin⟩)
    have hT := (r_T hI).2
    rw [m_full.1, m_full.2] at hk
    have hit : ∀ j, itf (rF n w p (rT n w p)) j c = itf (fo n w p (mU n w p S) (mV n w p S)) j c := fun j => by
      induction j with
      | zero => rfl
      | succ j ih =>
        show rF n w p (rT n w p) (itf (rF n w p (rT n w p)) j c) = fo n w p (mU n w p S) (mV n w p S) (itf (fo n w p (mU n w p S) (mV n w p S)) j c)
        rw [ih]
        exact (hk _ ⟨j, rfl⟩).2.2
    obtain ⟨j, hj, e⟩ := hcy
    exact lst_not (P := cyc (rF n w p (rT n w p))) (N := n) (k := c) (by show c < rL n w p (rT n w p); rw [hT]; exact hc) ⟨j, hj, by rw [hit]; exact e⟩
  obtain ⟨t, ⟨ht, hSt, a0, ha0, hin0⟩, hmin⟩ := pk_least (fun t => t < rT n w p ∧ ¬ S t ∧ ∃ a, inC (fo n w p (mU n w p S) (mV n w p S)) c a ∧ rIn n w p t a) hex
  have hk := m_keep hI hS hc hcy t (fun x hx hxT hSx a ha hin => hmin x hx ⟨hxT, hSx, a, ha, hin⟩)
  have hSj := Sto_id hS t
  have hnt : ¬ Sto n w p S t t := fun z => z.1.elim hSt (fun q => Nat.lt_irrefl _ q)
  have hrt : ∀ u, rNd n w p t u → Sto n w p S t u := fun u hu => ⟨Or.inr (Nd_lt hu).1, by have := Nd_lt hu; omega⟩
  have hru := fun a (ha : rIn n w p t a) => m_ready hI hSj ht hnt hrt ha
  -- from a0 on both go the same way
  have hit : ∀ j, itf (fo n w p (mU n w p S) (mV n w p S)) j a0 = itf (rF n w p t) j a0 ∧ rIn n w p t (itf (rF n w p t) j a0) := fun j => by
    induction j with
    | zero => exact ⟨rfl, hin0⟩
    | succ j ih =>
      refine ⟨?_, inC_f ih.2⟩
      show fo n w p (mU n w p S) (mV n w p S) (itf (fo n w p (mU n w p S) (mV n w p S)) j a0) = rF n w p t (itf (rF n w p t) j a0)
      have h1 := (hk _ (inC_trans ha0 ⟨j, rfl⟩)).2.2
      rw [ih.1] at h1 ⊢
      rw [← h1]
      exact (hru _ ih.2).2.2
  have hcyt := (r_lt ht).2
  have hiff : ∀ a, inC (fo n w p (mU n w p S) (mV n w p S)) c a ↔ rIn n w p t a := fun a => by
    constructor
    · intro ha
      obtain ⟨j, e⟩ := inC_trans (inC_back hcy ha0) ha
      rw [(hit j).1] at e
      rw [← e]
      exact (hit j).2
    · intro ha
      obtain ⟨j, e⟩ := inC_trans (inC_back hcyt hin0) ha
      rw [← (hit j).1] at e
      rw [← e]
      exact inC_trans ha0 ⟨j, rfl⟩
  have hUS : ∀ a, rIn n w p t a → mU n w p S a = rU n w p t a ∧ nxr n w p (mU n w p S) (mV n w p S) a = rX n w p t a := fun a ha => by
    have h1 := hk a ((hiff a).mpr ha)
    have h2 := hru a ha
    exact ⟨by rw [← h1.1]; exact h2.1, by rw [← h1.2.1]; exact h2.2.1⟩
  have hD : ∀ u, rD n w p t u → S u := fun u hu => by
    obtain ⟨-, hut, hu⟩ := hu
    refine Classical.byContradiction fun hSu => ?_
    rcases hu with ⟨l, h1, h2, -⟩ | ⟨l, r, hr, h1, q1, q2, q3, q4⟩
    · have hfl : rf n w p S l ≤ u := by
        rcases Nat.lt_or_ge u (rf n w p S l) with q | q
        · exact absurd (f_not q h2) hSu
        · exact q
      have hfa := f_at (S := S) (a := l) (show rf n w p S l < rT n w p by omega)
      have := r_strU hI (a := l) (t := rf n w p S l) (s := t) (x := rf n w p S l) (by omega) hfa.1 (Nat.le_refl _) (by omega)
      have h3 := (hUS l h1).1
      unfold mU at h3
      rw [h3] at this
      omega
    · have hln := (r_in hI (r_lt ht).1 h1).1
      have hlO := (hiff l).mpr h1
      have hx := nx_spec hI (m_qMt hI hS) hln (by have := inC_lt hfok hc hcy (inC_f hlO); have := hI.2.1; omega)
      rw [(hUS l h1).1, (hUS l h1).2] at hx
      have hun := hx.2.2.2.2.2 r hr q1 q2
      have hinu : rIn n w p u (rV n w p u r) := Classical.byContradiction fun z => by
        rw [r_outV hI z] at q3
        omega
      have hgl : rg n w p S r ≤ u := by
        rcases Nat.lt_or_ge u (rg n w p S r) with q | q
        · exact absurd (g_not q hinu) hSu
        · exact q
      have := r_monoVle hI hr hgl
      unfold mV at hun
      omega
  exact ⟨t, ht, hSt, fun u hu => by
    obtain ⟨x, hx1, hx2⟩ := Nd_inv hu
    rcases hx2 with rfl | hx2
    · exact hD _ hx1
    · exact hS.2 x u (hD x hx1) hx2, hiff⟩
/-- the set is read off its match -/
theorem m_read {n : Nat} {w p : Nat → Nat} (hI : qInv n w p) {S : Nat → Prop} (hS : rId n w p S) {t a : Nat} (ht : t < rT n w p) (ha : rIn n w p t a) : S t ↔ p (ix 0 a (rU n w p t a)) < p (ix 0 a (mU n w p S a)) := by
  unfold mU
  constructor
  · intro h
    have : t < rf n w p S a := by
      rcases Nat.lt_or_ge t (rf n w p S a) with q | q
      · exact q
      · exfalso
        have hfa := f_at (n := n) (w := w) (p := p) (S := S) (a := a) (by omega)
        by_cases he : rf n w p S a = t
        · exact hfa.2 (by rw [he]; exact h)
        · exact hfa.2 (hS.2 t _ h (Nd_left t _ a ht (by omega) ha hfa.1))
    exact r_strU hI ht ha (Nat.le_refl _) this
  · intro h
    refine Classical.byContradiction fun z => ?_
    have hle : rf n w p S a ≤ t := by
      rcases Nat.lt_or_ge t (rf n w p S a) with q | q
      · exact absurd (f_not q ha) z
      · exact q
    have := r_monoUle hI a hle
    omega
theorem m_inj {n : Nat} {w p : Nat → Nat} (hI : qInv n w p) {S S2 : Nat → Prop} (hS : rId n w p S) (hS2 : rId n w p S2) (h : ∀ a, a < n → mU n w p S a = mU n w p S2 a) : S = S2 := by
  refine S_ext fun t => ?_
  by_cases ht : t < rT n w p
  · have hin : rIn n w p t (rL n w p t) := inC_self _ _
    rw [m_read hI hS ht hin, m_read hI hS2 ht hin, h _ (r_lt ht).1]
  · exact ⟨fun q => absurd (hS.1 t q) ht, fun q => absurd (hS2.1 t q) ht⟩
theorem Id_0 {n : Nat} {w p : Nat → Nat} : rId n w p (fun _ => False) := ⟨fun _ h => h.elim, fun _ _ h _ => h.elim⟩
theorem m_0 {n : Nat} {w p : Nat → Nat} (hI : qInv n w p) {a : Nat} : mU n w p (fun _ => False) a = rU n w p 0 a := by
  unfold mU
  have := r_sameU hI (a := a) (t := 0) (rf n w p (fun _ => False) a) (fun x _ h2 z => (f_not (S := fun _ => False) (show x < rf n w p (fun _ => False) a by omega) z).elim)
  rw [Nat.zero_add] at this
  exact this
/-- what a stable match is worse in than a closed set's, it is worse in along a turn that is ready -/
theorem m_down {n : Nat} {w p u v : Nat → Nat} (hI : qInv n w p) (hm : qMt n u v) (hst : stab n p u v) {S : Nat → Prop} (hS : rId n w p S) (hle : ∀ a, a < n → p (ix 0 a (mU n w p S a)) ≤ p (ix 0 a (u a))) {a0 : Nat} (ha0 : a0 < n) (hne : u a0 ≠ mU n w p S a0) :
    ∃ t, t < rT n w p ∧ ¬ S t ∧ (∀ x, rNd n w p t x → S x) ∧ ∀ a, a < n → p (ix 0 a (mU n w p (fun x => S x ∨ x = t) a)) ≤ p (ix 0 a (u a)) := by
  have hmS := m_qMt hI hS
  have hfok := fo_ok hI hmS
  have h8 := hI.2.1
  have hpi : ∀ a x y, a < n → x < n → y < n → p (ix 0 a x) = p (ix 0 a y) → x = y := fun a x y ha hx hy z => by
    have i1 := hI.2.2 0 a (by omega) ha x hx
    have i2 := hI.2.2 0 a (by omega) ha y hy
    rw [← i1.2.2.2, z, i2.2.2.2]
  have hpi1 : ∀ a x y, a < n → x < n → y < n → p (ix 1 a x) = p (ix 1 a y) → x = y := fun a x y ha hx hy z => by
    have i1 := hI.2.2 1 a (by omega) ha x hx
    have i2 := hI.2.2 1 a (by omega) ha y hy
    rw [← i1.2.2.2, z, i2.2.2.2]
  -- the next of one who is worse off comes no later than whom it has, and its follower is worse off, too
  have key : ∀ a, a < n → u a ≠ mU n w p S a → fo n w p (mU n w p S) (mV n w p S) a < n ∧ p (ix 0 a (nxr n w p (mU n w p S) (mV n w p S) a)) ≤ p (ix 0 a (u a)) ∧ u (fo n w p (mU n w p S) (mV n w p S) a) ≠ mU n w p S (fo n w p (mU n w p S) (mV n w p S) a) := by
    intro a ha hna
    have hua := hm.1 a ha
    have hSa := hmS.1 a ha
    have hlt : p (ix 0 a (mU n w p S a)) < p (ix 0 a (u a)) := by
      have := hle a ha
      have : p (ix 0 a (mU n w p S a)) ≠ p (ix 0 a (u a)) := fun z => hna (hpi a _ _ ha hSa.1 hua.1 z).symm
      omega
    -- u a would rather have a
    have hvr := hmS.2 (u a) hua.1
    have hw1 : p (ix 1 (u a) a) < p (ix 1 (u a) (mV n w p S (u a))) := by
      refine Classical.byContradiction fun z => ?_
      have hne2 : mV n w p S (u a) ≠ a := fun q => by rw [q] at hvr; exact hna hvr.2.symm
      have hlt2 : p (ix 1 (u a) (mV n w p S (u a))) < p (ix 1 (u a) a) := by
        have : p (ix 1 (u a) (mV n w p S (u a))) ≠ p (ix 1 (u a) a) := fun q => hne2 (hpi1 (u a) _ _ hua.1 hvr.1 ha q)
        omega
      have hl2 := hle _ hvr.1
      rw [hvr.2] at hl2
      have hub := hm.1 _ hvr.1
      have hne3 : u (mV n w p S (u a)) ≠ u a := fun q => hne2 (by rw [← hub.2, q, hua.2])
      have hne4 : p (ix 0 (mV n w p S (u a)) (u a)) ≠ p (ix 0 (mV n w p S (u a)) (u (mV n w p S (u a)))) := fun q => hne3 (hpi _ _ _ hvr.1 hua.1 hub.1 q).symm
      exact hst _ _ hvr.1 hua.1 ⟨hne3, Or.inr (by omega), Or.inr (by rw [hua.2]; exact hlt2)⟩
    have hir := hI.2.2 0 a (by omega) ha (u a) hua.1
    have hkn : nxk n w p (mU n w p S) (mV n w p S) a ≤ p (ix 0 a (u a)) := by
      rcases Nat.lt_or_ge (p (ix 0 a (u a))) (nxk n w p (mU n w p S) (mV n w p S) a) with q | q
      · exact absurd ⟨hlt, by rw [hir.2.2.2]; exact hw1⟩ (lst_not (P := fun k => p (ix 0 a (mU n w p S a)) < k ∧ p (ix 1 (w (ix 0 a k)) a) < p (ix 1 (w (ix 0 a k)) (mV n w p S (w (ix 0 a k))))) q)
      · exact q
    have hkn2 : nxk n w p (mU n w p S) (mV n w p S) a < n := by omega
    have hiw := hI.2.2 0 a (by omega) ha _ hkn2
    have hfo : fo n w p (mU n w p S) (mV n w p S) a < n := by
      unfold fo
      rw [if_pos ⟨ha, hkn2⟩]
      exact (hmS.2 _ hiw.1).1
    have hx := nx_spec hI hmS ha (show fo n w p (mU n w p S) (mV n w p S) a ≠ 9 by omega)
    have hnx : nxr n w p (mU n w p S) (mV n w p S) a = w (ix 0 a (nxk n w p (mU n w p S) (mV n w p S) a)) := by unfold nxr; rw [if_pos hkn2]
    have hple : p (ix 0 a (nxr n w p (mU n w p S) (mV n w p S) a)) ≤ p (ix 0 a (u a)) := by rw [hnx, hiw.2.1]; exact hkn
    refine ⟨hfo, hple, fun z => ?_⟩
    rw [hx.2.2.1] at z
    have hva := hm.1 _ hfo
    rw [z] at hva
    -- then a and its next block u
    have hfne : fo n w p (mU n w p S) (mV n w p S) a ≠ a := fun q => by
      have h1 := hx.2.2.1
      rw [q] at h1
      have h2 := hx.2.2.2.1
      rw [h1] at h2
      omega
    have hne5 : u a ≠ nxr n w p (mU n w p S) (mV n w p S) a := fun q => hfne (by rw [← hva.2, ← q]; exact hua.2)
    have hne6 : p (ix 0 a (nxr n w p (mU n w p S) (mV n w p S) a)) ≠ p (ix 0 a (u a)) := fun q => hne5 (hpi a _ _ ha hx.1 hua.1 q).symm
    refine hst a _ ha hx.1 ⟨hne5, Or.inr (by omega), Or.inr ?_⟩
    have h3 := hx.2.2.2.2.1
    rw [hx.2.1] at h3
    rw [hva.2]
    exact h3
  have hit : ∀ j, itf (fo n w p (mU n w p S) (mV n w p S)) j a0 < n ∧ u (itf (fo n w p (mU n w p S) (mV n w p S)) j a0) ≠ mU n w p S (itf (fo n w p (mU n w p S) (mV n w p S)) j a0) := fun j => by
    induction j with
    | zero => exact ⟨ha0, hne⟩
    | succ j ih =>
      have := key _ ih.1 ih.2
      exact ⟨this.1, this.2.2⟩
  -- one of them comes back
  obtain ⟨i, hi⟩ : ∃ i, cyc (fo n w p (mU n w p S) (mV n w p S)) (itf (fo n w p (mU n w p S) (mV n w p S)) i a0) := by
    refine Classical.byContradiction fun hno => ?_
    have := inj_le (n := n) (m := n + 1) (g := fun j => itf (fo n w p (mU n w p S) (mV n w p S)) j a0) (fun j _ => (hit j).1) (fun i j _ _ e => by
      rcases Nat.lt_trichotomy i j with q | q | q
      · exact absurd ⟨i, j - i, by omega, by rw [← itf_add, show j - i + i = j by omega]; exact e.symm⟩ hno
      · exact q
      · exact absurd ⟨j, i - j, by omega, by rw [← itf_add, show i - j + j = i by omega]; exact e⟩ hno)
    omega
  obtain ⟨t, h1, h2, h3, h4⟩ := m_exposed hI hS (hit i).1 hi
  refine ⟨t, h1, h2, h3, fun a ha => ?_⟩
  obtain ⟨k1, k2, -, -⟩ := m_add hI hS h1 h2 h3
  by_cases hin : rIn n w p t a
  · rw [k1 a hin, ← (m_ready hI hS h1 h2 h3 hin).2.1]
    obtain ⟨j, e⟩ := (h4 a).mpr hin
    rw [← itf_add] at e
    have := hit (j + i)
    rw [e] at this
    exact (key a this.1 this.2).2.1
  · rw [k2 a hin]; exact hle a ha
/-- each stable match comes of a closed set -/
theorem m_onto {n : Nat} {w p u v : Nat → Nat} (hI : qInv n w p) (hm : qMt n u v) (hst : stab n p u v) : ∃ S, rId n w p S ∧ ∀ a, a < n → mU n w p S a = u a := by
  have go : ∀ (k : Nat) (S : Nat → Prop), rId n w p S → (∀ a, a < n → p (ix 0 a (mU n w p S a)) ≤ p (ix 0 a (u a))) → sumN (fun a => p (ix 0 a (u a))) n ≤ sumN (fun a => p (ix 0 a (mU n w p S a))) n + k → ∃ S, rId n w p S ∧ ∀ a, a < n → mU n w p S a = u a := by
    intro k
    induction k with
    | zero =>
      intro S hS hle hk
      refine ⟨S, hS, fun a ha => Classical.byContradiction fun hne => ?_⟩
      obtain ⟨t, h1, h2, h3, h4⟩ := m_down hI hm hst hS hle ha (fun z => hne z.symm)
      obtain ⟨k1, k2, -, -⟩ := m_add hI hS h1 h2 h3
      obtain ⟨t1, t2, t3⟩ := r_two hI (r_lt h1).1
      have hsum := sumN_two (f := fun a => p (ix 0 a (mU n w p S a))) (g := fun a => p (ix 0 a (mU n w p (fun x => S x ∨ x = t) a))) (n := n) (fun j hj => by
        by_cases hin : rIn n w p t j
        · rw [k1 j hin, (m_ready hI hS h1 h2 h3 hin).1]
          exact Nat.le_of_lt (r_in hI (r_lt h1).1 hin).2.2.2.2.2.2.2.1
        · rw [k2 j hin]; exact Nat.le_refl _) (r_in hI (r_lt h1).1 t1).1 (r_in hI (r_lt h1).1 t2).1 (fun z => t3 z.symm)
        (by rw [k1 _ t1, (m_ready hI hS h1 h2 h3 t1).1]; exact (r_in hI (r_lt h1).1 t1).2.2.2.2.2.2.2.1)
        (by rw [k1 _ t2, (m_ready hI hS h1 h2 h3 t2).1]; exact (r_in hI (r_lt h1).1 t2).2.2.2.2.2.2.2.1)
      have hsle : ∀ m, m ≤ n → sumN (fun a => p (ix 0 a (mU n w p (fun x => S x ∨ x = t) a))) m ≤ sumN (fun a => p (ix 0 a (u a))) m := fun m => by
        induction m with
        | zero => intro _; exact Nat.le_refl _
        | succ m ih =>
          intro hm2
          exact Nat.add_le_add (ih (by omega)) (h4 m (by omega))
      have := hsle n (Nat.le_refl _)
      omega
    | succ k ih =>
      intro S hS hle hk
      by_cases hall : ∀ a, a < n → mU n w p S a = u a
      · exact ⟨S, hS, hall⟩
      · obtain ⟨a, ha⟩ := Classical.not_forall.mp hall
        obtain ⟨han, hne⟩ := Classical.not_imp.mp ha
        obtain ⟨t, h1, h2, h3, h4⟩ := m_down hI hm hst hS hle han (fun z => hne z.symm)
        obtain ⟨k1, k2, -, -⟩ := m_add hI hS h1 h2 h3
        obtain ⟨t1, t2, t3⟩ := r_two hI (r_lt h1).1
        have hsum := sumN_two (f := fun a => p (ix 0 a (mU n w p S a))) (g := fun a => p (ix 0 a (mU n w p (fun x => S x ∨ x = t) a))) (n := n) (fun j hj => by
          by_cases hin : rIn n w p t j
          · rw [k1 j hin, (m_ready hI hS h1 h2 h3 hin).1]
            exact Nat.le_of_lt (r_in hI (r_lt h1).1 hin).2.2.2.2.2.2.2.1
          · rw [k2 j hin]; exact Nat.le_refl _) (r_in hI (r_lt h1).1 t1).1 (r_in hI (r_lt h1).1 t2).1 (fun z => t3 z.symm)
          (by rw [k1 _ t1, (m_ready hI hS h1 h2 h3 t1).1]; exact (r_in hI (r_lt h1).1 t1).2.2.2.2.2.2.2.1)
          (by rw [k1 _ t2, (m_ready hI hS h1 h2 h3 t2).1]; exact (r_in hI (r_lt h1).1 t2).2.2.2.2.2.2.2.1)
        exact ih _ (Id_add hS h1 h3) h4 (by omega)
  refine go (sumN (fun a => p (ix 0 a (u a))) n) (fun _ => False) Id_0 (fun a ha => ?_) (by omega)
  rw [m_0 hI]
  exact best_opt hI hm hst ha
/-- without a turn: all that don't need it come -/
theorem m_without {n : Nat} {w p : Nat → Nat} {S : Nat → Prop} (hS : rId n w p S) {x : Nat} (hx : ¬ S x) (hend : ∀ t, t < rT n w p → ¬ S t → (∀ u, rNd n w p t u → S u) → t = x) (t : Nat) (ht : t < rT n w p) : S t ↔ t ≠ x ∧ ¬ rNd n w p t x := by
  constructor
  · intro h
    exact ⟨fun z => hx (by rw [← z]; exact h), fun z => hx (hS.2 t x h z)⟩
  · intro h
    induction t using Nat.strongRecOn with
    | _ t ih =>
      refine Classical.byContradiction fun z => ?_
      exact h.1 (hend t ht z (fun u hu => by
        have hlt := Nd_lt hu
        exact ih u hlt.1 (by omega) ⟨fun q => h.2 (by rw [← q]; exact hu), fun q => h.2 (Nd_trans hu q)⟩))
