
/-! there are 4096 closed sets at most: each turn has two lefts, and a closed set's turns of a left are told by whom it has -/
theorem cnt_add (P : Nat → Prop) (a : Nat) : ∀ b, cnt P (a + b) = cnt P a + cnt (fun y => P (a + y)) b
  | 0 => rfl
  | b + 1 => by
    have ih := cnt_add P a b
    by_cases h : P (a + b)
    · rw [show a + (b + 1) = a + b + 1 by omega, cnt_t h, cnt_t (P := fun y => P (a + y)) h, ih]; omega
    · rw [show a + (b + 1) = a + b + 1 by omega, cnt_f h, cnt_f (P := fun y => P (a + y)) h, ih]
theorem cnt_mono {P Q : Nat → Prop} (h : ∀ y, P y → Q y) : ∀ n, cnt P n ≤ cnt Q n
  | 0 => Nat.le_refl _
  | n + 1 => by
    have ih := cnt_mono h n
    by_cases hp : P n
    · rw [cnt_t hp, cnt_t (h n hp)]; omega
    · rw [cnt_f hp]
      by_cases hq : Q n
      · rw [cnt_t hq]; omega
      · rw [cnt_f hq]; exact ih
theorem cnt_le_le (P : Nat → Prop) {a b : Nat} (h : a ≤ b) : cnt P a ≤ cnt P b := by
  have := cnt_add P a (b - a)
  rw [show a + (b - a) = b by omega] at this
  omega
theorem cnt_lt {P : Nat → Prop} {a b : Nat} (h : a < b) (hp : P a) : cnt P a < cnt P b := by
  have h1 := cnt_le_le P (show a + 1 ≤ b by omega)
  rw [cnt_t hp] at h1
  omega
/-- the numbers with P, one after the other -/
theorem cnt_enum (P : Nat → Prop) : ∀ N, ∃ e : Nat → Nat, (∀ i, i < cnt P N → e i < N ∧ P (e i)) ∧ ∀ i j, i < cnt P N → j < cnt P N → e i = e j → i = j
  | 0 => ⟨fun i => i, fun i h => absurd h (Nat.not_lt_zero _), fun i j h => absurd h (Nat.not_lt_zero _)⟩
  | N + 1 => by
    obtain ⟨e, h1, h2⟩ := cnt_enum P N
    by_cases hp : P N
    · refine ⟨fun i => if i = cnt P N then N else e i, fun i hi => ?_, fun i j hi hj he => ?_⟩
      · rw [cnt_t hp] at hi
        simp only
        split
        · exact ⟨by omega, hp⟩
        · have := h1 i (by omega); exact ⟨by omega, this.2⟩
      · rw [cnt_t hp] at hi hj
        simp only at he
        split at he <;> split at he
        · omega
        · have := h1 j (by omega); omega
        · have := h1 i (by omega); omega
        · exact h2 i j (by omega) (by omega) he
    · rw [cnt_f hp]
      exact ⟨e, fun i hi => by have := h1 i hi; exact ⟨by omega, this.2⟩, h2⟩
theorem cnt_inj {P : Nat → Prop} {N n : Nat} {g : Nat → Nat} (h1 : ∀ y, y < N → P y → g y < n) (h2 : ∀ y z, y < N → z < N → P y → P z → g y = g z → y = z) : cnt P N ≤ n := by
  obtain ⟨e, e1, e2⟩ := cnt_enum P N
  exact inj_le (g := fun i => g (e i)) (fun i hi => h1 _ (e1 i hi).1 (e1 i hi).2) (fun i j hi hj he => e2 i j hi hj (h2 _ _ (e1 i hi).1 (e1 j hj).1 (e1 i hi).2 (e1 j hj).2 he))
theorem cnt_ge {P : Nat → Prop} {N m : Nat} {g : Nat → Nat} (h1 : ∀ i, i < m → g i < N ∧ P (g i)) (h2 : ∀ i j, i < m → j < m → g i = g j → i = j) : m ≤ cnt P N := by
  refine inj_le (g := fun i => cnt P (g i)) (fun i hi => cnt_lt (h1 i hi).1 (h1 i hi).2) (fun i j hi hj he => h2 i j hi hj ?_)
  rcases Nat.lt_trichotomy (g i) (g j) with q | q | q
  · have := cnt_lt q (h1 i hi).2; omega
  · exact q
  · have := cnt_lt q (h1 j hj).2; omega
/-- a number's bits of some places -/
noncomputable def tr (C : Nat → Prop) : Nat → Nat → Nat
  | 0, _ => 0
  | T + 1, x => tr C T (x % 2 ^ T) + @ite Nat (C T ∧ 2 ^ T ≤ x) (Classical.propDecidable _) (2 ^ T) 0
theorem tr_lt (C : Nat → Prop) : ∀ T x, tr C T x < 2 ^ T
  | 0, _ => by show 0 < 1; omega
  | T + 1, x => by
    have := tr_lt C T (x % 2 ^ T)
    have h2 : 2 ^ (T + 1) = 2 ^ T + 2 ^ T := by rw [Nat.pow_succ]; omega
    show tr C T (x % 2 ^ T) + @ite Nat _ (Classical.propDecidable _) _ _ < _
    split <;> omega
noncomputable def NT (C F : Nat → Prop) (T : Nat) : Nat := cnt (fun y => ∃ x, x < 2 ^ T ∧ F x ∧ tr C T x = y) (2 ^ T)
theorem tr_lo {C : Nat → Prop} {T x : Nat} (h : x < 2 ^ T) : tr C (T + 1) x = tr C T x := by
  show tr C T (x % 2 ^ T) + @ite Nat _ (Classical.propDecidable _) _ _ = _
  rw [Nat.mod_eq_of_lt h, if_neg (by omega), Nat.add_zero]
theorem tr_hi {C : Nat → Prop} {T x : Nat} (h : x < 2 ^ T) : tr C (T + 1) (2 ^ T + x) = tr C T x + @ite Nat (C T) (Classical.propDecidable _) (2 ^ T) 0 := by
  show tr C T ((2 ^ T + x) % 2 ^ T) + @ite Nat _ (Classical.propDecidable _) _ _ = _
  rw [Nat.add_mod_left, Nat.mod_eq_of_lt h]
  congr 1
  by_cases hc : C T
  · rw [if_pos hc, if_pos ⟨hc, by omega⟩]
  · rw [if_neg hc, if_neg (fun z => hc z.1)]
theorem NT_split {C F : Nat → Prop} {T : Nat} : NT C F T ≤ NT C F (T + 1) ∧ NT C (fun x => F (2 ^ T + x)) T ≤ NT C F (T + 1) ∧ (C T → NT C F (T + 1) = NT C F T + NT C (fun x => F (2 ^ T + x)) T) := by
  have h2 : 2 ^ (T + 1) = 2 ^ T + 2 ^ T := by rw [Nat.pow_succ]; omega
  have hsp : NT C F (T + 1) = cnt (fun y => ∃ x, x < 2 ^ (T + 1) ∧ F x ∧ tr C (T + 1) x = y) (2 ^ T) + cnt (fun y => ∃ x, x < 2 ^ (T + 1) ∧ F x ∧ tr C (T + 1) x = 2 ^ T + y) (2 ^ T) := by
    unfold NT
    rw [h2, cnt_add]
  have lo : NT C F T ≤ cnt (fun y => ∃ x, x < 2 ^ (T + 1) ∧ F x ∧ tr C (T + 1) x = y) (2 ^ T) := cnt_mono (fun y hy => by
    obtain ⟨x, hx, hF, e⟩ := hy
    exact ⟨x, by omega, hF, by rw [tr_lo hx]; exact e⟩) _
  refine ⟨by omega, ?_, fun hC => ?_⟩
  · by_cases hC : C T
    · have hi : NT C (fun x => F (2 ^ T + x)) T ≤ cnt (fun y => ∃ x, x < 2 ^ (T + 1) ∧ F x ∧ tr C (T + 1) x = 2 ^ T + y) (2 ^ T) := cnt_mono (fun y hy => by
        obtain ⟨x, hx, hF, e⟩ := hy
        exact ⟨2 ^ T + x, by omega, hF, by rw [tr_hi hx, if_pos hC, e]; omega⟩) _
      omega
    · have hi : NT C (fun x => F (2 ^ T + x)) T ≤ cnt (fun y => ∃ x, x < 2 ^ (T + 1) ∧ F x ∧ tr C (T + 1) x = y) (2 ^ T) := cnt_mono (fun y hy => by
        obtain ⟨x, hx, hF, e⟩ := hy
        exact ⟨2 ^ T + x, by omega, hF, by rw [tr_hi hx, if_neg hC, e]; rfl⟩) _
      omega
  · rw [hsp]
    unfold NT
    congr 1
    · refine cnt_congr (fun y hy => ⟨fun ⟨x, hx, hF, e⟩ => ?_, fun ⟨x, hx, hF, e⟩ => ⟨x, by omega, hF, by rw [tr_lo hx]; exact e⟩⟩)
      by_cases hxT : x < 2 ^ T
      · exact ⟨x, hxT, hF, by rw [← tr_lo hxT]; exact e⟩
      · exfalso
        have := tr_hi (C := C) (T := T) (x := x - 2 ^ T) (by omega)
        rw [show 2 ^ T + (x - 2 ^ T) = x by omega, if_pos hC] at this
        omega
    · refine cnt_congr (fun y hy => ⟨fun ⟨x, hx, hF, e⟩ => ?_, fun ⟨x, hx, hF, e⟩ => ⟨2 ^ T + x, by omega, hF, by rw [tr_hi hx, if_pos hC]; omega⟩⟩)
      by_cases hxT : x < 2 ^ T
      · exfalso
        have h3 := tr_lo (C := C) hxT
        have h4 := tr_lt C T x
        omega
      · refine ⟨x - 2 ^ T, by omega, by show F (2 ^ T + (x - 2 ^ T)); rw [show 2 ^ T + (x - 2 ^ T) = x by omega]; exact hF, ?_⟩
        have := tr_hi (C := C) (T := T) (x := x - 2 ^ T) (by omega)
        rw [show 2 ^ T + (x - 2 ^ T) = x by omega, if_pos hC] at this
        omega
def prodN (f : Nat → Nat) : Nat → Nat
  | 0 => 1
  | n + 1 => prodN f n * f n
theorem prodN_congr {f g : Nat → Nat} : ∀ {n : Nat}, (∀ j, j < n → f j = g j) → prodN f n = prodN g n
  | 0, _ => rfl
  | n + 1, h => by
    show prodN f n * f n = prodN g n * g n
    rw [prodN_congr (fun j hj => h j (by omega)), h n (by omega)]
theorem prodN_mono {f g : Nat → Nat} : ∀ {n : Nat}, (∀ j, j < n → f j ≤ g j) → prodN f n ≤ prodN g n
  | 0, _ => Nat.le_refl _
  | n + 1, h => Nat.mul_le_mul (prodN_mono (fun j hj => h j (by omega))) (h n (by omega))
theorem prodN_upd {f : Nat → Nat} {a : Nat} : ∀ {n : Nat}, a < n → prodN f n = f a * prodN (updF f a 1) n
  | 0, h => absurd h (Nat.not_lt_zero _)
  | n + 1, h => by
    show prodN f n * f n = f a * (prodN (updF f a 1) n * updF f a 1 n)
    by_cases hn : a = n
    · have : prodN (updF f a 1) n = prodN f n := prodN_congr (fun j hj => by unfold updF; rw [if_neg (by omega)])
      rw [this]
      unfold updF
      rw [if_pos hn.symm, Nat.mul_one, hn, Nat.mul_comm]
    · rw [prodN_upd (n := n) (a := a) (by omega)]
      have h2 : updF f a 1 n = f n := by unfold updF; rw [if_neg (by omega)]
      rw [h2, Nat.mul_assoc]
theorem prodN_two {f : Nat → Nat} {a b n : Nat} (ha : a < n) (hb : b < n) (h : a ≠ b) : prodN f n = f a * (f b * prodN (updF (updF f a 1) b 1) n) := by
  rw [prodN_upd ha, prodN_upd (f := updF f a 1) hb]
  have : updF f a 1 b = f b := by unfold updF; rw [if_neg (Ne.symm h)]
  rw [this]
theorem sq_add {N0 N1 x0 x1 y0 y1 P : Nat} (h0 : N0 * N0 ≤ x0 * (y0 * P)) (h1 : N1 * N1 ≤ x1 * (y1 * P)) : (N0 + N1) * (N0 + N1) ≤ (x0 + x1) * ((y0 + y1) * P) := by
  -- the mixed part
  have hm : 2 * (N0 * N1) ≤ x0 * (y1 * P) + x1 * (y0 * P) := by
    refine Nat.le_of_not_lt fun hlt => ?_
    have e1 : (N0 * N1) * (N0 * N1) ≤ (x0 * (y1 * P)) * (x1 * (y0 * P)) := by
      have := Nat.mul_le_mul h0 h1
      have l : (N0 * N0) * (N1 * N1) = (N0 * N1) * (N0 * N1) := by ac_rfl
      have r : (x0 * (y0 * P)) * (x1 * (y1 * P)) = (x0 * (y1 * P)) * (x1 * (y0 * P)) := by ac_rfl
      rw [l, r] at this
      exact this
    generalize x0 * (y1 * P) = A at *
    generalize x1 * (y0 * P) = B at *
    generalize N0 * N1 = C at *
    have h2 : (A + B) * (A + B) < (2 * C) * (2 * C) := Nat.mul_lt_mul'' hlt hlt
    have h3 : (2 * C) * (2 * C) = 4 * (C * C) := by
      rw [Nat.mul_mul_mul_comm]
    have h4 : 4 * (A * B) ≤ (A + B) * (A + B) := by
      rcases Nat.le_total A B with q | q
      · obtain ⟨k, rfl⟩ := Nat.exists_eq_add_of_le q
        have : (A + (A + k)) * (A + (A + k)) = 4 * (A * (A + k)) + k * k := by
          simp only [Nat.mul_add, Nat.add_mul]
          have : k * A = A * k := Nat.mul_comm _ _
          omega
        omega
      · obtain ⟨k, rfl⟩ := Nat.exists_eq_add_of_le q
        have : (B + k + B) * (B + k + B) = 4 * ((B + k) * B) + k * k := by
          simp only [Nat.mul_add, Nat.add_mul]
          have : k * B = B * k := Nat.mul_comm _ _
          omega
        omega
    omega
  have l : (N0 + N1) * (N0 + N1) = N0 * N0 + N1 * N1 + 2 * (N0 * N1) := by
    simp only [Nat.mul_add, Nat.add_mul]
    have : N1 * N0 = N0 * N1 := Nat.mul_comm _ _
    omega
  have r : (x0 + x1) * ((y0 + y1) * P) = x0 * (y0 * P) + x1 * (y1 * P) + (x0 * (y1 * P) + x1 * (y0 * P)) := by
    simp only [Nat.mul_add, Nat.add_mul]
    omega
  omega
theorem shearer {m : Nat} {C : Nat → Nat → Prop} : ∀ (T : Nat) (F : Nat → Prop), (∀ t, t < T → ∃ a b, a < m ∧ b < m ∧ a ≠ b ∧ C a t ∧ C b t) → cnt F (2 ^ T) * cnt F (2 ^ T) ≤ prodN (fun a => NT (C a) F T) m
  | 0, F, _ => by
    show cnt F (0 + 1) * cnt F (0 + 1) ≤ _
    by_cases h : F 0
    · have h1 : ∀ a, NT (C a) F 0 = 1 := fun a => by
        show cnt _ (0 + 1) = 1
        rw [cnt_t ⟨0, by decide, h, rfl⟩]
        rfl
      rw [cnt_t h, prodN_congr (g := fun _ => 1) (fun j _ => h1 j)]
      have : ∀ m, prodN (fun _ => 1) m = 1 := fun m => by
        induction m with
        | zero => rfl
        | succ m ih => show prodN _ m * 1 = 1; rw [ih]
      rw [this]
      exact Nat.le_refl _
    · rw [cnt_f h]
      exact Nat.zero_le _
  | T + 1, F, h => by
    have h2 : 2 ^ (T + 1) = 2 ^ T + 2 ^ T := by rw [Nat.pow_succ]; omega
    obtain ⟨a, b, ha, hb, hab, hCa, hCb⟩ := h T (by omega)
    have i0 := shearer (m := m) (C := C) T F (fun t ht => h t (by omega))
    have i1 := shearer (m := m) (C := C) T (fun x => F (2 ^ T + x)) (fun t ht => h t (by omega))
    rw [h2, cnt_add]
    rw [prodN_two ha hb hab] at i0 i1 ⊢
    have pm0 : prodN (updF (updF (fun a => NT (C a) F T) a 1) b 1) m ≤ prodN (updF (updF (fun a => NT (C a) F (T + 1)) a 1) b 1) m := prodN_mono (fun j _ => by
      unfold updF
      split
      · exact Nat.le_refl _
      · split
        · exact Nat.le_refl _
        · exact NT_split.1)
    have pm1 : prodN (updF (updF (fun a => NT (C a) (fun x => F (2 ^ T + x)) T) a 1) b 1) m ≤ prodN (updF (updF (fun a => NT (C a) F (T + 1)) a 1) b 1) m := prodN_mono (fun j _ => by
      unfold updF
      split
      · exact Nat.le_refl _
      · split
        · exact Nat.le_refl _
        · exact NT_split.2.1)
    rw [(NT_split (C := C a) (F := F) (T := T)).2.2 hCa, (NT_split (C := C b) (F := F) (T := T)).2.2 hCb]
    refine sq_add (Nat.le_trans i0 ?_) (Nat.le_trans i1 ?_)
    · exact Nat.mul_le_mul (Nat.le_refl _) (Nat.mul_le_mul (Nat.le_refl _) pm0)
    · exact Nat.mul_le_mul (Nat.le_refl _) (Nat.mul_le_mul (Nat.le_refl _) pm1)
theorem tr_bits {C : Nat → Prop} : ∀ (T x y : Nat), x < 2 ^ T → y < 2 ^ T → (∀ t, t < T → C t → x.testBit t = y.testBit t) → tr C T x = tr C T y
  | 0, _, _, _, _, _ => rfl
  | T + 1, x, y, hx, hy, h => by
    have h2 : 2 ^ (T + 1) = 2 ^ T + 2 ^ T := by rw [Nat.pow_succ]; omega
    show tr C T (x % 2 ^ T) + @ite Nat _ (Classical.propDecidable _) _ _ = tr C T (y % 2 ^ T) + @ite Nat _ (Classical.propDecidable _) _ _
    have ih := tr_bits (C := C) T (x % 2 ^ T) (y % 2 ^ T) (Nat.mod_lt _ (Nat.two_pow_pos T)) (Nat.mod_lt _ (Nat.two_pow_pos T)) (fun t ht hc => by
      rw [Nat.testBit_mod_two_pow, Nat.testBit_mod_two_pow, h t (by omega) hc])
    rw [ih]
    congr 1
    have hb : ∀ z, z < 2 ^ (T + 1) → (z.testBit T = true ↔ 2 ^ T ≤ z) := fun z hz => by
      rw [Nat.testBit_eq_decide_div_mod_eq, decide_eq_true_eq]
      constructor
      · intro q
        refine Nat.le_of_not_lt fun z2 => ?_
        rw [Nat.div_eq_of_lt z2] at q
        omega
      · intro q
        have : z / 2 ^ T = 1 := by
          rw [Nat.div_eq_iff (Nat.two_pow_pos T)]
          omega
        rw [this]
    by_cases hc : C T
    · have := h T (by omega) hc
      have e : (2 ^ T ≤ x) ↔ (2 ^ T ≤ y) := by rw [← hb x hx, ← hb y hy, this]
      by_cases q : 2 ^ T ≤ x
      · rw [if_pos ⟨hc, q⟩, if_pos ⟨hc, e.mp q⟩]
      · rw [if_neg (fun z => q z.2), if_neg (fun z => q (e.mpr z.2))]
    · rw [if_neg (fun z => hc z.1), if_neg (fun z => hc z.1)]
/-- a set told by bits -/
def bS (x : Nat) : Nat → Prop := fun t => x.testBit t = true
theorem closed_few {n : Nat} {w p : Nat → Nat} (hI : qInv n w p) : cnt (fun x => rId n w p (bS x)) (2 ^ rT n w p) ≤ 4096 := by
  have h8 := hI.2.1
  have hs := shearer (m := n) (C := fun a t => rIn n w p t a) (rT n w p) (fun x => rId n w p (bS x)) (fun t ht => by
    have hl := (r_lt ht).1
    obtain ⟨h1, h2, h3⟩ := r_two hI hl
    exact ⟨_, _, (r_in hI hl h1).1, (r_in hI hl h2).1, fun z => h3 z.symm, h1, h2⟩)
  have hN : ∀ a, a < n → NT (fun t => rIn n w p t a) (fun x => rId n w p (bS x)) (rT n w p) ≤ 8 := fun a ha => by
    refine Nat.le_trans ?_ h8
    -- each trace by whom a has
    have key : ∀ x y, x < 2 ^ rT n w p → y < 2 ^ rT n w p → rId n w p (bS x) → rId n w p (bS y) → mU n w p (bS x) a = mU n w p (bS y) a → tr (fun t => rIn n w p t a) (rT n w p) x = tr (fun t => rIn n w p t a) (rT n w p) y := fun x y hx hy hix hiy e => by
      refine tr_bits _ _ _ hx hy (fun t ht hc => ?_)
      have h1 := m_read hI hix ht hc
      have h2 := m_read hI hiy ht hc
      rw [e, ← h2] at h1
      unfold bS at h1
      cases hxb : x.testBit t with
      | true => exact (h1.mp hxb).symm
      | false =>
        cases hyb : y.testBit t with
        | true => exact absurd (h1.mpr hyb) (by rw [hxb]; decide)
        | false => rfl
    refine cnt_inj (g := fun y => @ite Nat (∃ x, x < 2 ^ rT n w p ∧ rId n w p (bS x) ∧ tr (fun t => rIn n w p t a) (rT n w p) x = y) (Classical.propDecidable _) (mU n w p (bS (Classical.epsilon (fun x => x < 2 ^ rT n w p ∧ rId n w p (bS x) ∧ tr (fun t => rIn n w p t a) (rT n w p) x = y))) a) 0) (fun y _ hy => ?_) (fun y z _ _ hy hz e => ?_)
    · rw [if_pos hy]
      have := Classical.epsilon_spec hy
      exact (m_qMt hI this.2.1).1 a ha |>.1
    · rw [if_pos hy, if_pos hz] at e
      have e1 := Classical.epsilon_spec hy
      have e2 := Classical.epsilon_spec hz
      have := key _ _ e1.1 e2.1 e1.2.1 e2.2.1 e
      rw [e1.2.2, e2.2.2] at this
      exact this
  have hp : prodN (fun a => NT (fun t => rIn n w p t a) (fun x => rId n w p (bS x)) (rT n w p)) n ≤ prodN (fun _ => 8) n := prodN_mono hN
  have hp8 : prodN (fun _ => 8) n ≤ 16777216 := by
    have : ∀ m, m ≤ 8 → prodN (fun _ => 8) m ≤ 16777216 := by decide
    exact this n h8
  refine Nat.le_of_not_lt fun hlt => ?_
  have : 4097 * 4097 ≤ cnt (fun x => rId n w p (bS x)) (2 ^ rT n w p) * cnt (fun x => rId n w p (bS x)) (2 ^ rT n w p) := Nat.mul_le_mul hlt hlt
  omega
