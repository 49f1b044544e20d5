/-! Plain words for what the programs compute. -/
/-- the least k from 'j' on, of 'f' many, with P; else j + f -/
noncomputable def lsF (P : Nat → Prop) (j : Nat) : Nat → Nat
  | 0 => j
  | f + 1 => @ite Nat (P j) (Classical.propDecidable _) j (lsF P (j + 1) f)
noncomputable def lst (P : Nat → Prop) (N : Nat) : Nat := lsF P 0 N
theorem lsF_le (P : Nat → Prop) : ∀ f j, lsF P j f ≤ j + f
  | 0, j => Nat.le_refl _
  | f + 1, j => by
    unfold lsF
    split
    · omega
    · have := lsF_le P f (j + 1)
      omega
theorem lsF_ge (P : Nat → Prop) : ∀ f j, j ≤ lsF P j f
  | 0, j => Nat.le_refl _
  | f + 1, j => by
    unfold lsF
    split
    · omega
    · have := lsF_ge P f (j + 1)
      omega
theorem lsF_P (P : Nat → Prop) : ∀ f j, lsF P j f < j + f → P (lsF P j f)
  | 0, j, h => absurd h (by unfold lsF; omega)
  | f + 1, j, h => by
    unfold lsF at h ⊢
    split
    · assumption
    · rename_i hn
      rw [if_neg hn] at h
      exact lsF_P P f (j + 1) (by omega)
theorem lsF_not (P : Nat → Prop) : ∀ f j k, j ≤ k → k < lsF P j f → ¬ P k
  | 0, j, k, h1, h2 => by unfold lsF at h2; omega
  | f + 1, j, k, h1, h2 => by
    unfold lsF at h2
    split at h2
    · omega
    · rename_i hn
      by_cases hk : k = j
      · rw [hk]; exact hn
      · exact lsF_not P f (j + 1) k (by omega) h2
theorem lst_le (P : Nat → Prop) (N : Nat) : lst P N ≤ N := by have := lsF_le P N 0; unfold lst; omega
theorem lst_P {P : Nat → Prop} {N : Nat} (h : lst P N < N) : P (lst P N) := lsF_P P N 0 (by unfold lst at h; omega)
theorem lst_not {P : Nat → Prop} {N k : Nat} (h : k < lst P N) : ¬ P k := lsF_not P N 0 k (Nat.zero_le _) h
theorem lst_eq {P : Nat → Prop} {N v : Nat} (hv : v < N) (h : P v) (hn : ∀ j, j < v → ¬ P j) : lst P N = v := by
  rcases Nat.lt_trichotomy (lst P N) v with h1 | h1 | h1
  · exact absurd (lst_P (by omega)) (hn _ h1)
  · exact h1
  · exact absurd h (lst_not h1)
theorem lst_none {P : Nat → Prop} {N : Nat} (hn : ∀ j, j < N → ¬ P j) : lst P N = N := by
  have h1 := lst_le P N
  rcases Nat.lt_or_ge (lst P N) N with h2 | h2
  · exact absurd (lst_P h2) (hn _ h2)
  · omega
theorem lst_congr {P Q : Nat → Prop} {N : Nat} (h : ∀ j, j < N → (P j ↔ Q j)) : lst P N = lst Q N := by
  rcases Nat.lt_or_ge (lst Q N) N with h1 | h1
  · exact lst_eq h1 ((h _ h1).mpr (lst_P h1)) (fun j hj z => lst_not hj ((h j (by omega)).mp z))
  · have h2 := lst_le Q N
    rw [show lst Q N = N by omega]
    exact lst_none (fun j hj z => lst_not (P := Q) (N := N) (by omega) ((h j hj).mp z))
/-- how many -/
noncomputable def cnt (P : Nat → Prop) : Nat → Nat
  | 0 => 0
  | n + 1 => cnt P n + @ite Nat (P n) (Classical.propDecidable _) 1 0
theorem cnt_t {P : Nat → Prop} {n : Nat} (h : P n) : cnt P (n + 1) = cnt P n + 1 := by
  show cnt P n + @ite Nat (P n) (Classical.propDecidable _) 1 0 = _
  rw [if_pos h]
theorem cnt_f {P : Nat → Prop} {n : Nat} (h : ¬ P n) : cnt P (n + 1) = cnt P n := by
  show cnt P n + @ite Nat (P n) (Classical.propDecidable _) 1 0 = _
  rw [if_neg h]
  rfl
theorem cnt_le (P : Nat → Prop) : ∀ n, cnt P n ≤ n
  | 0 => Nat.le_refl _
  | n + 1 => by
    have := cnt_le P n
    by_cases h : P n
    · rw [cnt_t h]; omega
    · rw [cnt_f h]; omega
theorem cnt_congr {P Q : Nat → Prop} : ∀ {n : Nat}, (∀ j, j < n → (P j ↔ Q j)) → cnt P n = cnt Q n
  | 0, _ => rfl
  | n + 1, h => by
    have ih := cnt_congr (n := n) (fun j hj => h j (by omega))
    by_cases hp : P n
    · rw [cnt_t hp, cnt_t ((h n (by omega)).mp hp), ih]
    · rw [cnt_f hp, cnt_f (fun z => hp ((h n (by omega)).mpr z)), ih]
def sumN (f : Nat → Nat) : Nat → Nat
  | 0 => 0
  | n + 1 => sumN f n + f n
def sumI (f : Nat → Int) : Nat → Int
  | 0 => 0
  | n + 1 => sumI f n + f n
def maxN (f : Nat → Nat) : Nat → Nat
  | 0 => 0
  | n + 1 => max (maxN f n) (f n)
theorem sumN_congr {f g : Nat → Nat} : ∀ {n : Nat}, (∀ j, j < n → f j = g j) → sumN f n = sumN g n
  | 0, _ => rfl
  | n + 1, h => by
    show sumN f n + f n = sumN g n + g n
    rw [sumN_congr (fun j hj => h j (by omega)), h n (by omega)]
theorem sumI_congr {f g : Nat → Int} : ∀ {n : Nat}, (∀ j, j < n → f j = g j) → sumI f n = sumI g n
  | 0, _ => rfl
  | n + 1, h => by
    show sumI f n + f n = sumI g n + g n
    rw [sumI_congr (fun j hj => h j (by omega)), h n (by omega)]
theorem maxN_congr {f g : Nat → Nat} : ∀ {n : Nat}, (∀ j, j < n → f j = g j) → maxN f n = maxN g n
  | 0, _ => rfl
  | n + 1, h => by
    show max (maxN f n) (f n) = max (maxN g n) (g n)
    rw [maxN_congr (fun j hj => h j (by omega)), h n (by omega)]
theorem sumN_le {f : Nat → Nat} {b : Nat} : ∀ {n : Nat}, (∀ j, j < n → f j ≤ b) → sumN f n ≤ n * b
  | 0, _ => by simp [sumN]
  | n + 1, h => by
    have ih := sumN_le (fun j hj => h j (by omega)) (n := n)
    have := h n (by omega)
    show sumN f n + f n ≤ (n + 1) * b
    rw [Nat.succ_mul]
    omega
theorem maxN_le {f : Nat → Nat} {b : Nat} : ∀ {n : Nat}, (∀ j, j < n → f j ≤ b) → maxN f n ≤ b
  | 0, _ => Nat.zero_le _
  | n + 1, h => by
    have ih := maxN_le (fun j hj => h j (by omega)) (n := n)
    have := h n (by omega)
    show max (maxN f n) (f n) ≤ b
    omega
/-! lists: n of each; w: who stands there; p: at which place one stands; both by 64 side + 8 one + place -/
def ix (s a k : Nat) : Nat := 64 * s + 8 * a + k
def qInv (n : Nat) (w p : Nat → Nat) : Prop := 1 ≤ n ∧ n ≤ 8 ∧ ∀ s a, s < 2 → a < n → ∀ k, k < n → w (ix s a k) < n ∧ p (ix s a (w (ix s a k))) = k ∧ p (ix s a k) < n ∧ w (ix s a (p (ix s a k))) = k
/-- nobody is 9; the class says -1, the reference -2 -/
def cz (x : Nat) : Int := if x = 9 then -1 else (x : Int)
def mz (x : Nat) : Int := if x = 9 then -2 else (x : Int)
theorem cz_9 : cz 9 = -1 := rfl
theorem mz_9 : mz 9 = -2 := rfl
theorem cz_n {x : Nat} (h : x ≠ 9) : cz x = x := if_neg h
theorem mz_n {x : Nat} (h : x ≠ 9) : mz x = x := if_neg h
/-- a partial match from both sides -/
def qPm (n : Nat) (u v : Nat → Nat) : Prop := (∀ a, a < n → u a = 9 ∨ (u a < n ∧ v (u a) = a)) ∧ ∀ b, b < n → v b = 9 ∨ (v b < n ∧ u (v b) = b)
def blk (p u v : Nat → Nat) (l r : Nat) : Prop := u l ≠ r ∧ (u l = 9 ∨ p (ix 0 l r) < p (ix 0 l (u l))) ∧ (v r = 9 ∨ p (ix 1 r l) < p (ix 1 r (v r)))
def fbP (n : Nat) (p u v : Nat → Nat) (z : Nat) : Prop := z / 10 < n ∧ z % 10 < n ∧ blk p u v (z / 10) (z % 10)
/-- the first who block: 10 times the left, and the right; 99: nobody -/
noncomputable def fbk (n : Nat) (p u v : Nat → Nat) : Nat := lst (fbP n p u v) 99
noncomputable def nbk (n : Nat) (p u v : Nat → Nat) : Nat := sumN (fun l => cnt (fun r => blk p u v l r) n) n
def updF (f : Nat → Nat) (k x : Nat) : Nat → Nat := fun j => if j = k then x else f j
/-- one is alone -/
def pmPartL (u v : Nat → Nat) (l : Nat) : (Nat → Nat) × (Nat → Nat) := (updF u l 9, fun b => if b = u l ∧ u l ≠ 9 then 9 else v b)
def pmJoin (u v : Nat → Nat) (l r : Nat) : (Nat → Nat) × (Nat → Nat) := (fun a => if a = l then r else if u a = r then 9 else u a, fun b => if b = r then l else if v b = l then 9 else v b)
theorem qPm_part {n : Nat} {u v : Nat → Nat} {l : Nat} (h : qPm n u v) (hn : n ≤ 8) (hl : l < n) : qPm n (pmPartL u v l).1 (pmPartL u v l).2 := by
  obtain ⟨h1, h2⟩ := h
  unfold pmPartL updF
  refine ⟨fun a ha => ?_, fun b hb => ?_⟩
  · simp only
    by_cases hal : a = l
    · simp [hal]
    · rw [if_neg hal]
      rcases h1 a ha with h | ⟨h3, h4⟩
      · exact Or.inl h
      · refine Or.inr ⟨h3, ?_⟩
        rw [if_neg]
        · exact h4
        · rintro ⟨h5, h6⟩
          rcases h1 l hl with h7 | ⟨h7, h8⟩
          · exact h6 h7
          · rw [h5] at h4; omega
  · simp only
    by_cases hc : b = u l ∧ u l ≠ 9
    · rw [if_pos hc]; exact Or.inl rfl
    · rw [if_neg hc]
      rcases h2 b hb with h | ⟨h3, h4⟩
      · exact Or.inl h
      · refine Or.inr ⟨h3, ?_⟩
        rw [if_neg]
        · exact h4
        · intro h5
          rw [h5] at h4
          exact hc ⟨h4.symm, by omega⟩
theorem qPm_join {n : Nat} {u v : Nat → Nat} {l r : Nat} (h : qPm n u v) (hn : n ≤ 8) (hl : l < n) (hr : r < n) : qPm n (pmJoin u v l r).1 (pmJoin u v l r).2 := by
  obtain ⟨h1, h2⟩ := h
  unfold pmJoin
  refine ⟨fun a ha => ?_, fun b hb => ?_⟩
  · simp only
    by_cases hal : a = l
    · rw [if_pos hal]; right; exact ⟨hr, by rw [if_pos rfl]; exact hal.symm⟩
    · rw [if_neg hal]
      by_cases har : u a = r
      · rw [if_pos har]; exact Or.inl rfl
      · rw [if_neg har]
        rcases h1 a ha with h | ⟨h3, h4⟩
        · exact Or.inl h
        · refine Or.inr ⟨h3, ?_⟩
          rw [if_neg har, if_neg (by omega)]
          exact h4
  · simp only
    by_cases hbr : b = r
    · rw [if_pos hbr]; right; exact ⟨hl, by rw [if_pos rfl]; exact hbr.symm⟩
    · rw [if_neg hbr]
      by_cases hbl : v b = l
      · rw [if_pos hbl]; exact Or.inl rfl
      · rw [if_neg hbl]
        rcases h2 b hb with h | ⟨h3, h4⟩
        · exact Or.inl h
        · refine Or.inr ⟨h3, ?_⟩
          rw [if_neg hbl, if_neg (by omega)]
          exact h4
/-! what the memory holds -/
def qAt (M : qm_M) (c n : Nat) (f : Nat → Nat) : Prop := ∀ s a k, s < 2 → a < n → k < n → M c (ix s a k) = (f (ix s a k) : Int)
def qLR (M : qm_M) (o n : Nat) (w p : Nat → Nat) : Prop := M o 2 = (n : Int) ∧ qAt M (o + 2) n w ∧ qAt M (o + 4) n p ∧ qInv n w p
def qPR (M : qm_M) (q n : Nat) (u v : Nat → Nat) : Prop := (∀ a, a < n → M (q + 2) a = cz (u a)) ∧ (∀ b, b < n → M (q + 2) (8 + b) = cz (v b)) ∧ qPm n u v
theorem cell3_ix {s a k : Nat} (hs : s < 2) (ha : a < 8) (hk : k < 8) : cell3 (s : Int) (a : Int) (k : Int) = (ix s a k : Nat) := by
  unfold cell3 ix
  rw [if_pos (by omega)]
  omega
theorem gRow_in {M : qm_M} {c n i : Nat} (h : i < n) : gRow M c n (i : Int) = M c i := by
  unfold gRow
  rw [if_pos (by omega), Int.toNat_natCast]
theorem gRow_out {M : qm_M} {c n : Nat} {i : Int} (h : i < 0 ∨ (n : Int) ≤ i) : gRow M c n i = -1 := by
  unfold gRow
  rw [if_neg (by omega)]
theorem sRow_in {M : qm_M} {c n i : Nat} {v : Int} (h : i < n) : sRow M c n (i : Int) v = qm_u M c i v := by
  unfold sRow
  rw [if_pos (by omega), Int.toNat_natCast]
theorem sRow_out {M : qm_M} {c n : Nat} {i v : Int} (h : i < 0 ∨ (n : Int) ≤ i) : sRow M c n i v = M := by
  unfold sRow
  rw [if_neg (by omega)]
theorem cell2_ix {s a : Nat} (hs : s < 2) (ha : a < 8) : cell2 (s : Int) (a : Int) = (8 * s + a : Nat) := by
  unfold cell2
  rw [if_pos (by omega)]
  omega
theorem cell2_out {s a : Int} (h : a < 0 ∨ 8 ≤ a) : cell2 s a = -1 := by
  unfold cell2
  rw [if_neg (by omega)]
theorem ix_lt {s a k : Nat} (hs : s < 2) (ha : a < 8) (hk : k < 8) : ix s a k < 128 := by unfold ix; omega
theorem gWho_n {M : qm_M} {o n : Nat} {w p : Nat → Nat} {s a k : Nat} (h : qLR M o n w p) (hs : s < 2) (ha : a < n) (hk : k < n) : gWho M o (s : Int) (a : Int) (k : Int) = (w (ix s a k) : Int) := by
  have h8 := h.2.2.2.2.1
  unfold gWho
  rw [cell3_ix hs (by omega) (by omega), gRow_in (ix_lt hs (by omega) (by omega))]
  exact h.2.1 s a k hs ha hk
theorem gPl_n {M : qm_M} {o n : Nat} {w p : Nat → Nat} {s a k : Nat} (h : qLR M o n w p) (hs : s < 2) (ha : a < n) (hk : k < n) : gPl M o (s : Int) (a : Int) (k : Int) = (p (ix s a k) : Int) := by
  have h8 := h.2.2.2.2.1
  unfold gPl
  rw [cell3_ix hs (by omega) (by omega), gRow_in (ix_lt hs (by omega) (by omega))]
  exact h.2.2.1 s a k hs ha hk
theorem gPar_l {M : qm_M} {q n : Nat} {u v : Nat → Nat} {a : Nat} (h : qPR M q n u v) (hn : n ≤ 8) (ha : a < n) : gPar M q 0 (a : Int) = cz (u a) := by
  unfold gPar
  rw [show cell2 0 (a : Int) = (8 * 0 + a : Nat) from cell2_ix (s := 0) (by omega) (by omega), gRow_in (by omega)]
  have := h.1 a ha
  simpa using this
theorem gPar_r {M : qm_M} {q n : Nat} {u v : Nat → Nat} {b : Nat} (h : qPR M q n u v) (hn : n ≤ 8) (hb : b < n) : gPar M q 1 (b : Int) = cz (v b) := by
  unfold gPar
  rw [show cell2 1 (b : Int) = (8 * 1 + b : Nat) from cell2_ix (s := 1) (by omega) (by omega), gRow_in (by omega)]
  exact h.2.1 b hb
theorem cz_neg {x : Nat} (h : x < 9) : ¬ cz x = -1 := by rw [cz_n (by omega)]; omega
theorem cz_iff {x : Nat} : cz x = -1 ↔ x = 9 := by
  constructor
  · intro h
    unfold cz at h
    split at h
    · assumption
    · omega
  · intro h; rw [h]; rfl
theorem mz_iff {x : Nat} : mz x = -2 ↔ x = 9 := by
  constructor
  · intro h
    unfold mz at h
    split at h
    · assumption
    · omega
  · intro h; rw [h]; rfl
