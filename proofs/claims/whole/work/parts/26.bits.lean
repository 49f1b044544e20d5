/-! numbers as rows of bits -/
theorem i32_nat {a : Nat} (h : a < 2147483648) : ((Int32.ofInt (a : Int)).toBitVec).toNat = a := by
  rw [Int32.toBitVec_ofInt, BitVec.ofInt_natCast, BitVec.toNat_ofNat]
  omega
theorem i32_back {x : Int32} {a : Nat} (h : a < 2147483648) (e : x.toBitVec.toNat = a) : x.toInt = (a : Int) := by
  show x.toBitVec.toInt = _
  rw [BitVec.toInt_eq_toNat_of_lt (by omega), e]
theorem and_lt31 {a b : Nat} (h : a < 2147483648) : a &&& b < 2147483648 := Nat.lt_of_le_of_lt Nat.and_le_left h
theorem or_lt31 {a b : Nat} (h : a < 2147483648) (h2 : b < 2147483648) : a ||| b < 2147483648 := Nat.or_lt_two_pow (n := 31) h h2
theorem qb_and {a b : Nat} (ha : a < 2147483648) (hb : b < 2147483648) : qm_and (a : Int) (b : Int) = ((a &&& b : Nat) : Int) := by
  unfold qm_and
  refine i32_back (and_lt31 ha) ?_
  rw [Int32.toBitVec_and, BitVec.toNat_and, i32_nat ha, i32_nat hb]
theorem qb_or {a b : Nat} (ha : a < 2147483648) (hb : b < 2147483648) : qm_or (a : Int) (b : Int) = ((a ||| b : Nat) : Int) := by
  unfold qm_or
  refine i32_back (or_lt31 ha hb) ?_
  rw [Int32.toBitVec_or, BitVec.toNat_or, i32_nat ha, i32_nat hb]
theorem pow_lt31 {t : Nat} (h : t < 31) : 2 ^ t < 2147483648 := show 2 ^ t < 2 ^ 31 from Nat.pow_lt_pow_right (by decide) h
theorem qb_shl1 : ∀ t : Nat, t < 31 → qm_shl 1 (t : Int) = ((2 ^ t : Nat) : Int) := by decide
theorem sh_amt : ∀ t : Nat, t < 32 → (Int32.ofInt (t : Int) &&& 31).toBitVec = BitVec.ofNat 32 t := by decide
theorem qb_shr {a t : Nat} (ha : a < 2147483648) (ht : t < 32) : qm_shr (a : Int) (t : Int) = ((a >>> t : Nat) : Int) := by
  unfold qm_shr
  have hle : a >>> t ≤ a := by rw [Nat.shiftRight_eq_div_pow]; exact Nat.div_le_self _ _
  refine i32_back (by omega) ?_
  rw [Int32.toBitVec_shiftRight]
  rw [sh_amt t ht]
  have h1 : ∀ t : Nat, t < 32 → (BitVec.smod (BitVec.ofNat 32 t) 32).toNat = t := by decide
  have hm : (Int32.ofInt (a : Int)).toBitVec.msb = false := by
    rw [BitVec.msb_eq_false_iff_two_mul_lt, i32_nat ha]
    omega
  show (BitVec.sshiftRight _ _).toNat = _
  rw [h1 t ht, BitVec.sshiftRight_eq_of_msb_false hm, BitVec.toNat_ushiftRight, i32_nat ha]
theorem qb_bit {a t : Nat} (ha : a < 2147483648) (ht : t < 32) : qm_and (qm_shr (a : Int) (t : Int)) 1 = if a.testBit t = true then 1 else 0 := by
  have hle : a >>> t ≤ a := by rw [Nat.shiftRight_eq_div_pow]; exact Nat.div_le_self _ _
  rw [qb_shr ha ht]
  have := qb_and (a := a >>> t) (b := 1) (by omega) (by decide)
  rw [show ((1 : Nat) : Int) = 1 from rfl] at this
  rw [this, Nat.and_one_is_mod]
  have h2 : a.testBit t = (a >>> t % 2 == 1) := by
    rw [Nat.testBit, Nat.and_comm, Nat.and_one_is_mod]
    rcases Nat.mod_two_eq_zero_or_one (a >>> t) with h | h <;> rw [h] <;> rfl
  rw [h2]
  rcases Nat.mod_two_eq_zero_or_one (a >>> t) with h | h <;> rw [h] <;> rfl
/-- what isn't of b -/
theorem qb_sub {a b : Nat} (ha : a < 2147483648) (hb : b < 2147483648) : qm_and (a : Int) (qm_xor (b : Int) (-1)) = 0 ↔ ∀ t, a.testBit t = true → b.testBit t = true := by
  have e : qm_and (a : Int) (qm_xor (b : Int) (-1)) = ((Int32.ofInt (a : Int)).toBitVec &&& ~~~ (Int32.ofInt (b : Int)).toBitVec).toInt := by
    unfold qm_and qm_xor
    rw [Int32.ofInt_toInt]
    show (Int32.toBitVec _).toInt = _
    rw [Int32.toBitVec_and, Int32.toBitVec_xor]
    rw [show (Int32.ofInt (-1)).toBitVec = BitVec.allOnes 32 by decide, BitVec.xor_allOnes]
  rw [e]
  have key : ((Int32.ofInt (a : Int)).toBitVec &&& ~~~ (Int32.ofInt (b : Int)).toBitVec).toInt = 0 ↔ ((Int32.ofInt (a : Int)).toBitVec &&& ~~~ (Int32.ofInt (b : Int)).toBitVec) = 0#32 := by
    rw [← BitVec.toInt_inj, BitVec.toInt_zero]
  have ha2 := i32_nat ha
  have hb2 := i32_nat hb
  have ga : ∀ i, (Int32.ofInt (a : Int)).toBitVec.getLsbD i = a.testBit i := fun i => by
    show Nat.testBit _ _ = _
    rw [ha2]
  have gb : ∀ i, (Int32.ofInt (b : Int)).toBitVec.getLsbD i = b.testBit i := fun i => by
    show Nat.testBit _ _ = _
    rw [hb2]
  rw [key]
  constructor
  · intro h t ht
    have h3 := congrArg (fun x => BitVec.getLsbD x t) h
    simp only [BitVec.getLsbD_and, BitVec.getLsbD_not, ga, gb, ht, BitVec.getLsbD_zero, Bool.true_and] at h3
    have h32 : t < 32 := by
      rcases Nat.lt_or_ge t 31 with q | q
      · omega
      · rw [Nat.testBit_lt_two_pow (Nat.lt_of_lt_of_le (show a < 2 ^ 31 from ha) (Nat.pow_le_pow_right (by decide) q))] at ht
        exact Bool.noConfusion ht
    simp only [h32, decide_true, Bool.true_and, Bool.not_eq_false'] at h3
    exact h3
  · intro h
    refine BitVec.eq_of_getLsbD_eq (fun i hi => ?_)
    simp only [BitVec.getLsbD_and, BitVec.getLsbD_not, ga, gb, BitVec.getLsbD_zero]
    have := h i
    cases ha3 : a.testBit i with
    | false => rfl
    | true => rw [this ha3]; simp
/-- a row of bits of a property -/
noncomputable def bits (P : Nat → Prop) : Nat → Nat
  | 0 => 0
  | t + 1 => bits P t + @ite Nat (P t) (Classical.propDecidable _) (2 ^ t) 0
theorem bits_lt (P : Nat → Prop) : ∀ t, bits P t < 2 ^ t
  | 0 => Nat.zero_lt_one
  | t + 1 => by
    have := bits_lt P t
    show bits P t + @ite Nat (P t) (Classical.propDecidable _) (2 ^ t) 0 < 2 ^ (t + 1)
    rw [Nat.pow_succ]
    split <;> omega
theorem bits_congr {P Q : Nat → Prop} : ∀ {T : Nat}, (∀ t, t < T → (P t ↔ Q t)) → bits P T = bits Q T
  | 0, _ => rfl
  | T + 1, h => by
    show bits P T + @ite Nat (P T) (Classical.propDecidable _) (2 ^ T) 0 = bits Q T + @ite Nat (Q T) (Classical.propDecidable _) (2 ^ T) 0
    rw [bits_congr (fun t ht => h t (by omega)), propext (h T (by omega))]
theorem bits_test {P : Nat → Prop} : ∀ {T t : Nat}, (bits P T).testBit t = true ↔ t < T ∧ P t
  | 0, t => by
    show (0 : Nat).testBit t = true ↔ _
    rw [Nat.zero_testBit]
    exact ⟨fun h => (Bool.noConfusion h), fun h => absurd h.1 (Nat.not_lt_zero _)⟩
  | T + 1, t => by
    have ih := bits_test (P := P) (T := T) (t := t)
    have hlt := bits_lt P T
    show (bits P T + @ite Nat (P T) (Classical.propDecidable _) (2 ^ T) 0).testBit t = true ↔ _
    by_cases hT : P T
    · rw [if_pos hT, Nat.add_comm]
      rcases Nat.lt_trichotomy t T with h | h | h
      · rw [Nat.testBit_two_pow_add_gt h, ih]
        exact ⟨fun z => ⟨by omega, z.2⟩, fun z => ⟨h, z.2⟩⟩
      · subst h
        rw [Nat.testBit_two_pow_add_eq, Nat.testBit_lt_two_pow hlt]
        exact ⟨fun _ => ⟨by omega, hT⟩, fun _ => rfl⟩
      · rw [Nat.testBit_lt_two_pow (Nat.lt_of_lt_of_le (show 2 ^ T + bits P T < 2 ^ (T + 1) by rw [Nat.pow_succ]; omega) (Nat.pow_le_pow_right (by decide) h))]
        exact ⟨fun z => Bool.noConfusion z, fun z => absurd z.1 (by omega)⟩
    · rw [if_neg hT, Nat.add_zero, ih]
      exact ⟨fun z => ⟨by omega, z.2⟩, fun z => ⟨by rcases Nat.lt_or_ge t T with q | q; exact q; exact absurd z.2 (by rw [show t = T by omega]; exact hT), z.2⟩⟩
theorem bits_ext {a b : Nat} (h : ∀ t, a.testBit t = true ↔ b.testBit t = true) : a = b := Nat.eq_of_testBit_eq (fun t => Bool.eq_iff_iff.mpr (h t))
theorem bits_bS {a T : Nat} (h : a < 2 ^ T) : bits (bS a) T = a := bits_ext (fun t => by
  rw [bits_test]
  refine ⟨fun z => z.2, fun z => ⟨?_, z⟩⟩
  rcases Nat.lt_or_ge t T with q | q
  · exact q
  · rw [Nat.testBit_lt_two_pow (Nat.lt_of_lt_of_le h (Nat.pow_le_pow_right (by decide) q))] at z
    exact Bool.noConfusion z)
theorem bits_lt31 {P : Nat → Prop} {t : Nat} (h : t ≤ 31) : bits P t < 2147483648 := Nat.lt_of_lt_of_le (bits_lt P t) (show 2 ^ t ≤ 2 ^ 31 from Nat.pow_le_pow_right (by decide) h)
theorem pow_test {t u : Nat} : (2 ^ t).testBit u = true ↔ t = u := by
  rw [Nat.testBit_two_pow]
  exact decide_eq_true_iff
theorem or_test {a b t : Nat} : (a ||| b).testBit t = true ↔ (a.testBit t = true ∨ b.testBit t = true) := by
  rw [Nat.testBit_or, Bool.or_eq_true]
theorem and_test {a b t : Nat} : (a &&& b).testBit t = true ↔ (a.testBit t = true ∧ b.testBit t = true) := by
  rw [Nat.testBit_and, Bool.and_eq_true]
/-- one more -/
theorem bits_or {P : Nat → Prop} {T t : Nat} (h : t < T) : bits P T ||| 2 ^ t = bits (fun u => P u ∨ u = t) T := bits_ext (fun u => by
  rw [or_test, bits_test, bits_test, pow_test]
  refine ⟨fun z => z.elim (fun z => ⟨z.1, Or.inl z.2⟩) (fun z => ⟨by omega, Or.inr z.symm⟩), fun z => z.2.elim (fun q => Or.inl ⟨z.1, q⟩) (fun q => Or.inr q.symm)⟩)
