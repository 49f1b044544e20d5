/-! the closed sets in the order of their numbers -/
def cQ (n : Nat) (w p : Nat → Nat) (x : Nat) : Prop := rId n w p (bS x)
noncomputable def cC (n : Nat) (w p : Nat → Nat) (x : Nat) : Nat := cnt (cQ n w p) x
noncomputable def cN (n : Nat) (w p : Nat → Nat) : Nat := cC n w p (2 ^ rT n w p)
noncomputable def cE (n : Nat) (w p : Nat → Nat) (m : Nat) : Nat := lst (fun x => cQ n w p x ∧ cC n w p x = m) (2 ^ rT n w p)
theorem cnt_at {P : Nat → Prop} : ∀ {N m : Nat}, m < cnt P N → ∃ x, x < N ∧ P x ∧ cnt P x = m
  | 0, _, h => absurd h (Nat.not_lt_zero _)
  | N + 1, m, h => by
    by_cases hm : m < cnt P N
    · obtain ⟨x, h1, h2⟩ := cnt_at hm
      exact ⟨x, by omega, h2⟩
    · by_cases hP : P N
      · rw [cnt_t hP] at h
        exact ⟨N, by omega, hP, by omega⟩
      · rw [cnt_f hP] at h
        omega
theorem cnt_one {P : Nat → Prop} {x y : Nat} (hx : P x) (hy : P y) (h : cnt P x = cnt P y) : x = y := by
  rcases Nat.lt_trichotomy x y with q | q | q
  · have := cnt_lt q hx; omega
  · exact q
  · have := cnt_lt q hy; omega
theorem cQ_lt {n : Nat} {w p : Nat → Nat} {x : Nat} (h : cQ n w p x) : x < 2 ^ rT n w p := Nat.lt_pow_two_of_testBit x (fun i hi => by
  cases hx : x.testBit i with
  | false => rfl
  | true => exact absurd (h.1 i hx) (by omega))
theorem pow28 {T : Nat} (h : T ≤ 28) : 2 ^ T ≤ 268435456 := show 2 ^ T ≤ 2 ^ 28 from Nat.pow_le_pow_right (by decide) h
theorem cQ_31 {n : Nat} {w p : Nat → Nat} {x : Nat} (hI : qInv n w p) (h : cQ n w p x) : x < 268435456 := Nat.lt_of_lt_of_le (cQ_lt h) (pow28 (r_T hI).1)
theorem cE_spec {n : Nat} {w p : Nat → Nat} {m : Nat} (h : m < cN n w p) : cE n w p m < 2 ^ rT n w p ∧ cQ n w p (cE n w p m) ∧ cC n w p (cE n w p m) = m := by
  obtain ⟨x, h1, h2, h3⟩ := cnt_at h
  have e : cE n w p m = x := lst_eq h1 ⟨h2, h3⟩ (fun j _ z => by
    have := cnt_one (P := cQ n w p) z.1 h2 (by rw [h3]; exact z.2)
    omega)
  rw [e]
  exact ⟨h1, h2, h3⟩
theorem cE_of {n : Nat} {w p : Nat → Nat} {x : Nat} (h : cQ n w p x) : cE n w p (cC n w p x) = x ∧ cC n w p x < cN n w p := by
  have h1 := cQ_lt h
  refine ⟨lst_eq h1 ⟨h, rfl⟩ (fun j _ z => ?_), cnt_lt h1 h⟩
  have := cnt_one (P := cQ n w p) z.1 h z.2
  omega
theorem cN_le {n : Nat} {w p : Nat → Nat} (hI : qInv n w p) : cN n w p ≤ 4096 := closed_few hI
theorem bS_0 {t : Nat} : ¬ bS 0 t := by
  unfold bS
  rw [Nat.zero_testBit]
  decide
theorem cQ_0 {n : Nat} {w p : Nat → Nat} : cQ n w p 0 := ⟨fun t h => absurd h bS_0, fun t u h => absurd h bS_0⟩
theorem cC_1 {n : Nat} {w p : Nat → Nat} : cC n w p (2 ^ 0) = 1 := by
  show cnt (cQ n w p) 1 = 1
  rw [cnt_t cQ_0]
  rfl
theorem bS_hi {t x u : Nat} (hx : x < 2 ^ t) : bS (2 ^ t + x) u ↔ bS x u ∨ u = t := by
  unfold bS
  rcases Nat.lt_trichotomy u t with h | h | h
  · rw [Nat.testBit_two_pow_add_gt h]
    exact ⟨fun z => Or.inl z, fun z => z.elim id (fun q => absurd q (by omega))⟩
  · subst h
    rw [Nat.testBit_two_pow_add_eq, Nat.testBit_lt_two_pow hx]
    exact ⟨fun _ => Or.inr rfl, fun _ => rfl⟩
  · have h1 : 2 ^ t + x < 2 ^ u := Nat.lt_of_lt_of_le (show 2 ^ t + x < 2 ^ (t + 1) by rw [Nat.pow_succ]; omega) (Nat.pow_le_pow_right (by decide) h)
    rw [Nat.testBit_lt_two_pow h1, Nat.testBit_lt_two_pow (show x < 2 ^ u by omega)]
    exact ⟨fun z => Bool.noConfusion z, fun z => z.elim (fun q => Bool.noConfusion q) (fun q => absurd q (by omega))⟩
theorem bS_lt {t x u : Nat} (hx : x < 2 ^ t) (h : bS x u) : u < t := by
  rcases Nat.lt_or_ge u t with q | q
  · exact q
  · unfold bS at h
    rw [Nat.testBit_lt_two_pow (Nat.lt_of_lt_of_le hx (Nat.pow_le_pow_right (by decide) q))] at h
    exact Bool.noConfusion h
def crd (n : Nat) (w p : Nat → Nat) (t x : Nat) : Prop := ∀ u, rNd n w p t u → bS x u
theorem cQ_hi {n : Nat} {w p : Nat → Nat} {t x : Nat} (ht : t < rT n w p) (hx : x < 2 ^ t) : cQ n w p (2 ^ t + x) ↔ cQ n w p x ∧ crd n w p t x := by
  constructor
  · intro h
    refine ⟨⟨fun u hu => h.1 u ((bS_hi hx).mpr (Or.inl hu)), fun a u ha hu => ?_⟩, fun u hu => ?_⟩
    · have h1 := (bS_hi hx).mp (h.2 a u ((bS_hi hx).mpr (Or.inl ha)) hu)
      have := Nd_lt hu
      have := bS_lt hx ha
      exact h1.elim id (fun q => absurd q (by omega))
    · have h1 := (bS_hi hx).mp (h.2 t u ((bS_hi hx).mpr (Or.inr rfl)) hu)
      have := Nd_lt hu
      exact h1.elim id (fun q => absurd q (by omega))
  · rintro ⟨h1, h2⟩
    refine ⟨fun u hu => ?_, fun a u ha hu => ?_⟩
    · rcases (bS_hi hx).mp hu with q | q
      · exact h1.1 u q
      · omega
    · rcases (bS_hi hx).mp ha with q | q
      · exact (bS_hi hx).mpr (Or.inl (h1.2 a u q hu))
      · rw [q] at hu
        exact (bS_hi hx).mpr (Or.inl (h2 u hu))
theorem cC_hi {n : Nat} {w p : Nat → Nat} {t : Nat} (ht : t < rT n w p) : ∀ x, x ≤ 2 ^ t → cC n w p (2 ^ t + x) = cC n w p (2 ^ t) + cnt (fun m => crd n w p t (cE n w p m)) (cC n w p x)
  | 0, _ => rfl
  | x + 1, h => by
    have ih := cC_hi ht x (by omega)
    have hq := cQ_hi (n := n) (w := w) (p := p) ht (show x < 2 ^ t by omega)
    have e1 : cC n w p (2 ^ t + (x + 1)) = cnt (cQ n w p) (2 ^ t + x + 1) := rfl
    have e2 : cC n w p (x + 1) = cnt (cQ n w p) (x + 1) := rfl
    rw [e1, e2]
    by_cases hx : cQ n w p x
    · rw [cnt_t hx]
      have e3 : cE n w p (cnt (cQ n w p) x) = x := (cE_of hx).1
      by_cases hr : crd n w p t x
      · rw [cnt_t (hq.mpr ⟨hx, hr⟩), cnt_t (P := fun m => crd n w p t (cE n w p m)) (by rw [e3]; exact hr)]
        exact congrArg (· + 1) ih
      · rw [cnt_f (fun z => hr (hq.mp z).2), cnt_f (P := fun m => crd n w p t (cE n w p m)) (by rw [e3]; exact hr)]
        exact ih
    · rw [cnt_f hx, cnt_f (fun z => hx (hq.mp z).1)]
      exact ih
def qCl (M : qm_M) (n : Nat) (w p : Nat → Nat) (k : Nat) : Prop := M 47 1 = (k : Int) ∧ ∀ m, m < k → M 49 m = (cE n w p m : Int)
/-- the matches as they are kept -/
def qMs (M : qm_M) (n : Nat) (w p : Nat → Nat) : Prop := qCl M n w p (cN n w p) ∧ qPR M 50 n (rU n w p 0) (rV n w p 0)
theorem cE_31 {n : Nat} {w p : Nat → Nat} {m : Nat} (hI : qInv n w p) (h : m < cN n w p) : cE n w p m < 2147483648 := by
  have := cQ_31 hI (cE_spec h).2.1
  omega
theorem or_hi {t x : Nat} (hx : x < 2 ^ t) (ht : t < 28) : qm_or (x : Int) (qm_shl 1 (t : Int)) = ((2 ^ t + x : Nat) : Int) := by
  have h1 := pow28 (show t ≤ 28 by omega)
  rw [qb_shl1 t (by omega), qb_or (by omega) (by omega)]
  refine congrArg Nat.cast (bits_ext (fun u => ?_))
  rw [or_test, pow_test]
  have := bS_hi (u := u) hx
  unfold bS at this
  rw [this]
  exact ⟨fun z => z.imp id Eq.symm, fun z => z.imp id Eq.symm⟩
theorem mV_0 {n : Nat} {w p : Nat → Nat} (hI : qInv n w p) {b : Nat} (hb : b < n) : mV n w p (fun _ => False) b = rV n w p 0 b := by
  have h1 := (r_qMt hI 0).2 b hb
  have h2 := (m_inv hI Id_0 h1.1).2
  rw [m_0 hI, h1.2] at h2
  exact h2
def sT (z t : Nat) : Nat → Prop := fun u => bS z u ∧ u < t
theorem sT_id {n : Nat} {w p : Nat → Nat} {z t : Nat} (h : cQ n w p z) : rId n w p (sT z t) := ⟨fun u hu => h.1 u hu.1, fun a u ha hu => ⟨h.2 a u ha.1 hu, by have := Nd_lt hu; have := ha.2; omega⟩⟩
theorem sT_0 {z : Nat} : sT z 0 = fun _ => False := S_ext (fun u => ⟨fun h => Nat.not_lt_zero _ h.2, fun h => h.elim⟩)
theorem sT_f {z t : Nat} (h : ¬ bS z t) : sT z (t + 1) = sT z t := S_ext (fun u => ⟨fun q => ⟨q.1, by rcases Nat.lt_or_ge u t with r | r; exact r; exact absurd q.1 (by rw [show u = t by have := q.2; omega]; exact h)⟩, fun q => ⟨q.1, by have := q.2; omega⟩⟩)
theorem sT_t {z t : Nat} (h : bS z t) : sT z (t + 1) = fun x => sT z t x ∨ x = t := S_ext (fun u => ⟨fun q => by
  rcases Nat.lt_or_ge u t with r | r
  · exact Or.inl ⟨q.1, r⟩
  · exact Or.inr (by have := q.2; omega), fun q => by
  rcases q with q | q
  · exact ⟨q.1, by have := q.2; omega⟩
  · rw [q]; exact ⟨h, by omega⟩⟩)
theorem sT_T {n : Nat} {w p : Nat → Nat} {z : Nat} (h : cQ n w p z) : sT z (rT n w p) = bS z := S_ext (fun u => ⟨fun q => q.1, fun q => ⟨q, h.1 u q⟩⟩)
theorem en_Mat_total {T : qm_L}  {d : Nat} {K : qm_K} {M : qm_M}  (h :
    K (.inl ((M 47 1))) (qL T) M) : qm_Runs qm_P (d + 1) 39 [(.inr (some 47))] (qL T) M K :=
  And.intro (Nat.le_of_ble_eq_true rfl) (show qm_TT qi_39 (qm_Runs qm_P (d + 0)) K 0 [some (.inr (some 47))] [] (qL T) M 0 0 from qm_wp_TT [] 6 (And.intro (lf_47_1 T) (h)))
theorem s_Mat_total {T : qm_L}  {d : Nat} {K : qm_K} {M : qm_M}   (hK : K (.inl (M 47 1)) (qL T) M) : qm_Runs qm_P (d + 1) 39 [(.inr (some 47))] (qL T) M K :=
  en_Mat_total   hK
theorem en_Mat_isMatch {T : qm_L}  {d : Nat} {K : qm_K} {M : qm_M} {m : Int} (h :
    (m < 0 →
     K (.inl 0) (qL T) M) ∧
    (¬ m < 0 →
     ((M 47 1) ≤ m →
      K (.inl 0) (qL T) M) ∧
     (¬ (M 47 1) ≤ m →
      K (.inl 1) (qL T) M))) : qm_Runs qm_P (d + 1) 40 [(.inr (some 47)), (.inl m)] (qL T) M K :=
  And.intro (Nat.le_of_ble_eq_true rfl) (show qm_TT qi_40 (qm_Runs qm_P (d + 0)) K 0 [some (.inr (some 47)), some (.inl m)] [] (qL T) M 0 0 from qm_wp_TT [] 12 (And.intro (fun q1 => And.intro (Or.inl rfl) (h.1 q1)) (fun q2 => And.intro (lf_47_1 T) (And.intro (fun q3 => And.intro (Or.inl rfl) ((h.2 q2).1 q3)) (fun q4 => And.intro (Or.inr rfl) ((h.2 q2).2 q4))))))
theorem s_Mat_isMatch {T : qm_L}  {d : Nat} {K : qm_K} {M : qm_M} {m : Int}  (hK : K (.inl (qm_b (0 ≤ m ∧ m < M 47 1))) (qL T) M) : qm_Runs qm_P (d + 1) 40 [(.inr (some 47)), (.inl m)] (qL T) M K := by
  refine en_Mat_isMatch   ?_
  repeat' first | (intro _) | (refine And.intro ?_ ?_)
  all_goals first | exact qk_eq hK (qm_bt (by omega)) | exact qk_eq hK (qm_bff (by omega))
theorem en_Mat_bits {T : qm_L}  {d : Nat} {K : qm_K} {M : qm_M} {m : Int} (h :
    K (.inl ((gRow M 49 4096 m))) (qL T) M) : qm_Runs qm_P (d + 2) 41 [(.inr (some 47)), (.inl m)] (qL T) M K :=
  And.intro (Nat.le_of_ble_eq_true rfl) (show qm_TT qi_41 (qm_Runs qm_P (d + 1)) K 0 [some (.inr (some 47)), some (.inl m)] [] (qL T) M 0 0 from qm_wp_TT [] 8 (Exists.intro 48 (And.intro (lf_47_0 T) (And.intro (lo_48 T) (s_Row_get (d := d + 0) (lRow_48 T)  (h))))))
theorem s_Mat_bits {T : qm_L}  {d : Nat} {K : qm_K} {M : qm_M} {m : Int}  (hK : K (.inl (gRow M 49 4096 m)) (qL T) M) : qm_Runs qm_P (d + 2) 41 [(.inr (some 47)), (.inl m)] (qL T) M K :=
  en_Mat_bits   hK
def at_Mat_numberOf_2 (T : qm_L) (d : Nat) (K : qm_K) (M : qm_M) (x1 x2 : Int) : Prop := qm_TT qi_42 (qm_Runs qm_P (d + 1)) K 2 [some (.inr (some 47)), some (.inl x1), some (.inl x2)] [] (qL T) M 0 0
theorem rg_Mat_numberOf_2 {T : qm_L}  {d : Nat} {K : qm_K} {M : qm_M} {x1 x2 : Int} (h :
    ((M 47 1) ≤ x2 →
     K (.inl ((-2))) (qL T) M) ∧
    (¬ (M 47 1) ≤ x2 →
     ((gRow M 49 4096 x2) ≠ x1 →
      qm_R (x2 + 1) ∧
      at_Mat_numberOf_2 T d K M x1 ((x2 + 1))) ∧
     (¬ (gRow M 49 4096 x2) ≠ x1 →
      K (.inl x2) (qL T) M))) : at_Mat_numberOf_2 T d K M x1 x2 :=
  qm_wp_TT [2] 16 (And.intro (lf_47_1 T) (And.intro (fun q1 => (h.1 q1)) (fun q2 => Exists.intro 48 (And.intro (lf_47_0 T) (And.intro (lo_48 T) (s_Row_get (d := d + 0) (lRow_48 T)  (And.intro (fun q3 => And.intro ((h.2 q2).1 q3).1 (((h.2 q2).1 q3).2)) (fun q4 => ((h.2 q2).2 q4)))))))))
theorem en_Mat_numberOf {T : qm_L}  {d : Nat} {K : qm_K} {M : qm_M} {x : Int} (h :
    at_Mat_numberOf_2 T d K M x 0) : qm_Runs qm_P (d + 2) 42 [(.inr (some 47)), (.inl x)] (qL T) M K :=
  And.intro (Nat.le_of_ble_eq_true rfl) (show qm_TT qi_42 (qm_Runs qm_P (d + 1)) K 0 [some (.inr (some 47)), some (.inl x), none] [] (qL T) M 0 0 from qm_wp_TT [2] 16 (h))
theorem lp_Mat_numberOf {T : qm_L} {d : Nat} {K : qm_K} {M : qm_M} {n z : Nat} {w p : Nat → Nat} (hI : qInv n w p) (hM : qMs M n w p) (hK : K (.inl (@ite Int (cQ n w p z) (Classical.propDecidable _) (cC n w p z : Int) (-2))) (qL T) M) : ∀ (j m : Nat), m + j = cN n w p → (∀ i, i < m → cE n w p i ≠ z) → at_Mat_numberOf_2 T d K M (z : Int) (m : Int)
  | 0, m, hm, hn => by
    refine rg_Mat_numberOf_2 (And.intro (fun _ => ?_) (fun h => absurd h (by rw [hM.1.1]; omega)))
    rw [if_neg (fun q => by
      have := cE_of q
      exact hn _ (by omega) this.1)] at hK
    exact hK
  | j + 1, m, hm, hn => by
    have h4 := cN_le hI
    have hs := cE_spec (n := n) (w := w) (p := p) (m := m) (by omega)
    refine rg_Mat_numberOf_2 (And.intro (fun h => absurd h (by rw [hM.1.1]; omega)) (fun _ => ?_))
    rw [gRow_in (by omega), hM.1.2 m (by omega)]
    refine And.intro (fun h => And.intro (by unfold qm_R; omega) (lp_Mat_numberOf hI hM hK j (m + 1) (by omega) (fun i hi => ?_))) (fun h => ?_)
    · by_cases him : i = m
      · rw [him]; exact fun z => h (by rw [z])
      · exact hn i (by omega)
    · have e : cE n w p m = z := by have := Classical.not_not.mp h; omega
      rw [e] at hs
      rw [if_pos hs.2.1, hs.2.2] at hK
      exact hK
theorem s_Mat_numberOf {T : qm_L} {n z : Nat} {w p : Nat → Nat} {d : Nat} {K : qm_K} {M : qm_M} {x : Int} (hp0 : qInv n w p ∧ qMs M n w p) (hp1 : x = (z : Int)) (hK : K (.inl ((@ite Int (cQ n w p z) (Classical.propDecidable _) (cC n w p z : Int) (-2)))) (qL T) M) : qm_Runs qm_P (d + 2) 42 [(.inr (some 47)), (.inl x)] (qL T) M K := by
  refine en_Mat_numberOf   ?_
  obtain ⟨hI, hM⟩ := hp0
  subst hp1
  exact lp_Mat_numberOf hI hM hK (cN n w p) 0 (by omega) (fun i hi => absurd hi (Nat.not_lt_zero _))
def at_Mat_find_24 (T : qm_L) (d : Nat) (K : qm_K) (M : qm_M) (x3 : Int) : Prop := ∀ (d2 d4 d5 : Option qm_V), qm_TT qi_43 (qm_Runs qm_P (d + 3)) K 24 [some (.inr (some 47)), some (.inr (some 25)), d2, some (.inl x3), d4, d5] [] (qL T) M 0 0
def at_Mat_find_41 (T : qm_L) (d : Nat) (K : qm_K) (M : qm_M) (x3 x4 x5 : Int) : Prop := ∀ (d2 : Option qm_V), qm_TT qi_43 (qm_Runs qm_P (d + 3)) K 41 [some (.inr (some 47)), some (.inr (some 25)), d2, some (.inl x3), some (.inl x4), some (.inl x5)] [] (qL T) M 0 0
theorem rg_Mat_find_24 {T : qm_L}  {d : Nat} {K : qm_K} {M : qm_M} {x3 : Int} (h :
    ∀ (y4 : Int), y4 = (M 25 6) →
    (y4 ≤ x3 →
     K (.inl 0) (qL T) M) ∧
    (¬ y4 ≤ x3 →
     at_Mat_find_41 T d K M x3 ((M 47 1)) 0)) : at_Mat_find_24 T d K M x3 :=
  fun d2 d4 d5 => qm_wp_TT [24, 41] 38 (And.intro (lo_25 T) (s_Turns_total (d := d + 2)   (And.intro (fun q9 => ((h _ rfl).1 q9)) (fun q10 => And.intro (lf_47_1 T) (((h _ rfl).2 q10) _)))))
theorem rg_Mat_find_41 {T : qm_L}  {d : Nat} {K : qm_K} {M : qm_M} {x3 x4 x5 : Int} (h :
    (x4 ≤ x5 →
     qm_R (x3 + 1) ∧
     at_Mat_find_24 T d K M ((x3 + 1))) ∧
    (¬ x4 ≤ x5 →
     ∀ (y5 : Int), y5 = (gRow M 49 4096 x5) →
     ((qm_and (gRow M 35 28 x3) (qm_xor y5 (-1)) = 0) →
      (4096 ≤ (M 47 1) →
       qm_R (x5 + 1) ∧
       at_Mat_find_41 T d K M x3 x4 ((x5 + 1))) ∧
      (¬ 4096 ≤ (M 47 1) →
       ∀ (y6 : Int), y6 = (gRow M 49 4096 x5) →
       ∀ (M7 : qm_M), M7 = (sRow M 49 4096 (M 47 1) (qm_or y6 (qm_shl 1 x3))) →
       qm_R ((M7 47 1) + 1) ∧
       ∀ (M8 : qm_M), M8 = (qm_u M7 47 1 ((M7 47 1) + 1)) →
       qm_R (x5 + 1) ∧
       at_Mat_find_41 T d K M8 x3 x4 ((x5 + 1)))) ∧
     (¬ (qm_and (gRow M 35 28 x3) (qm_xor y5 (-1)) = 0) →
      qm_R (x5 + 1) ∧
      at_Mat_find_41 T d K M x3 x4 ((x5 + 1))))) : at_Mat_find_41 T d K M x3 x4 x5 :=
  fun d2 => qm_wp_TT [24, 41] 38 (And.intro (fun q11 => And.intro (h.1 q11).1 ((h.1 q11).2 _ _ _)) (fun q12 => And.intro (lo_47 T) (s_Mat_bits (d := d + 1)   (And.intro (lo_25 T) (s_Turns_isReady (d := d + 0)   (And.intro (fun q13 => And.intro (((h.2 q12) _ rfl).2 (qm_b0 q13)).1 ((((h.2 q12) _ rfl).2 (qm_b0 q13)).2 _)) (fun q14 => And.intro (lf_47_1 T) (And.intro (fun q15 => And.intro ((((h.2 q12) _ rfl).1 (qm_b1 q14)).1 q15).1 (((((h.2 q12) _ rfl).1 (qm_b1 q14)).1 q15).2 _)) (fun q16 => Exists.intro 48 (And.intro (lf_47_0 T) (And.intro (lf_47_1 T) (And.intro (lo_47 T) (s_Mat_bits (d := d + 1)   (And.intro (lo_48 T) (s_Row_set (d := d + 2) (lRow_48 T)  (And.intro (lf_47_1 T) (And.intro ((((((h.2 q12) _ rfl).1 (qm_b1 q14)).2 q16) _ rfl) _ rfl).1 (And.intro (lf_47_1 T) (And.intro (((((((h.2 q12) _ rfl).1 (qm_b1 q14)).2 q16) _ rfl) _ rfl).2 _ rfl).1 ((((((((h.2 q12) _ rfl).1 (qm_b1 q14)).2 q16) _ rfl) _ rfl).2 _ rfl).2 _))))))))))))))))))))
theorem en_Mat_find {T : qm_L}  {d : Nat} {K : qm_K} {M : qm_M}  (h :
    (¬ 20 = 52) ∧
    ∀ (M1 : qm_M), M1 = (cRow M 52 16 20) →
    ∀ (M2 : qm_M), M2 = (sRow M1 49 4096 0 0) →
    ∀ (M3 : qm_M), M3 = (qm_u M2 47 1 1) →
    at_Mat_find_24 T d K M3 0) : qm_Runs qm_P (d + 4) 43 [(.inr (some 47)), (.inr (some 25)), (.inr (some 18))] (qL T) M K :=
  And.intro (Nat.le_of_ble_eq_true rfl) (show qm_TT qi_43 (qm_Runs qm_P (d + 3)) K 0 [some (.inr (some 47)), some (.inr (some 25)), some (.inr (some 18)), none, none, none] [] (qL T) M 0 0 from qm_wp_TT [24, 41] 38 (Exists.intro 50 (And.intro (lf_47_2 T) (And.intro (lo_50 T) (s_Pair_copyFrom (d := d + 0) (lPr_50 T) (lPr_18 T) (h.1) (Exists.intro 48 (And.intro (lf_47_0 T) (And.intro (lo_48 T) (s_Row_set (d := d + 2) (lRow_48 T)  (And.intro (lf_47_1 T) ((((h.2 _ rfl) _ rfl) _ rfl) _ _ _)))))))))))
theorem lp_Mat_find {T : qm_L} {d : Nat} {K : qm_K} {M0 : qm_M} {n : Nat} {w p : Nat → Nat} (hI : qInv n w p) (hT : qTn M0 n w p) (hK : ∀ M2 : qm_M, (qCl M2 n w p (cN n w p) ∧ ∀ c, c ≠ 47 → c ≠ 49 → M2 c = M0 c) → K (.inl 0) (qL T) M2) : ∀ (j t : Nat) (M : qm_M), t + j = rT n w p → qCl M n w p (cC n w p (2 ^ t)) → (∀ c, c ≠ 47 → c ≠ 49 → M c = M0 c) → at_Mat_find_24 T d K M (t : Int)
  | 0, t, M, ht, hS, hc => fun d2 d4 d5 => by
    have ht : t = rT n w p := by omega
    refine rg_Mat_find_24 ?_ d2 d4 d5
    intro y4 e4
    rw [hc 25 (by decide) (by decide), hT.1] at e4
    refine And.intro (fun _ => hK M ⟨?_, hc⟩) (fun h => absurd h (by omega))
    rw [ht] at hS
    exact hS
  | j + 1, t, M, ht, hS, hc => fun d2 d4 d5 => by
    have h4 := cN_le hI
    have h28 := (r_T hI).1
    have htT : t < rT n w p := by omega
    have ih := lp_Mat_find (d := d) hI hT hK j (t + 1)
    have hmono : ∀ a b, a ≤ b → cC n w p a ≤ cC n w p b := fun a b h => cnt_le_le _ h
    have hcN : ∀ x, x ≤ 2 ^ t → cC n w p (2 ^ t) + cnt (fun m => crd n w p t (cE n w p m)) (cC n w p x) ≤ cN n w p := fun x hx => by
      rw [← cC_hi htT x hx]
      refine hmono _ _ ?_
      have : 2 ^ (t + 1) ≤ 2 ^ rT n w p := Nat.pow_le_pow_right (by decide) htT
      rw [Nat.pow_succ] at this
      omega
    have inner : ∀ (i m : Nat) (M1 : qm_M), m + i = cC n w p (2 ^ t) → qCl M1 n w p (cC n w p (2 ^ t) + cnt (fun m => crd n w p t (cE n w p m)) m) → (∀ c, c ≠ 47 → c ≠ 49 → M1 c = M0 c) → at_Mat_find_41 T d K M1 (t : Int) (cC n w p (2 ^ t) : Int) (m : Int) := by
      intro i
      induction i with
      | zero =>
        intro m M1 hm hS1 hc1 d2
        have hm : m = cC n w p (2 ^ t) := by omega
        refine rg_Mat_find_41 (And.intro (fun _ => And.intro (by unfold qm_R; omega) (ih M1 (by omega) ?_ hc1)) (fun h => absurd h (by omega))) d2
        rw [hm, ← cC_hi htT _ (Nat.le_refl _)] at hS1
        rw [Nat.pow_succ, Nat.mul_two]
        exact hS1
      | succ i ihi =>
        intro m M1 hm hS1 hc1 d2
        have hmN : m < cN n w p := by have := hmono (2 ^ t) (2 ^ rT n w p) (Nat.pow_le_pow_right (by decide) (by omega)); unfold cN; omega
        have hs := cE_spec hmN
        have hx : cE n w p m < 2 ^ t := by
          rcases Nat.lt_or_ge (cE n w p m) (2 ^ t) with q | q
          · exact q
          · have := hmono _ _ q
            omega
        have hr : qm_R ((m : Int) + 1) := by unfold qm_R; omega
        refine rg_Mat_find_41 (And.intro (fun h => absurd h (by omega)) (fun _ => ?_)) d2
        intro y5 e5
        rw [gRow_in (by omega), hS1.2 m (by omega)] at e5
        have hn : gRow M1 35 28 (t : Int) = (rnd n w p t : Int) := by
          rw [gRow_in (by omega), hc1 35 (by decide) (by decide)]
          exact (hT.2 t htT).2.2.1
        rw [hn, e5, lnk (rdy hI (cE_31 hI hmN))]
        refine And.intro (fun h => And.intro (fun h2 => ?_) (fun h2 => ?_)) (fun h => And.intro hr ?_)
        · exfalso
          rw [hS1.1] at h2
          have h5 := hcN (cE n w p m + 1) (by omega)
          have h6 : cC n w p (cE n w p m + 1) = m + 1 := by
            show cnt _ _ = _
            rw [cnt_t hs.2.1]
            exact congrArg (· + 1) hs.2.2
          rw [h6, cnt_t (P := fun m => crd n w p t (cE n w p m)) h] at h5
          omega
        · intro y6 e6
          rw [gRow_in (by omega), hS1.2 m (by omega)] at e6
          intro M7 e7
          have hk := hcN (cE n w p m + 1) (by omega)
          have h6 : cC n w p (cE n w p m + 1) = m + 1 := by
            show cnt _ _ = _
            rw [cnt_t hs.2.1]
            exact congrArg (· + 1) hs.2.2
          rw [h6, cnt_t (P := fun m => crd n w p t (cE n w p m)) h] at hk
          rw [hS1.1, e6, or_hi hx (by omega), sRow_in (by omega)] at e7
          have e47 : M7 47 1 = ((cC n w p (2 ^ t) + cnt (fun m => crd n w p t (cE n w p m)) m : Nat) : Int) := by
            rw [e7, qu_cf (by decide)]; exact hS1.1
          refine And.intro (by rw [e47]; unfold qm_R; omega) ?_
          intro M8 e8
          refine And.intro hr (ihi (m + 1) M8 (by omega) ?_ (fun c q1 q2 => by rw [e8, qu_cf q1, e7, qu_cf q2]; exact hc1 c q1 q2))
          rw [cnt_t (P := fun m => crd n w p t (cE n w p m)) h]
          refine ⟨by rw [e8, qu_s, e47]; omega, fun a ha => ?_⟩
          rw [e8, qu_cf (by decide), e7]
          by_cases hak : a = cC n w p (2 ^ t) + cnt (fun m => crd n w p t (cE n w p m)) m
          · rw [hak, qu_s]
            have q := cC_hi htT (cE n w p m) (by omega)
            rw [hs.2.2] at q
            rw [← q, (cE_of ((cQ_hi htT hx).mpr ⟨hs.2.1, h⟩)).1]
          · rw [qu_k hak]
            exact hS1.2 a (by omega)
        · have := ihi (m + 1) M1 (by omega) (by rw [cnt_f (P := fun m => crd n w p t (cE n w p m)) h]; exact hS1) hc1
          exact this
    refine rg_Mat_find_24 ?_ d2 d4 d5
    intro y4 e4
    rw [hc 25 (by decide) (by decide), hT.1] at e4
    refine And.intro (fun h => absurd h (by omega)) (fun _ => ?_)
    rw [hS.1]
    exact inner (cC n w p (2 ^ t)) 0 M (by omega) hS hc
theorem s_Mat_find {T : qm_L} {n : Nat} {w p : Nat → Nat} {d : Nat} {K : qm_K} {M : qm_M}  (hp0 : qInv n w p ∧ qTn M n w p) (hp1 : qPR M 18 n (rU n w p 0) (rV n w p 0)) (hK : ∀ (M2 : qm_M), (qMs M2 n w p ∧ ∀ c, c ≠ 47 → c ≠ 49 → c ≠ 52 → M2 c = M c) → K (.inl 0) (qL T) M2) : qm_Runs qm_P (d + 4) 43 [(.inr (some 47)), (.inr (some 25)), (.inr (some 18))] (qL T) M K := by
  obtain ⟨hI, hT⟩ := hp0
  refine en_Mat_find (And.intro (by decide) ?_)
  intro M1 e1 M2 e2 M3 e3
  rw [show sRow M1 49 4096 0 0 = sRow M1 49 4096 ((0 : Nat) : Int) 0 from rfl, sRow_in (by decide)] at e2
  have ac : ∀ c, c ≠ 47 → c ≠ 49 → c ≠ 52 → M3 c = M c := fun c h1 h2 h3 => by
    rw [e3, qu_cf h1, e2, qu_cf h2, e1]
    funext x
    unfold cRow
    rw [if_neg h3]
  have hT3 : qTn M3 n w p := by
    unfold qTn qTd qTp at *
    rw [ac 25 (by decide) (by decide) (by decide), ac 31 (by decide) (by decide) (by decide), ac 27 (by decide) (by decide) (by decide), ac 29 (by decide) (by decide) (by decide), ac 33 (by decide) (by decide) (by decide), ac 35 (by decide) (by decide) (by decide), ac 37 (by decide) (by decide) (by decide)]
    exact hT
  have a52 : ∀ x, x < 16 → M3 52 x = M 20 x := fun x hx => by
    rw [e3, qu_cf (by decide), e2, qu_cf (by decide), e1]
    unfold cRow
    rw [if_pos rfl, if_pos hx]
  have h8 := hI.2.1
  refine lp_Mat_find hI hT3 (fun M2 h2 => hK M2 ⟨⟨h2.1, ⟨fun a ha => ?_, fun b hb => ?_, hp1.2.2⟩⟩, fun c q1 q2 q3 => ?_⟩) (rT n w p) 0 M3 (by omega) ?_ (fun _ _ _ => rfl)
  · rw [h2.2 52 (by decide) (by decide), a52 a (by omega)]; exact hp1.1 a ha
  · rw [h2.2 52 (by decide) (by decide), a52 (8 + b) (by omega)]; exact hp1.2.1 b hb
  · rw [h2.2 c q1 q2, ac c q1 q2 q3]
  · rw [cC_1]
    refine ⟨by rw [e3, qu_s]; rfl, fun m hm => ?_⟩
    have : m = 0 := by omega
    subst this
    have h0 := cE_of (n := n) (w := w) (p := p) cQ_0
    have h00 : cC n w p 0 = 0 := rfl
    rw [h00] at h0
    rw [e3, qu_cf (by decide), e2, qu_s, h0.1]
    rfl
def at_Mat_load_20 (T : qm_L) (d : Nat) (K : qm_K) (M : qm_M) (x3 x4 : Int) : Prop := ∀ (d1 : Option qm_V), qm_TT qi_44 (qm_Runs qm_P (d + 4)) K 20 [some (.inr (some 47)), d1, some (.inr (some 25)), some (.inl x3), some (.inl x4)] [] (qL T) M 0 0
theorem rg_Mat_load_20 {T : qm_L} {n i : Nat} {w p u v u2 v2 : Nat → Nat} {d : Nat} {K : qm_K} {M : qm_M} {x3 x4 : Int} (h :
    ∀ (y3 : Int), y3 = (M 25 6) →
    (y3 ≤ x4 →
     K (.inr (some 53)) (qL T) M) ∧
    (¬ y3 ≤ x4 →
     ((qm_and (qm_shr x3 x4) 1) ≠ 1 →
      qm_R (x4 + 1) ∧
      at_Mat_load_20 T d K M x3 ((x4 + 1))) ∧
     (¬ (qm_and (qm_shr x3 x4) 1) ≠ 1 →
      (qInv n w p ∧ qTp M n w p i ∧ i < rT n w p ∧ x4 = (i : Int)) ∧
      (qPR M 53 n u v ∧ qMt n u v ∧ 55 ≠ 27 ∧ 55 ≠ 29 ∧ 55 ≠ 31) ∧
      (qMt n u2 v2 ∧ (∀ a, rIn n w p i a → u a = rU n w p i a ∧ u2 a = rX n w p i a) ∧ (∀ a, ¬ rIn n w p i a → u2 a = u a) ∧ ∀ b, b < n → ¬ rIn n w p i (v b) → v2 b = v b) ∧
      (∀ (M5 : qm_M), (qPR M5 53 n u2 v2 ∧ ∀ c, c ≠ 55 → M5 c = M c) →
       qm_R (x4 + 1) ∧
       at_Mat_load_20 T d K M5 x3 ((x4 + 1)))))) : at_Mat_load_20 T d K M x3 x4 :=
  fun d1 => qm_wp_TT [20] 22 (And.intro (lo_25 T) (s_Turns_total (d := d + 3)   (And.intro (fun q6 => Exists.intro 53 (And.intro (lf_47_3 T) (((h _ rfl).1 q6)))) (fun q7 => And.intro (fun q8 => And.intro (((h _ rfl).2 q7).1 q8).1 ((((h _ rfl).2 q7).1 q8).2 _)) (fun q9 => Exists.intro 53 (And.intro (lf_47_3 T) (And.intro (lo_25 T) (s_Turns_perform (d := d + 0) (lPr_53 T) ((((h _ rfl).2 q7).2 q9).1) ((((h _ rfl).2 q7).2 q9).2.1) ((((h _ rfl).2 q7).2 q9).2.2.1) (fun M5 p10 => And.intro ((((h _ rfl).2 q7).2 q9).2.2.2 M5 p10).1 (((((h _ rfl).2 q7).2 q9).2.2.2 M5 p10).2 _))))))))))
theorem en_Mat_load {T : qm_L} {n i : Nat} {w p u v u2 v2 : Nat → Nat} {d : Nat} {K : qm_K} {M : qm_M} {m : Int} (h :
    ∀ (y1 : Int), y1 = (gRow M 49 4096 m) →
    (¬ 52 = 55) ∧
    ∀ (M2 : qm_M), M2 = (cRow M 55 16 52) →
    at_Mat_load_20 T d K M2 y1 0) : qm_Runs qm_P (d + 5) 44 [(.inr (some 47)), (.inl m), (.inr (some 25))] (qL T) M K :=
  And.intro (Nat.le_of_ble_eq_true rfl) (show qm_TT qi_44 (qm_Runs qm_P (d + 4)) K 0 [some (.inr (some 47)), some (.inl m), some (.inr (some 25)), none, none] [] (qL T) M 0 0 from qm_wp_TT [20] 22 (And.intro (lo_47 T) (s_Mat_bits (d := d + 2)   (Exists.intro 53 (And.intro (lf_47_3 T) (Exists.intro 50 (And.intro (lf_47_2 T) (And.intro (lo_53 T) (s_Pair_copyFrom (d := d + 1) (lPr_53 T) (lPr_50 T) ((h _ rfl).1) (((h _ rfl).2 _ rfl) _))))))))))
theorem lp_Mat_load {T : qm_L} {d : Nat} {K : qm_K} {M0 : qm_M} {n z : Nat} {w p : Nat → Nat} (hI : qInv n w p) (hT : qTn M0 n w p) (hz : cQ n w p z) (hK : ∀ M2 : qm_M, (qPR M2 53 n (mU n w p (bS z)) (mV n w p (bS z)) ∧ ∀ c, c ≠ 55 → M2 c = M0 c) → K (.inr (some 53)) (qL T) M2) : ∀ (j t : Nat) (M : qm_M), t + j = rT n w p → qPR M 53 n (mU n w p (sT z t)) (mV n w p (sT z t)) → (∀ c, c ≠ 55 → M c = M0 c) → at_Mat_load_20 T d K M (z : Int) (t : Int)
  | 0, t, M, ht, hS, hc => fun d1 => by
    have ht : t = rT n w p := by omega
    refine rg_Mat_load_20 (n := n) (i := 0) (w := w) (p := p) (u := p) (v := p) (u2 := p) (v2 := p) ?_ d1
    intro y3 e3
    rw [hc 25 (by decide), hT.1] at e3
    refine And.intro (fun _ => hK M ⟨?_, hc⟩) (fun h => absurd h (by omega))
    rw [ht, sT_T hz] at hS
    exact hS
  | j + 1, t, M, ht, hS, hc => fun d1 => by
    have h28 := (r_T hI).1
    have htT : t < rT n w p := by omega
    have hz31 := cQ_31 hI hz
    have hq := (bitq (z := z) (t := t) (by omega) (by omega)).1
    have hr : qm_R ((t : Int) + 1) := by unfold qm_R; omega
    have ih := lp_Mat_load (d := d) hI hT hz hK j (t + 1)
    have hid := sT_id (t := t) hz
    have hnt : ¬ sT z t t := fun q => Nat.lt_irrefl _ q.2
    refine rg_Mat_load_20 (n := n) (i := t) (w := w) (p := p) (u := mU n w p (sT z t)) (v := mV n w p (sT z t)) (u2 := mU n w p (sT z (t + 1))) (v2 := mV n w p (sT z (t + 1))) ?_ d1
    intro y3 e3
    rw [hc 25 (by decide), hT.1] at e3
    refine And.intro (fun h => absurd h (by omega)) (fun _ => And.intro (fun h => And.intro hr ?_) (fun h => ?_))
    · refine ih M (by omega) ?_ hc
      rw [sT_f (fun q => h (hq.mpr q))]
      exact hS
    · have hb : bS z t := hq.mp (Classical.not_not.mp h)
      have hrd : ∀ u, rNd n w p t u → sT z t u := fun u hu => ⟨hz.2 t u hb hu, (Nd_lt hu).1⟩
      have hadd := m_add hI hid htT hnt hrd
      have hTM : qTp M n w p t := qTp_mem (hT.2 t htT).1 (hc 31 (by decide)) (hc 27 (by decide)) (hc 29 (by decide))
      rw [← sT_t hb] at hadd
      refine And.intro ⟨hI, hTM, htT, rfl⟩ (And.intro ⟨hS, m_qMt hI hid, by decide, by decide, by decide⟩ (And.intro ⟨m_qMt hI (sT_id hz), fun a ha => ⟨(m_ready hI hid htT hnt hrd ha).1, hadd.1 a ha⟩, fun a ha => hadd.2.1 a ha, fun b hbn hv => hadd.2.2.1 b hbn hv⟩ ?_))
      intro M5 h5
      exact And.intro hr (ih M5 (by omega) h5.1 (fun c q => by rw [h5.2 c q]; exact hc c q))
theorem s_Mat_load {T : qm_L} {n k : Nat} {w p : Nat → Nat} {d : Nat} {K : qm_K} {M : qm_M} {m : Int} (hp0 : qInv n w p ∧ qTn M n w p ∧ qMs M n w p) (hp1 : k < cN n w p ∧ m = (k : Int)) (hK : ∀ (M2 : qm_M), (qPR M2 53 n (mU n w p (bS (cE n w p k))) (mV n w p (bS (cE n w p k))) ∧ ∀ c, c ≠ 55 → M2 c = M c) → K (.inr (some 53)) (qL T) M2) : qm_Runs qm_P (d + 5) 44 [(.inr (some 47)), (.inl m), (.inr (some 25))] (qL T) M K := by
  obtain ⟨hI, hT, hM⟩ := hp0
  obtain ⟨hk, rfl⟩ := hp1
  have h4 := cN_le hI
  have h8 := hI.2.1
  refine en_Mat_load (n := n) (i := 0) (w := w) (p := p) (u := p) (v := p) (u2 := p) (v2 := p) ?_
  intro y1 e1
  rw [gRow_in (by omega), hM.1.2 k hk] at e1
  subst e1
  refine And.intro (by decide) ?_
  intro M2 e2
  have hc : ∀ c, c ≠ 55 → M2 c = M c := fun c q => by
    rw [e2]
    funext x
    unfold cRow
    rw [if_neg q]
  have h55 : ∀ x, x < 16 → M2 55 x = M 52 x := fun x hx => by
    rw [e2]
    unfold cRow
    rw [if_pos rfl, if_pos hx]
  have hT2 : qTn M2 n w p := by
    unfold qTn qTd qTp at *
    rw [hc 25 (by decide), hc 31 (by decide), hc 27 (by decide), hc 29 (by decide), hc 33 (by decide), hc 35 (by decide), hc 37 (by decide)]
    exact hT
  refine lp_Mat_load hI hT2 (cE_spec hk).2.1 (fun M3 h3 => hK M3 ⟨h3.1, fun c q => by rw [h3.2 c q, hc c q]⟩) (rT n w p) 0 M2 (by omega) ?_ (fun _ _ => rfl)
  rw [sT_0]
  refine qPR_congr (u := rU n w p 0) (v := rV n w p 0) ⟨fun a ha => ?_, fun b hb => ?_, hM.2.2.2⟩ (fun a ha => m_0 hI) (fun b hb => mV_0 hI hb)
  · rw [h55 a (by omega)]; exact hM.2.1 a ha
  · rw [h55 (8 + b) (by omega)]; exact hM.2.2.1 b hb
