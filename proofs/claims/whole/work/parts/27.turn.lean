/-! what is kept of each turn -/
noncomputable def rlen (n : Nat) (w p : Nat → Nat) (t : Nat) : Nat := per (rF n w p t) (rL n w p t)
noncomputable def rle (n : Nat) (w p : Nat → Nat) (t k : Nat) : Nat := itf (rF n w p t) k (rL n w p t)
noncomputable def rri (n : Nat) (w p : Nat → Nat) (t k : Nat) : Nat := rU n w p t (rle n w p t k)
noncomputable def rga1 (n : Nat) (w p : Nat → Nat) (t k : Nat) : Int := ((p (ix 0 (rle n w p t k) (rri n w p t k)) : Int) - (p (ix 0 (rle n w p t k) (rri n w p t (k + 1))) : Int)) + ((p (ix 1 (rri n w p t (k + 1)) (rle n w p t (k + 1))) : Int) - (p (ix 1 (rri n w p t (k + 1)) (rle n w p t k)) : Int))
noncomputable def rgn (n : Nat) (w p : Nat → Nat) (t : Nat) : Int := sumI (rga1 n w p t) (rlen n w p t)
noncomputable def rnd (n : Nat) (w p : Nat → Nat) (t : Nat) : Nat := bits (rNd n w p t) 28
noncomputable def rdpL (n : Nat) (w p : Nat → Nat) : Nat → Nat → Nat
  | 0 => fun _ => 0
  | t + 1 => updF (rdpL n w p t) t (maxN (fun a => @ite Nat (rNd n w p t a) (Classical.propDecidable _) (rdpL n w p t a + 1) 0) t)
noncomputable def rdp (n : Nat) (w p : Nat → Nat) (t : Nat) : Nat := rdpL n w p (t + 1) t
theorem rdpL_eq {n : Nat} {w p : Nat → Nat} {t : Nat} : ∀ T, t < T → rdpL n w p T t = rdp n w p t
  | 0, h => absurd h (Nat.not_lt_zero _)
  | T + 1, h => by
    by_cases hT : t = T
    · subst hT; rfl
    · rw [← rdpL_eq T (by omega)]
      show updF _ _ _ _ = _
      unfold updF
      rw [if_neg hT]
theorem rdp_eq {n : Nat} {w p : Nat → Nat} (t : Nat) : rdp n w p t = maxN (fun a => @ite Nat (rNd n w p t a) (Classical.propDecidable _) (rdp n w p a + 1) 0) t := by
  show updF _ _ _ _ = _
  unfold updF
  rw [if_pos rfl]
  exact maxN_congr (fun a ha => by rw [rdpL_eq t ha])
theorem rdp_le {n : Nat} {w p : Nat → Nat} : ∀ t, rdp n w p t ≤ t := by
  intro t
  induction t using Nat.strongRecOn with
  | _ t ih =>
    rw [rdp_eq]
    refine maxN_le (fun a ha => ?_)
    have := ih a ha
    split <;> omega
def qTp (M : qm_M) (n : Nat) (w p : Nat → Nat) (t : Nat) : Prop := M 31 t = (rlen n w p t : Int) ∧ ∀ k, k < rlen n w p t → M 27 (8 * t + k) = (rle n w p t k : Int) ∧ M 29 (8 * t + k) = (rri n w p t k : Int)
def qTd (M : qm_M) (n : Nat) (w p : Nat → Nat) (t : Nat) : Prop := qTp M n w p t ∧ M 33 t = rgn n w p t ∧ M 35 t = (rnd n w p t : Int) ∧ M 37 t = (rdp n w p t : Int)
/-- the turns as they are kept -/
def qTn (M : qm_M) (n : Nat) (w p : Nat → Nat) : Prop := M 25 6 = (rT n w p : Int) ∧ ∀ t, t < rT n w p → qTd M n w p t
theorem r_ok {n : Nat} {w p : Nat → Nat} (hI : qInv n w p) (t : Nat) : fok n (rF n w p t) := fo_ok hI (r_qMt hI t)
theorem rlen_ok {n : Nat} {w p : Nat → Nat} (hI : qInv n w p) {t : Nat} (ht : rL n w p t < n) : 1 ≤ rlen n w p t ∧ rlen n w p t ≤ n ∧ rle n w p t (rlen n w p t) = rle n w p t 0 ∧ ∀ i j, i < rlen n w p t → j < rlen n w p t → rle n w p t i = rle n w p t j → i = j := by
  have h := per_spec (r_ok hI t) ht (lst_P (P := cyc (rF n w p t)) ht)
  exact ⟨h.1, h.2.1, h.2.2.1, h.2.2.2.2⟩
theorem rle_in {n : Nat} {w p : Nat → Nat} {t k : Nat} : rIn n w p t (rle n w p t k) := ⟨k, rfl⟩
theorem rin_le {n : Nat} {w p : Nat → Nat} (hI : qInv n w p) {t a : Nat} (ht : rL n w p t < n) : rIn n w p t a ↔ ∃ k, k < rlen n w p t ∧ rle n w p t k = a := inC_iff (r_ok hI t) ht (lst_P (P := cyc (rF n w p t)) ht)
theorem rle_lt {n : Nat} {w p : Nat → Nat} (hI : qInv n w p) {t : Nat} (ht : rL n w p t < n) (k : Nat) : rle n w p t k < n ∧ rri n w p t k < n := by
  have h := r_in hI ht (rle_in (k := k))
  exact ⟨h.1, ((r_qMt hI t).1 _ h.1).1⟩
theorem rri_next {n : Nat} {w p : Nat → Nat} (hI : qInv n w p) {t : Nat} (ht : rL n w p t < n) (k : Nat) : rri n w p t (k + 1) = rX n w p t (rle n w p t k) := (r_in hI ht (rle_in (k := k))).2.2.2.2.2.2.1
theorem T_lt {n : Nat} {w p : Nat → Nat} (hI : qInv n w p) {t : Nat} (ht : t < rT n w p) : t < 28 ∧ rL n w p t < n := ⟨by have := (r_T hI).1; omega, (r_lt ht).1⟩
theorem en_Turns_total {T : qm_L}  {d : Nat} {K : qm_K} {M : qm_M}  (h :
    K (.inl ((M 25 6))) (qL T) M) : qm_Runs qm_P (d + 1) 70 [(.inr (some 25))] (qL T) M K :=
  And.intro (Nat.le_of_ble_eq_true rfl) (show qm_TT qi_70 (qm_Runs qm_P (d + 0)) K 0 [some (.inr (some 25))] [] (qL T) M 0 0 from qm_wp_TT [] 6 (And.intro (lf_25_6 T) (h)))
theorem s_Turns_total {T : qm_L}  {d : Nat} {K : qm_K} {M : qm_M}   (hK : K (.inl (M 25 6)) (qL T) M) : qm_Runs qm_P (d + 1) 70 [(.inr (some 25))] (qL T) M K :=
  en_Turns_total   hK
theorem en_Turns_isTurn {T : qm_L}  {d : Nat} {K : qm_K} {M : qm_M} {t : Int} (h :
    (t < 0 →
     K (.inl 0) (qL T) M) ∧
    (¬ t < 0 →
     ((M 25 6) ≤ t →
      K (.inl 0) (qL T) M) ∧
     (¬ (M 25 6) ≤ t →
      K (.inl 1) (qL T) M))) : qm_Runs qm_P (d + 1) 71 [(.inr (some 25)), (.inl t)] (qL T) M K :=
  And.intro (Nat.le_of_ble_eq_true rfl) (show qm_TT qi_71 (qm_Runs qm_P (d + 0)) K 0 [some (.inr (some 25)), some (.inl t)] [] (qL T) M 0 0 from qm_wp_TT [] 12 (And.intro (fun q1 => And.intro (Or.inl rfl) (h.1 q1)) (fun q2 => And.intro (lf_25_6 T) (And.intro (fun q3 => And.intro (Or.inl rfl) ((h.2 q2).1 q3)) (fun q4 => And.intro (Or.inr rfl) ((h.2 q2).2 q4))))))
theorem s_Turns_isTurn {T : qm_L}  {d : Nat} {K : qm_K} {M : qm_M} {t : Int}  (hK : K (.inl (qm_b (0 ≤ t ∧ t < M 25 6))) (qL T) M) : qm_Runs qm_P (d + 1) 71 [(.inr (some 25)), (.inl t)] (qL T) M K := by
  refine en_Turns_isTurn   ?_
  repeat' first | (intro _) | (refine And.intro ?_ ?_)
  all_goals first | exact qk_eq hK (qm_bt (by omega)) | exact qk_eq hK (qm_bff (by omega))
theorem en_Turns_length {T : qm_L}  {d : Nat} {K : qm_K} {M : qm_M} {t : Int} (h :
    K (.inl ((gRow M 31 28 t))) (qL T) M) : qm_Runs qm_P (d + 2) 72 [(.inr (some 25)), (.inl t)] (qL T) M K :=
  And.intro (Nat.le_of_ble_eq_true rfl) (show qm_TT qi_72 (qm_Runs qm_P (d + 1)) K 0 [some (.inr (some 25)), some (.inl t)] [] (qL T) M 0 0 from qm_wp_TT [] 8 (Exists.intro 30 (And.intro (lf_25_2 T) (And.intro (lo_30 T) (s_Row_get (d := d + 0) (lRow_30 T)  (h))))))
theorem s_Turns_length {T : qm_L}  {d : Nat} {K : qm_K} {M : qm_M} {t : Int}  (hK : K (.inl (gRow M 31 28 t)) (qL T) M) : qm_Runs qm_P (d + 2) 72 [(.inr (some 25)), (.inl t)] (qL T) M K :=
  en_Turns_length   hK
theorem en_Turns_left {T : qm_L}  {d : Nat} {K : qm_K} {M : qm_M} {t : Int} {k : Int} (h :
    qm_R (t * 8) ∧
    qm_R ((t * 8) + k) ∧
    K (.inl ((gRow M 27 224 ((t * 8) + k)))) (qL T) M) : qm_Runs qm_P (d + 2) 73 [(.inr (some 25)), (.inl t), (.inl k)] (qL T) M K :=
  And.intro (Nat.le_of_ble_eq_true rfl) (show qm_TT qi_73 (qm_Runs qm_P (d + 1)) K 0 [some (.inr (some 25)), some (.inl t), some (.inl k)] [] (qL T) M 0 0 from qm_wp_TT [] 12 (Exists.intro 26 (And.intro (lf_25_0 T) (And.intro h.1 (And.intro h.2.1 (And.intro (lo_26 T) (s_Row_get (d := d + 0) (lRow_26 T)  (h.2.2))))))))
theorem s_Turns_left {T : qm_L}  {d : Nat} {K : qm_K} {M : qm_M} {t : Int} {k : Int} (hp0 : 0 ≤ t ∧ t ≤ 1000 ∧ 0 ≤ k ∧ k ≤ 1000) (hK : K (.inl (gRow M 27 224 (t * 8 + k))) (qL T) M) : qm_Runs qm_P (d + 2) 73 [(.inr (some 25)), (.inl t), (.inl k)] (qL T) M K := by
  refine en_Turns_left   ?_
  exact And.intro (by unfold qm_R; omega) (And.intro (by unfold qm_R; omega) hK)
theorem en_Turns_right {T : qm_L}  {d : Nat} {K : qm_K} {M : qm_M} {t : Int} {k : Int} (h :
    qm_R (t * 8) ∧
    qm_R ((t * 8) + k) ∧
    K (.inl ((gRow M 29 224 ((t * 8) + k)))) (qL T) M) : qm_Runs qm_P (d + 2) 74 [(.inr (some 25)), (.inl t), (.inl k)] (qL T) M K :=
  And.intro (Nat.le_of_ble_eq_true rfl) (show qm_TT qi_74 (qm_Runs qm_P (d + 1)) K 0 [some (.inr (some 25)), some (.inl t), some (.inl k)] [] (qL T) M 0 0 from qm_wp_TT [] 12 (Exists.intro 28 (And.intro (lf_25_1 T) (And.intro h.1 (And.intro h.2.1 (And.intro (lo_28 T) (s_Row_get (d := d + 0) (lRow_28 T)  (h.2.2))))))))
theorem s_Turns_right {T : qm_L}  {d : Nat} {K : qm_K} {M : qm_M} {t : Int} {k : Int} (hp0 : 0 ≤ t ∧ t ≤ 1000 ∧ 0 ≤ k ∧ k ≤ 1000) (hK : K (.inl (gRow M 29 224 (t * 8 + k))) (qL T) M) : qm_Runs qm_P (d + 2) 74 [(.inr (some 25)), (.inl t), (.inl k)] (qL T) M K := by
  refine en_Turns_right   ?_
  exact And.intro (by unfold qm_R; omega) (And.intro (by unfold qm_R; omega) hK)
theorem en_Turns_gain {T : qm_L}  {d : Nat} {K : qm_K} {M : qm_M} {t : Int} (h :
    K (.inl ((gRow M 33 28 t))) (qL T) M) : qm_Runs qm_P (d + 2) 75 [(.inr (some 25)), (.inl t)] (qL T) M K :=
  And.intro (Nat.le_of_ble_eq_true rfl) (show qm_TT qi_75 (qm_Runs qm_P (d + 1)) K 0 [some (.inr (some 25)), some (.inl t)] [] (qL T) M 0 0 from qm_wp_TT [] 8 (Exists.intro 32 (And.intro (lf_25_3 T) (And.intro (lo_32 T) (s_Row_get (d := d + 0) (lRow_32 T)  (h))))))
theorem s_Turns_gain {T : qm_L}  {d : Nat} {K : qm_K} {M : qm_M} {t : Int}  (hK : K (.inl (gRow M 33 28 t)) (qL T) M) : qm_Runs qm_P (d + 2) 75 [(.inr (some 25)), (.inl t)] (qL T) M K :=
  en_Turns_gain   hK
theorem en_Turns_needs {T : qm_L}  {d : Nat} {K : qm_K} {M : qm_M} {t : Int} (h :
    K (.inl ((gRow M 35 28 t))) (qL T) M) : qm_Runs qm_P (d + 2) 76 [(.inr (some 25)), (.inl t)] (qL T) M K :=
  And.intro (Nat.le_of_ble_eq_true rfl) (show qm_TT qi_76 (qm_Runs qm_P (d + 1)) K 0 [some (.inr (some 25)), some (.inl t)] [] (qL T) M 0 0 from qm_wp_TT [] 8 (Exists.intro 34 (And.intro (lf_25_4 T) (And.intro (lo_34 T) (s_Row_get (d := d + 0) (lRow_34 T)  (h))))))
theorem s_Turns_needs {T : qm_L}  {d : Nat} {K : qm_K} {M : qm_M} {t : Int}  (hK : K (.inl (gRow M 35 28 t)) (qL T) M) : qm_Runs qm_P (d + 2) 76 [(.inr (some 25)), (.inl t)] (qL T) M K :=
  en_Turns_needs   hK
theorem en_Turns_depth {T : qm_L}  {d : Nat} {K : qm_K} {M : qm_M} {t : Int} (h :
    K (.inl ((gRow M 37 28 t))) (qL T) M) : qm_Runs qm_P (d + 2) 77 [(.inr (some 25)), (.inl t)] (qL T) M K :=
  And.intro (Nat.le_of_ble_eq_true rfl) (show qm_TT qi_77 (qm_Runs qm_P (d + 1)) K 0 [some (.inr (some 25)), some (.inl t)] [] (qL T) M 0 0 from qm_wp_TT [] 8 (Exists.intro 36 (And.intro (lf_25_5 T) (And.intro (lo_36 T) (s_Row_get (d := d + 0) (lRow_36 T)  (h))))))
theorem s_Turns_depth {T : qm_L}  {d : Nat} {K : qm_K} {M : qm_M} {t : Int}  (hK : K (.inl (gRow M 37 28 t)) (qL T) M) : qm_Runs qm_P (d + 2) 77 [(.inr (some 25)), (.inl t)] (qL T) M K :=
  en_Turns_depth   hK
theorem en_Turns_following {T : qm_L}  {d : Nat} {K : qm_K} {M : qm_M} {t : Int} {k : Int} (h :
    qm_R (k + 1) ∧
    ((gRow M 31 28 t) ≤ (k + 1) →
     K (.inl 0) (qL T) M) ∧
    (¬ (gRow M 31 28 t) ≤ (k + 1) →
     qm_R (k + 1) ∧
     K (.inl ((k + 1))) (qL T) M)) : qm_Runs qm_P (d + 3) 90 [(.inr (some 25)), (.inl t), (.inl k)] (qL T) M K :=
  And.intro (Nat.le_of_ble_eq_true rfl) (show qm_TT qi_90 (qm_Runs qm_P (d + 2)) K 0 [some (.inr (some 25)), some (.inl t), some (.inl k)] [] (qL T) M 0 0 from qm_wp_TT [] 15 (And.intro h.1 (And.intro (lo_25 T) (s_Turns_length (d := d + 0)   (And.intro (fun q1 => (h.2.1 q1)) (fun q2 => And.intro (h.2.2 q2).1 ((h.2.2 q2).2)))))))
theorem s_Turns_following {T : qm_L}  {d : Nat} {K : qm_K} {M : qm_M} {t : Int} {k : Int} (hp0 : 0 ≤ k ∧ k ≤ 1000) (hK : K (.inl (if k + 1 < gRow M 31 28 t then k + 1 else 0)) (qL T) M) : qm_Runs qm_P (d + 3) 90 [(.inr (some 25)), (.inl t), (.inl k)] (qL T) M K := by
  refine en_Turns_following   ?_
  have hr : qm_R (k + 1) := by unfold qm_R; omega
  refine And.intro hr ?_
  exact And.intro (fun h => qk_eq hK (by rw [if_neg (by omega)])) (fun h => And.intro hr (qk_eq hK (by rw [if_pos (by omega)])))
theorem en_Turns_isReady {T : qm_L}  {d : Nat} {K : qm_K} {M : qm_M} {t : Int} {x : Int} (h :
    ((qm_and (gRow M 35 28 t) (qm_xor x (-1))) ≠ 0 →
     K (.inl 0) (qL T) M) ∧
    (¬ (qm_and (gRow M 35 28 t) (qm_xor x (-1))) ≠ 0 →
     K (.inl 1) (qL T) M)) : qm_Runs qm_P (d + 3) 79 [(.inr (some 25)), (.inl t), (.inl x)] (qL T) M K :=
  And.intro (Nat.le_of_ble_eq_true rfl) (show qm_TT qi_79 (qm_Runs qm_P (d + 2)) K 0 [some (.inr (some 25)), some (.inl t), some (.inl x)] [] (qL T) M 0 0 from qm_wp_TT [] 14 (And.intro (lo_25 T) (s_Turns_needs (d := d + 0)   (And.intro (fun q1 => And.intro (Or.inl rfl) (h.1 q1)) (fun q2 => And.intro (Or.inr rfl) (h.2 q2))))))
theorem s_Turns_isReady {T : qm_L}  {d : Nat} {K : qm_K} {M : qm_M} {t : Int} {x : Int}  (hK : K (.inl (qm_b (qm_and (gRow M 35 28 t) (qm_xor x (-1)) = 0))) (qL T) M) : qm_Runs qm_P (d + 3) 79 [(.inr (some 25)), (.inl t), (.inl x)] (qL T) M K := by
  refine en_Turns_isReady   ?_
  repeat' first | (intro _) | (refine And.intro ?_ ?_)
  all_goals first | exact qk_eq hK (qm_bt (Classical.not_not.mp (by assumption))) | exact qk_eq hK (qm_bff (by assumption))
theorem en_Turns_withNeeds {T : qm_L}  {d : Nat} {K : qm_K} {M : qm_M} {t : Int} (h :
    (t ≠ (-1) →
     K (.inl ((qm_or (gRow M 35 28 t) (qm_shl 1 t)))) (qL T) M) ∧
    (¬ t ≠ (-1) →
     K (.inl 0) (qL T) M)) : qm_Runs qm_P (d + 3) 92 [(.inr (some 25)), (.inl t)] (qL T) M K :=
  And.intro (Nat.le_of_ble_eq_true rfl) (show qm_TT qi_92 (qm_Runs qm_P (d + 2)) K 0 [some (.inr (some 25)), some (.inl t)] [] (qL T) M 0 0 from qm_wp_TT [] 14 (And.intro (fun q1 => And.intro (lo_25 T) (s_Turns_needs (d := d + 0)   ((h.1 q1)))) (fun q2 => (h.2 q2))))
theorem s_Turns_withNeeds {T : qm_L}  {d : Nat} {K : qm_K} {M : qm_M} {t : Int}  (hK : K (.inl (if t = -1 then 0 else qm_or (gRow M 35 28 t) (qm_shl 1 t))) (qL T) M) : qm_Runs qm_P (d + 3) 92 [(.inr (some 25)), (.inl t)] (qL T) M K := by
  refine en_Turns_withNeeds   ?_
  repeat' first | (intro _) | (refine And.intro ?_ ?_)
  all_goals first | (unfold qm_R; omega) | (refine qk_eq hK ?_; split <;> first | rfl | omega)
theorem bits_t {P : Nat → Prop} {t : Nat} (ht : t < 31) (h : P t) : qm_or (bits P t : Int) (qm_shl 1 (t : Int)) = (bits P (t + 1) : Int) := by
  rw [qb_shl1 t ht, qb_or (bits_lt31 (by omega)) (pow_lt31 ht)]
  congr 1
  refine bits_ext (fun u => ?_)
  rw [or_test, bits_test, bits_test, pow_test]
  constructor
  · rintro (⟨h1, h2⟩ | rfl)
    · exact ⟨by omega, h2⟩
    · exact ⟨by omega, h⟩
  · rintro ⟨h1, h2⟩
    rcases Nat.lt_or_ge u t with q | q
    · exact Or.inl ⟨q, h2⟩
    · exact Or.inr (by omega)
theorem bits_f {P : Nat → Prop} {t : Nat} (h : ¬ P t) : bits P (t + 1) = bits P t := by
  show bits P t + @ite Nat (P t) (Classical.propDecidable _) (2 ^ t) 0 = _
  rw [if_neg h]
  rfl
theorem bits_i {P Q : Nat → Prop} {T r : Nat} (hT : T ≤ 31) (hr : r < T) (h : ∀ x, x < T → (Q x ↔ P x ∨ x = r)) : qm_or (bits P T : Int) (qm_shl 1 (r : Int)) = (bits Q T : Int) := by
  rw [qb_shl1 r (by omega), qb_or (bits_lt31 hT) (pow_lt31 (by omega)), bits_or hr]
  congr 1
  exact bits_congr (fun x hx => (h x hx).symm)
def opn (n : Nat) (w p : Nat → Nat) (S : Nat → Prop) (t : Nat) : Prop := ¬ S t ∧ ∀ u, rNd n w p t u → S u
theorem rnd_lt {n : Nat} {w p : Nat → Nat} {t : Nat} : rnd n w p t < 2147483648 := bits_lt31 (by decide)
theorem rnd_test {n : Nat} {w p : Nat → Nat} (hI : qInv n w p) {t u : Nat} : (rnd n w p t).testBit u = true ↔ rNd n w p t u := by
  unfold rnd
  rw [bits_test]
  refine ⟨fun h => h.2, fun h => ⟨?_, h⟩⟩
  have := Nd_lt h
  have := (r_T hI).1
  omega
theorem rdy {n : Nat} {w p : Nat → Nat} (hI : qInv n w p) {t z : Nat} (hz : z < 2147483648) : qm_and (rnd n w p t : Int) (qm_xor (z : Int) (-1)) = 0 ↔ ∀ u, rNd n w p t u → bS z u := by
  rw [qb_sub rnd_lt hz]
  exact ⟨fun h u hu => h u ((rnd_test hI).mpr hu), fun h u hu => h u ((rnd_test hI).mp hu)⟩
theorem bitq {z t : Nat} (hz : z < 2147483648) (ht : t < 32) : (qm_and (qm_shr (z : Int) (t : Int)) 1 = 1 ↔ bS z t) ∧ (qm_and (qm_shr (z : Int) (t : Int)) 1 = 0 ↔ ¬ bS z t) := by
  rw [qb_bit hz ht]
  unfold bS
  split
  · rename_i h
    exact ⟨⟨fun _ => h, fun _ => rfl⟩, ⟨fun q => absurd q (by decide), fun q => absurd h q⟩⟩
  · rename_i h
    exact ⟨⟨fun q => absurd q (by decide), fun q => absurd q h⟩, ⟨fun _ => h, fun _ => rfl⟩⟩
theorem sumI_abs {f : Nat → Int} {b : Nat} : ∀ {n : Nat}, (∀ j, j < n → -(b : Int) ≤ f j ∧ f j ≤ (b : Int)) → -((n * b : Nat) : Int) ≤ sumI f n ∧ sumI f n ≤ ((n * b : Nat) : Int)
  | 0, _ => by simp [sumI]
  | n + 1, h => by
    have ih := sumI_abs (n := n) (fun j hj => h j (by omega))
    have := h n (by omega)
    show -(((n + 1) * b : Nat) : Int) ≤ sumI f n + f n ∧ sumI f n + f n ≤ (((n + 1) * b : Nat) : Int)
    rw [Nat.succ_mul]
    omega
theorem rga1_le {n : Nat} {w p : Nat → Nat} (hI : qInv n w p) {t : Nat} (ht : rL n w p t < n) (k : Nat) : -(14 : Int) ≤ rga1 n w p t k ∧ rga1 n w p t k ≤ 14 := by
  have a := rle_lt hI ht k
  have b := rle_lt hI ht (k + 1)
  have h8 := hI.2.1
  have h1 := (hI.2.2 0 _ (by omega) a.1 _ a.2).2.2.1
  have h2 := (hI.2.2 0 _ (by omega) a.1 _ b.2).2.2.1
  have h3 := (hI.2.2 1 _ (by omega) b.2 _ a.1).2.2.1
  have h4 := (hI.2.2 1 _ (by omega) b.2 _ b.1).2.2.1
  unfold rga1
  omega
theorem rgn_le {n : Nat} {w p : Nat → Nat} (hI : qInv n w p) {t : Nat} (ht : rL n w p t < n) : -(112 : Int) ≤ rgn n w p t ∧ rgn n w p t ≤ 112 := by
  have h := sumI_abs (f := rga1 n w p t) (b := 14) (n := rlen n w p t) (fun j _ => rga1_le hI ht j)
  have := (rlen_ok hI ht).2.1
  have := hI.2.1
  unfold rgn
  omega
def dbl (E : Nat → Nat → Nat → Prop) (len : Nat → Nat) (t k x : Nat) : Prop := (∃ t1, t1 < t ∧ ∃ k1, k1 < len t1 ∧ E t1 k1 x) ∨ ∃ k1, k1 < k ∧ E t k1 x
theorem dbl_k {E : Nat → Nat → Nat → Prop} {len : Nat → Nat} {t k x : Nat} : dbl E len t (k + 1) x ↔ dbl E len t k x ∨ E t k x := by
  constructor
  · rintro (h | ⟨k1, h1, h2⟩)
    · exact Or.inl (Or.inl h)
    · by_cases hk : k1 = k
      · exact Or.inr (hk ▸ h2)
      · exact Or.inl (Or.inr ⟨k1, by omega, h2⟩)
  · rintro ((h | ⟨k1, h1, h2⟩) | h)
    · exact Or.inl h
    · exact Or.inr ⟨k1, by omega, h2⟩
    · exact Or.inr ⟨k, by omega, h⟩
theorem dbl_t {E : Nat → Nat → Nat → Prop} {len : Nat → Nat} {t x : Nat} : dbl E len (t + 1) 0 x ↔ dbl E len t (len t) x := by
  constructor
  · rintro (⟨t1, h1, k1, h2, h3⟩ | ⟨k1, h1, _⟩)
    · by_cases ht : t1 = t
      · exact Or.inr ⟨k1, ht ▸ h2, ht ▸ h3⟩
      · exact Or.inl ⟨t1, by omega, k1, h2, h3⟩
    · exact absurd h1 (Nat.not_lt_zero _)
  · rintro (⟨t1, h1, k1, h2, h3⟩ | ⟨k1, h1, h2⟩)
    · exact Or.inl ⟨t1, by omega, k1, h2, h3⟩
    · exact Or.inl ⟨t, by omega, k1, h1, h2⟩
theorem dbl_0 {E : Nat → Nat → Nat → Prop} {len : Nat → Nat} {x : Nat} : ¬ dbl E len 0 0 x := by
  rintro (⟨t1, h1, _⟩ | ⟨k1, h1, _⟩)
  · exact Nat.not_lt_zero _ h1
  · exact Nat.not_lt_zero _ h1
theorem bits_0 {P : Nat → Prop} {T : Nat} (h : ∀ t, t < T → ¬ P t) : bits P T = 0 := by
  refine bits_ext (fun u => ?_)
  rw [bits_test, Nat.zero_testBit]
  exact ⟨fun z => absurd z.2 (h u z.1), fun z => Bool.noConfusion z⟩
theorem Td_len {M : qm_M} {n : Nat} {w p : Nat → Nat} {t : Nat} (h : qTp M n w p t) (ht : t < 28) : gRow M 31 28 (t : Int) = (rlen n w p t : Int) := by rw [gRow_in ht]; exact h.1
theorem Td_left {M : qm_M} {n : Nat} {w p : Nat → Nat} {t k : Nat} (h : qTp M n w p t) (ht : t < 28) (hk : k < rlen n w p t) (h8 : k < 8) : gRow M 27 224 ((t : Int) * 8 + (k : Int)) = (rle n w p t k : Int) := by
  rw [show (t : Int) * 8 + (k : Int) = ((8 * t + k : Nat) : Int) by omega, gRow_in (by omega)]
  exact (h.2 k hk).1
theorem Td_right {M : qm_M} {n : Nat} {w p : Nat → Nat} {t k : Nat} (h : qTp M n w p t) (ht : t < 28) (hk : k < rlen n w p t) (h8 : k < 8) : gRow M 29 224 ((t : Int) * 8 + (k : Int)) = (rri n w p t k : Int) := by
  rw [show (t : Int) * 8 + (k : Int) = ((8 * t + k : Nat) : Int) by omega, gRow_in (by omega)]
  exact (h.2 k hk).2
theorem fl_eq {n : Nat} {w p : Nat → Nat} (hI : qInv n w p) {t : Nat} (ht : rL n w p t < n) {k : Nat} (hk : k < rlen n w p t) : ∃ j, j < rlen n w p t ∧ ((if (k : Int) + 1 < (rlen n w p t : Int) then (k : Int) + 1 else 0) = (j : Int)) ∧ rle n w p t j = rle n w p t (k + 1) ∧ rri n w p t j = rri n w p t (k + 1) := by
  have h := rlen_ok hI ht
  by_cases hl : k + 1 < rlen n w p t
  · exact ⟨k + 1, hl, by rw [if_pos (by omega)]; omega, rfl, rfl⟩
  · have e : k + 1 = rlen n w p t := by omega
    refine ⟨0, by omega, by rw [if_neg (by omega)]; rfl, ?_, ?_⟩
    · rw [e]; exact h.2.2.1.symm
    · unfold rri
      rw [e, h.2.2.1]
theorem Td_fl {M : qm_M} {n : Nat} {w p : Nat → Nat} (hI : qInv n w p) {t k : Nat} (h : qTp M n w p t) (ht : t < 28) (hl : rL n w p t < n) (hk : k < rlen n w p t) : ∃ j : Nat, ((if (k : Int) + 1 < gRow M 31 28 (t : Int) then (k : Int) + 1 else 0) = (j : Int)) ∧ j < 8 ∧ gRow M 27 224 ((t : Int) * 8 + (j : Int)) = (rle n w p t (k + 1) : Int) ∧ gRow M 29 224 ((t : Int) * 8 + (j : Int)) = (rri n w p t (k + 1) : Int) := by
  obtain ⟨j, h1, h2, h3, h4⟩ := fl_eq hI hl hk
  have h5 := (rlen_ok hI hl).2.1
  have h8 := hI.2.1
  refine ⟨j, by rw [Td_len h ht]; exact h2, by omega, ?_, ?_⟩
  · rw [Td_left h ht h1 (by omega), h3]
  · rw [Td_right h ht h1 (by omega), h4]
theorem Td_gain {M : qm_M} {n : Nat} {w p : Nat → Nat} {t : Nat} (h : qTd M n w p t) (ht : t < 28) : gRow M 33 28 (t : Int) = rgn n w p t := by rw [gRow_in ht]; exact h.2.1
theorem Td_needs {M : qm_M} {n : Nat} {w p : Nat → Nat} {t : Nat} (h : qTd M n w p t) (ht : t < 28) : gRow M 35 28 (t : Int) = (rnd n w p t : Int) := by rw [gRow_in ht]; exact h.2.2.1
theorem Td_depth {M : qm_M} {n : Nat} {w p : Nat → Nat} {t : Nat} (h : qTd M n w p t) (ht : t < 28) : gRow M 37 28 (t : Int) = (rdp n w p t : Int) := by rw [gRow_in ht]; exact h.2.2.2
def at_Turns_openTo_4 (T : qm_L) (d : Nat) (K : qm_K) (M : qm_M) (x1 x2 x3 : Int) : Prop := qm_TT qi_78 (qm_Runs qm_P (d + 3)) K 4 [some (.inr (some 25)), some (.inl x1), some (.inl x2), some (.inl x3)] [] (qL T) M 0 0
theorem rg_Turns_openTo_4 {T : qm_L}  {d : Nat} {K : qm_K} {M : qm_M} {x1 x2 x3 : Int} (h :
    ((M 25 6) ≤ x3 →
     K (.inl x2) (qL T) M) ∧
    (¬ (M 25 6) ≤ x3 →
     ((qm_and (qm_shr x1 x3) 1) ≠ 0 →
      qm_R (x3 + 1) ∧
      at_Turns_openTo_4 T d K M x1 x2 ((x3 + 1))) ∧
     (¬ (qm_and (qm_shr x1 x3) 1) ≠ 0 →
      ((qm_and (gRow M 35 28 x3) (qm_xor x1 (-1)) = 0) →
       qm_R (x3 + 1) ∧
       at_Turns_openTo_4 T d K M x1 ((qm_or x2 (qm_shl 1 x3))) ((x3 + 1))) ∧
      (¬ (qm_and (gRow M 35 28 x3) (qm_xor x1 (-1)) = 0) →
       qm_R (x3 + 1) ∧
       at_Turns_openTo_4 T d K M x1 x2 ((x3 + 1)))))) : at_Turns_openTo_4 T d K M x1 x2 x3 :=
  qm_wp_TT [4] 27 (And.intro (lf_25_6 T) (And.intro (fun q1 => (h.1 q1)) (fun q2 => And.intro (fun q3 => And.intro ((h.2 q2).1 q3).1 (((h.2 q2).1 q3).2)) (fun q4 => And.intro (lo_25 T) (s_Turns_isReady (d := d + 0)   (And.intro (fun q5 => And.intro (((h.2 q2).2 q4).2 (qm_b0 q5)).1 ((((h.2 q2).2 q4).2 (qm_b0 q5)).2)) (fun q6 => And.intro (((h.2 q2).2 q4).1 (qm_b1 q6)).1 ((((h.2 q2).2 q4).1 (qm_b1 q6)).2))))))))
theorem en_Turns_openTo {T : qm_L}  {d : Nat} {K : qm_K} {M : qm_M} {x : Int} (h :
    at_Turns_openTo_4 T d K M x 0 0) : qm_Runs qm_P (d + 4) 78 [(.inr (some 25)), (.inl x)] (qL T) M K :=
  And.intro (Nat.le_of_ble_eq_true rfl) (show qm_TT qi_78 (qm_Runs qm_P (d + 3)) K 0 [some (.inr (some 25)), some (.inl x), none, none] [] (qL T) M 0 0 from qm_wp_TT [4] 27 (h))
theorem lp_Turns_openTo {T : qm_L} {d : Nat} {K : qm_K} {M : qm_M} {n z : Nat} {w p : Nat → Nat} (hI : qInv n w p) (hT : qTn M n w p) (hz : z < 2147483648) (hK : K (.inl (bits (opn n w p (bS z)) (rT n w p) : Int)) (qL T) M) : ∀ (j t : Nat), t + j = rT n w p → at_Turns_openTo_4 T d K M (z : Int) (bits (opn n w p (bS z)) t : Int) (t : Int)
  | 0, t, ht => by
    have : t = rT n w p := by omega
    subst this
    refine rg_Turns_openTo_4 (And.intro (fun _ => hK) (fun h => absurd h (by rw [hT.1]; omega)))
  | j + 1, t, ht => by
    have h28 := (r_T hI).1
    have hr : qm_R ((t : Int) + 1) := by unfold qm_R; omega
    have hq := bitq (t := t) hz (by omega)
    have ih := lp_Turns_openTo (d := d) hI hT hz hK j (t + 1) (by omega)
    refine rg_Turns_openTo_4 (And.intro (fun h => absurd h (by rw [hT.1]; omega)) (fun _ => And.intro (fun h => And.intro hr ?_) (fun h => ?_)))
    · rw [bits_f (fun q => h (hq.2.mpr q.1))] at ih
      exact ih
    · rw [Td_needs (hT.2 t (by omega)) (by omega), lnk (rdy hI hz)]
      refine And.intro (fun h2 => And.intro hr ?_) (fun h2 => And.intro hr ?_)
      · rw [bits_t (by omega) ⟨hq.2.mp (Classical.not_not.mp h), h2⟩]
        exact ih
      · rw [bits_f (fun q => h2 q.2)] at ih
        exact ih
theorem s_Turns_openTo {T : qm_L} {n z : Nat} {w p : Nat → Nat} {d : Nat} {K : qm_K} {M : qm_M} {x : Int} (hp0 : qInv n w p ∧ qTn M n w p) (hp1 : x = (z : Int) ∧ z < 2147483648) (hK : K (.inl ((bits (opn n w p (bS z)) (rT n w p) : Int))) (qL T) M) : qm_Runs qm_P (d + 4) 78 [(.inr (some 25)), (.inl x)] (qL T) M K := by
  refine en_Turns_openTo   ?_
  obtain ⟨hI, hT⟩ := hp0
  obtain ⟨rfl, hz⟩ := hp1
  exact lp_Turns_openTo hI hT hz hK (rT n w p) 0 (by omega)
def at_Turns_gainOfAll_4 (T : qm_L) (d : Nat) (K : qm_K) (M : qm_M) (x1 x2 x3 : Int) : Prop := qm_TT qi_80 (qm_Runs qm_P (d + 2)) K 4 [some (.inr (some 25)), some (.inl x1), some (.inl x2), some (.inl x3)] [] (qL T) M 0 0
theorem rg_Turns_gainOfAll_4 {T : qm_L}  {d : Nat} {K : qm_K} {M : qm_M} {x1 x2 x3 : Int} (h :
    ((M 25 6) ≤ x3 →
     K (.inl x2) (qL T) M) ∧
    (¬ (M 25 6) ≤ x3 →
     ((qm_and (qm_shr x1 x3) 1) ≠ 1 →
      qm_R (x3 + 1) ∧
      at_Turns_gainOfAll_4 T d K M x1 x2 ((x3 + 1))) ∧
     (¬ (qm_and (qm_shr x1 x3) 1) ≠ 1 →
      qm_R (x2 + (gRow M 33 28 x3)) ∧
      qm_R (x3 + 1) ∧
      at_Turns_gainOfAll_4 T d K M x1 ((x2 + (gRow M 33 28 x3))) ((x3 + 1))))) : at_Turns_gainOfAll_4 T d K M x1 x2 x3 :=
  qm_wp_TT [4] 23 (And.intro (lf_25_6 T) (And.intro (fun q1 => (h.1 q1)) (fun q2 => And.intro (fun q3 => And.intro ((h.2 q2).1 q3).1 (((h.2 q2).1 q3).2)) (fun q4 => And.intro (lo_25 T) (s_Turns_gain (d := d + 0)   (And.intro ((h.2 q2).2 q4).1 (And.intro ((h.2 q2).2 q4).2.1 (((h.2 q2).2 q4).2.2))))))))
theorem en_Turns_gainOfAll {T : qm_L}  {d : Nat} {K : qm_K} {M : qm_M} {x : Int} (h :
    at_Turns_gainOfAll_4 T d K M x 0 0) : qm_Runs qm_P (d + 3) 80 [(.inr (some 25)), (.inl x)] (qL T) M K :=
  And.intro (Nat.le_of_ble_eq_true rfl) (show qm_TT qi_80 (qm_Runs qm_P (d + 2)) K 0 [some (.inr (some 25)), some (.inl x), none, none] [] (qL T) M 0 0 from qm_wp_TT [4] 23 (h))
theorem lp_Turns_gainOfAll {T : qm_L} {d : Nat} {K : qm_K} {M : qm_M} {n z : Nat} {w p : Nat → Nat} (hI : qInv n w p) (hT : qTn M n w p) (hz : z < 2147483648) (hK : K (.inl (sumI (fun t => @ite Int (bS z t) (Classical.propDecidable _) (rgn n w p t) 0) (rT n w p))) (qL T) M) : ∀ (j t : Nat), t + j = rT n w p → at_Turns_gainOfAll_4 T d K M (z : Int) (sumI (fun t => @ite Int (bS z t) (Classical.propDecidable _) (rgn n w p t) 0) t) (t : Int)
  | 0, t, ht => by
    have : t = rT n w p := by omega
    subst this
    refine rg_Turns_gainOfAll_4 (And.intro (fun _ => hK) (fun h => absurd h (by rw [hT.1]; omega)))
  | j + 1, t, ht => by
    have h28 := (r_T hI).1
    have hr : qm_R ((t : Int) + 1) := by unfold qm_R; omega
    have hq := bitq (t := t) hz (by omega)
    have hg := rgn_le hI (r_lt (n := n) (w := w) (p := p) (show t < rT n w p by omega)).1
    have hs := sumI_abs (f := fun t => @ite Int (bS z t) (Classical.propDecidable _) (rgn n w p t) 0) (b := 112) (n := t) (fun j hj => by
      have := rgn_le hI (r_lt (n := n) (w := w) (p := p) (show j < rT n w p by omega)).1
      split <;> omega)
    have ih := lp_Turns_gainOfAll (d := d) hI hT hz hK j (t + 1) (by omega)
    have e : sumI (fun t => @ite Int (bS z t) (Classical.propDecidable _) (rgn n w p t) 0) (t + 1) = sumI (fun t => @ite Int (bS z t) (Classical.propDecidable _) (rgn n w p t) 0) t + @ite Int (bS z t) (Classical.propDecidable _) (rgn n w p t) 0 := rfl
    rw [e] at ih
    refine rg_Turns_gainOfAll_4 (And.intro (fun h => absurd h (by rw [hT.1]; omega)) (fun _ => And.intro (fun h => And.intro hr ?_) (fun h => ?_)))
    · rw [if_neg (fun q => h (hq.1.mpr q)), Int.add_zero] at ih
      exact ih
    · rw [if_pos (hq.1.mp (Classical.not_not.mp h))] at ih
      rw [Td_gain (hT.2 t (by omega)) (by omega)]
      exact And.intro (by unfold qm_R; omega) (And.intro hr ih)
theorem s_Turns_gainOfAll {T : qm_L} {n z : Nat} {w p : Nat → Nat} {d : Nat} {K : qm_K} {M : qm_M} {x : Int} (hp0 : qInv n w p ∧ qTn M n w p) (hp1 : x = (z : Int) ∧ z < 2147483648) (hK : K (.inl ((sumI (fun t => @ite Int (bS z t) (Classical.propDecidable _) (rgn n w p t) 0) (rT n w p)))) (qL T) M) : qm_Runs qm_P (d + 3) 80 [(.inr (some 25)), (.inl x)] (qL T) M K := by
  refine en_Turns_gainOfAll   ?_
  obtain ⟨hI, hT⟩ := hp0
  obtain ⟨rfl, hz⟩ := hp1
  exact lp_Turns_gainOfAll hI hT hz hK (rT n w p) 0 (by omega)
