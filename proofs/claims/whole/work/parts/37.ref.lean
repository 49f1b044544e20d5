noncomputable def rPk (n : Nat) (w p : Nat → Nat) (t k : Nat) : Nat := 10 * rle n w p t k + rri n w p t k
def qRt (M : qm_M) (n : Nat) (w p : Nat → Nat) (t : Nat) : Prop := M 90 t = (rlen n w p t : Int) ∧ ∀ k, k < rlen n w p t → M 89 (8 * t + k) = (rPk n w p t k : Int)
def qRp (M : qm_M) (n : Nat) (w p : Nat → Nat) (T : Nat) : Prop := M 71 31 = (T : Int) ∧ ∀ t, t < T → qRt M n w p t
def rCt (M : qm_M) (n : Nat) (w p : Nat → Nat) (t : Nat) : Prop := M 71 32 = (rlen n w p t : Int) ∧ ∀ k, k < rlen n w p t → M 94 k = (rPk n w p t k : Int)
theorem turn_one {n : Nat} {w p : Nat → Nat} (hI : qInv n w p) {t i : Nat} (ht : t < rT n w p) (hi : i < rT n w p) (h : rPk n w p t 0 = rPk n w p i 0) : t = i := by
  have a := rle_lt hI (T_lt hI ht).2 0
  have b := rle_lt hI (T_lt hI hi).2 0
  have h8 := hI.2.1
  unfold rPk at h
  have e1 : rle n w p t 0 = rle n w p i 0 := by omega
  have e2 : rri n w p t 0 = rri n w p i 0 := by omega
  have key : ∀ t i, t < rT n w p → rle n w p t 0 = rle n w p i 0 → rri n w p t 0 = rri n w p i 0 → ¬ t < i := fun t i ht e1 e2 hlt => by
    have := r_strU hI (a := rle n w p t 0) (t := t) (s := i) ht rle_in (Nat.le_refl _) hlt
    unfold rri at e2
    rw [← e1] at e2
    rw [e2] at this
    exact Nat.lt_irrefl _ this
  have h1 := key t i ht e1 e2
  have h2 := key i t hi e1.symm e2.symm
  omega
def at_R_numberOf_2  (d : Nat) (K : qm_K) (M : qm_M) (x1 : Int) : Prop := ∀ (d2 d3 : Option qm_V), qm_TT qi_174 (qm_Runs qm_P (d + 0)) K 2 [some (.inr (some 71)), some (.inl x1), d2, d3] [] (qL qLM) M 0 0
def at_R_numberOf_31  (d : Nat) (K : qm_K) (M : qm_M) (x1 x2 x3 : Int) : Prop := qm_TT qi_174 (qm_Runs qm_P (d + 0)) K 31 [some (.inr (some 71)), some (.inl x1), some (.inl x2), some (.inl x3)] [] (qL qLM) M 0 0
theorem rg_R_numberOf_2  {n tt : Nat} {w p : Nat → Nat} {d : Nat} {K : qm_K} {M : qm_M} {x1 : Int} (h :
    ((M 71 31) ≤ x1 →
     K (.inl ((-2))) (qL qLM) M) ∧
    (¬ (M 71 31) ≤ x1 →
     0 ≤ x1 ∧ x1 < 28 ∧
     ∀ (y1 : Int), y1 = (M 90 (Int.toNat x1)) →
     (y1 ≠ (M 71 32) →
      at_R_numberOf_31  d K M x1 0 0) ∧
     (¬ y1 ≠ (M 71 32) →
      at_R_numberOf_31  d K M x1 1 0))) : at_R_numberOf_2  d K M x1 :=
  fun d2 d3 => qm_wp_TT [2, 31] 28 (And.intro (lf_71_31 ()) (And.intro (fun q4 => (h.1 q4)) (fun q5 => Exists.intro 90 (And.intro (lf_71_26 ()) (Exists.intro 28 (And.intro (la_90 ()) (And.intro (h.2 q5).1 (And.intro (h.2 q5).2.1 (And.intro (lf_71_32 ()) (And.intro (fun q6 => (((h.2 q5).2.2 _ rfl).1 q6)) (fun q7 => (((h.2 q5).2.2 _ rfl).2 q7))))))))))))
theorem rg_R_numberOf_31  {n tt : Nat} {w p : Nat → Nat} {d : Nat} {K : qm_K} {M : qm_M} {x1 x2 x3 : Int} (h :
    ((M 71 32) ≤ x3 →
     (x2 = 0 →
      qm_R (x1 + 1) ∧
      at_R_numberOf_2  d K M ((x1 + 1))) ∧
     (¬ x2 = 0 →
      K (.inl x1) (qL qLM) M)) ∧
    (¬ (M 71 32) ≤ x3 →
     (x2 = 0 →
      (x2 = 0 →
       qm_R (x1 + 1) ∧
       at_R_numberOf_2  d K M ((x1 + 1))) ∧
      (¬ x2 = 0 →
       K (.inl x1) (qL qLM) M)) ∧
     (¬ x2 = 0 →
      qm_R (8 * x1) ∧
      qm_R ((8 * x1) + x3) ∧
      0 ≤ ((8 * x1) + x3) ∧ ((8 * x1) + x3) < 224 ∧
      ∀ (y2 : Int), y2 = (M 89 (Int.toNat ((8 * x1) + x3))) →
      0 ≤ x3 ∧ x3 < 8 ∧
      ∀ (y3 : Int), y3 = (M 94 (Int.toNat x3)) →
      (y2 ≠ y3 →
       qm_R (x3 + 1) ∧
       at_R_numberOf_31  d K M x1 0 ((x3 + 1))) ∧
      (¬ y2 ≠ y3 →
       qm_R (x3 + 1) ∧
       at_R_numberOf_31  d K M x1 1 ((x3 + 1)))))) : at_R_numberOf_31  d K M x1 x2 x3 :=
  qm_wp_TT [2, 31] 28 (And.intro (lf_71_32 ()) (And.intro (fun q8 => And.intro (fun q10 => And.intro ((h.1 q8).1 q10).1 (((h.1 q8).1 q10).2 _ _)) (fun q11 => ((h.1 q8).2 q11))) (fun q9 => And.intro (fun q12 => And.intro (fun q14 => And.intro (((h.2 q9).1 q12).1 q14).1 ((((h.2 q9).1 q12).1 q14).2 _ _)) (fun q15 => (((h.2 q9).1 q12).2 q15))) (fun q13 => Exists.intro 89 (And.intro (lf_71_25 ()) (And.intro ((h.2 q9).2 q13).1 (And.intro ((h.2 q9).2 q13).2.1 (Exists.intro 224 (And.intro (la_89 ()) (And.intro ((h.2 q9).2 q13).2.2.1 (And.intro ((h.2 q9).2 q13).2.2.2.1 (Exists.intro 94 (And.intro (lf_71_30 ()) (Exists.intro 8 (And.intro (la_94 ()) (And.intro (((h.2 q9).2 q13).2.2.2.2 _ rfl).1 (And.intro (((h.2 q9).2 q13).2.2.2.2 _ rfl).2.1 (And.intro (fun q16 => And.intro (((((h.2 q9).2 q13).2.2.2.2 _ rfl).2.2 _ rfl).1 q16).1 ((((((h.2 q9).2 q13).2.2.2.2 _ rfl).2.2 _ rfl).1 q16).2)) (fun q17 => And.intro (((((h.2 q9).2 q13).2.2.2.2 _ rfl).2.2 _ rfl).2 q17).1 ((((((h.2 q9).2 q13).2.2.2.2 _ rfl).2.2 _ rfl).2 q17).2))))))))))))))))))))
theorem en_R_numberOf  {n tt : Nat} {w p : Nat → Nat} {d : Nat} {K : qm_K} {M : qm_M}  (h :
    at_R_numberOf_2  d K M 0) : qm_Runs qm_P (d + 1) 174 [(.inr (some 71))] (qL qLM) M K :=
  And.intro (Nat.le_of_ble_eq_true rfl) (show qm_TT qi_174 (qm_Runs qm_P (d + 0)) K 0 [some (.inr (some 71)), none, none, none] [] (qL qLM) M 0 0 from qm_wp_TT [2, 31] 28 (h _ _))
theorem lp_R_numberOf {d : Nat} {K : qm_K} {M : qm_M} {n i : Nat} {w p : Nat → Nat} (hI : qInv n w p) (hR : qRp M n w p (rT n w p)) (hi : i < rT n w p) (hC : rCt M n w p i) (hK : K (.inl (i : Int)) (qL qLM) M) : ∀ (j t : Nat), t + j = i → at_R_numberOf_2 d K M (t : Int) := by
  have h28 := (r_T hI).1
  have h8 := hI.2.1
  have hli := rlen_ok hI (T_lt hI hi).2
  have inner : ∀ (t : Nat), t < rT n w p → rlen n w p t = rlen n w p i → (t = i → K (.inl (t : Int)) (qL qLM) M) → (t ≠ i → at_R_numberOf_2 d K M ((t : Int) + 1)) → ∀ (j k : Nat), k + j = rlen n w p i → (∀ b, b < k → rPk n w p t b = rPk n w p i b) → at_R_numberOf_31 d K M (t : Int) 1 (k : Int) := by
    intro t ht hl hyes hno j
    induction j with
    | zero =>
      intro k hk hS
      have hti : t = i := turn_one hI ht hi (hS 0 (by omega))
      refine rg_R_numberOf_31 (n := n) (tt := i) (w := w) (p := p) (And.intro (fun _ => And.intro (fun z => absurd z (by decide)) (fun _ => hyes hti)) (fun z => absurd z (by rw [hC.1]; omega)))
    | succ j ih =>
      intro k hk hS
      refine rg_R_numberOf_31 (n := n) (tt := i) (w := w) (p := p) (And.intro (fun z => absurd z (by rw [hC.1]; omega)) (fun _ => And.intro (fun z => absurd z (by decide)) (fun _ => And.intro (by unfold qm_R; omega) (And.intro (by unfold qm_R; omega) (And.intro (by omega) (And.intro (by omega) ?_))))))
      intro y2 e2
      rw [show Int.toNat (8 * (t : Int) + (k : Int)) = 8 * t + k by omega, (hR.2 t ht).2 k (by omega)] at e2
      refine And.intro (by omega) (And.intro (by omega) ?_)
      intro y3 e3
      rw [Int.toNat_natCast, hC.2 k (by omega)] at e3
      refine And.intro (fun z => And.intro (by unfold qm_R; omega) ?_) (fun z => And.intro (by unfold qm_R; omega) (ih (k + 1) (by omega) (fun b hb => ?_)))
      · have hti : t ≠ i := fun q => z (by rw [e2, e3, q])
        have hn := hno hti
        have hr : qm_R ((t : Int) + 1) := by unfold qm_R; omega
        refine rg_R_numberOf_31 (n := n) (tt := i) (w := w) (p := p) (And.intro (fun _ => And.intro (fun _ => And.intro hr hn) (fun q => absurd rfl q)) (fun _ => And.intro (fun _ => And.intro (fun _ => And.intro hr hn) (fun q => absurd rfl q)) (fun q => absurd rfl q)))
      · by_cases hbk : b = k
        · rw [hbk]
          have := Classical.not_not.mp z
          omega
        · exact hS b (by omega)
  intro j
  induction j with
  | zero =>
    intro t ht d2 d3
    have ht : t = i := by omega
    subst ht
    refine rg_R_numberOf_2 (n := n) (tt := t) (w := w) (p := p) (And.intro (fun z => absurd z (by rw [hR.1]; omega)) (fun _ => And.intro (by omega) (And.intro (by omega) ?_))) d2 d3
    intro y1 e1
    rw [Int.toNat_natCast, (hR.2 t hi).1] at e1
    refine And.intro (fun z => absurd (by rw [e1, hC.1]) z) (fun _ => ?_)
    exact inner t hi rfl (fun _ => hK) (fun z => absurd rfl z) (rlen n w p t) 0 (by omega) (fun b hb => absurd hb (Nat.not_lt_zero _))
  | succ j ih =>
    intro t ht d2 d3
    have hr : qm_R ((t : Int) + 1) := by unfold qm_R; omega
    refine rg_R_numberOf_2 (n := n) (tt := i) (w := w) (p := p) (And.intro (fun z => absurd z (by rw [hR.1]; omega)) (fun _ => And.intro (by omega) (And.intro (by omega) ?_))) d2 d3
    intro y1 e1
    rw [Int.toNat_natCast, (hR.2 t (by omega)).1] at e1
    have hn : at_R_numberOf_2 d K M ((t : Int) + 1) := ih (t + 1) (by omega)
    refine And.intro (fun z => ?_) (fun z => ?_)
    · exact rg_R_numberOf_31 (n := n) (tt := i) (w := w) (p := p) (And.intro (fun _ => And.intro (fun _ => And.intro hr hn) (fun q => absurd rfl q)) (fun _ => And.intro (fun _ => And.intro (fun _ => And.intro hr hn) (fun q => absurd rfl q)) (fun q => absurd rfl q)))
    · have hl : rlen n w p t = rlen n w p i := by
        have := Classical.not_not.mp z
        rw [hC.1] at this
        omega
      exact inner t (by omega) hl (fun q => absurd q (by omega)) (fun _ => hn) (rlen n w p i) 0 (by omega) (fun b hb => absurd hb (Nat.not_lt_zero _))
theorem s_R_numberOf  {n tt : Nat} {w p : Nat → Nat} {d : Nat} {K : qm_K} {M : qm_M}  (hp0 : qInv n w p ∧ qRp M n w p (rT n w p)) (hp1 : tt < rT n w p ∧ rCt M n w p tt) (hK : K (.inl ((tt : Int))) (qL qLM) M) : qm_Runs qm_P (d + 1) 174 [(.inr (some 71))] (qL qLM) M K := by
  exact en_R_numberOf (n := n) (tt := tt) (w := w) (p := p) (lp_R_numberOf hp0.1 hp0.2 hp1.1 hp1.2 hK tt 0 (by omega))
def dfS (M : qm_M) (n : Nat) (w p : Nat → Nat) (c t k : Nat) (u u2 : Nat → Nat) : Prop := (∀ a, a < n → (∃ j, j < k ∧ rle n w p t j = a) → M c a = (u2 a : Int)) ∧ ∀ a, a < n → (¬ ∃ j, j < k ∧ rle n w p t j = a) → M c a = (u a : Int)
theorem td10 {a b : Nat} (hb : b < 10) : Int.tdiv (((10 * a + b : Nat) : Nat) : Int) 10 = (a : Int) := by
  show ((((10 * a + b) / 10 : Nat)) : Int) = _
  congr 1
  omega
theorem tm10 {a b : Nat} (hb : b < 10) : Int.tmod (((10 * a + b : Nat) : Nat) : Int) 10 = (b : Int) := by
  show ((((10 * a + b) % 10 : Nat)) : Int) = _
  congr 1
  omega
theorem tmN {a b : Nat} : Int.tmod (a : Int) (b : Int) = ((a % b : Nat) : Int) := rfl
theorem rle_m {n : Nat} {w p : Nat → Nat} (hI : qInv n w p) {t : Nat} (hl : rL n w p t < n) {k : Nat} (hk : k < rlen n w p t) : rle n w p t ((k + 1) % rlen n w p t) = rle n w p t (k + 1) := by
  have h := rlen_ok hI hl
  rcases Nat.lt_or_ge (k + 1) (rlen n w p t) with q | q
  · rw [Nat.mod_eq_of_lt q]
  · have e : k + 1 = rlen n w p t := by omega
    rw [e, Nat.mod_self]
    exact h.2.2.1.symm
def at_R_does_2 (a N : Nat) (d : Nat) (K : qm_K) (M : qm_M) (x1 x3 : Int) : Prop := qm_TT qi_175 (qm_Runs qm_P (d + 0)) K 2 [some (.inr (some 71)), some (.inl x1), some (.inr (some a)), some (.inl x3)] [] (qL qLM) M 0 0
theorem rg_R_does_2 {a N : Nat}  {d : Nat} {K : qm_K} {M : qm_M} {x1 x3 : Int} (hA : qArr (qL qLM) a N) (h :
    0 ≤ x1 ∧ x1 < 28 ∧
    ∀ (y1 : Int), y1 = (M 90 (Int.toNat x1)) →
    (y1 ≤ x3 →
     K (.inl 0) (qL qLM) M) ∧
    (¬ y1 ≤ x3 →
     qm_R (8 * x1) ∧
     qm_R ((8 * x1) + x3) ∧
     0 ≤ ((8 * x1) + x3) ∧ ((8 * x1) + x3) < 224 ∧
     ∀ (y2 : Int), y2 = (M 89 (Int.toNat ((8 * x1) + x3))) →
     (0 : Int) < 10 ∧
     qm_R (8 * x1) ∧
     qm_R (x3 + 1) ∧
     0 ≤ x1 ∧ x1 < 28 ∧
     ∀ (y3 : Int), y3 = (M 90 (Int.toNat x1)) →
     (0 : Int) < y3 ∧
     qm_R ((8 * x1) + (Int.tmod (x3 + 1) y3)) ∧
     0 ≤ ((8 * x1) + (Int.tmod (x3 + 1) y3)) ∧ ((8 * x1) + (Int.tmod (x3 + 1) y3)) < 224 ∧
     ∀ (y4 : Int), y4 = (M 89 (Int.toNat ((8 * x1) + (Int.tmod (x3 + 1) y3)))) →
     (0 : Int) < 10 ∧
     0 ≤ (Int.tdiv y2 10) ∧ (Int.tdiv y2 10) < N ∧
     ∀ (M5 : qm_M), M5 = (qm_u M a (Int.toNat (Int.tdiv y2 10)) (Int.tmod y4 10)) →
     qm_R (x3 + 1) ∧
     at_R_does_2 a N d K M5 x1 ((x3 + 1)))) : at_R_does_2 a N d K M x1 x3 :=
  qm_wp_TT [2] 41 (Exists.intro 90 (And.intro (lf_71_26 ()) (Exists.intro 28 (And.intro (la_90 ()) (And.intro h.1 (And.intro h.2.1 (And.intro (fun q6 => ((h.2.2 _ rfl).1 q6)) (fun q7 => Exists.intro 89 (And.intro (lf_71_25 ()) (And.intro ((h.2.2 _ rfl).2 q7).1 (And.intro ((h.2.2 _ rfl).2 q7).2.1 (Exists.intro 224 (And.intro (la_89 ()) (And.intro ((h.2.2 _ rfl).2 q7).2.2.1 (And.intro ((h.2.2 _ rfl).2 q7).2.2.2.1 (And.intro (((h.2.2 _ rfl).2 q7).2.2.2.2 _ rfl).1 (Exists.intro 89 (And.intro (lf_71_25 ()) (And.intro (((h.2.2 _ rfl).2 q7).2.2.2.2 _ rfl).2.1 (And.intro (((h.2.2 _ rfl).2 q7).2.2.2.2 _ rfl).2.2.1 (Exists.intro 90 (And.intro (lf_71_26 ()) (Exists.intro 28 (And.intro (la_90 ()) (And.intro (((h.2.2 _ rfl).2 q7).2.2.2.2 _ rfl).2.2.2.1 (And.intro (((h.2.2 _ rfl).2 q7).2.2.2.2 _ rfl).2.2.2.2.1 (And.intro ((((h.2.2 _ rfl).2 q7).2.2.2.2 _ rfl).2.2.2.2.2 _ rfl).1 (And.intro ((((h.2.2 _ rfl).2 q7).2.2.2.2 _ rfl).2.2.2.2.2 _ rfl).2.1 (Exists.intro 224 (And.intro (la_89 ()) (And.intro ((((h.2.2 _ rfl).2 q7).2.2.2.2 _ rfl).2.2.2.2.2 _ rfl).2.2.1 (And.intro ((((h.2.2 _ rfl).2 q7).2.2.2.2 _ rfl).2.2.2.2.2 _ rfl).2.2.2.1 (And.intro (((((h.2.2 _ rfl).2 q7).2.2.2.2 _ rfl).2.2.2.2.2 _ rfl).2.2.2.2 _ rfl).1 (Exists.intro N (And.intro hA.1 (And.intro (((((h.2.2 _ rfl).2 q7).2.2.2.2 _ rfl).2.2.2.2.2 _ rfl).2.2.2.2 _ rfl).2.1 (And.intro (((((h.2.2 _ rfl).2 q7).2.2.2.2 _ rfl).2.2.2.2.2 _ rfl).2.2.2.2 _ rfl).2.2.1 (And.intro ((((((h.2.2 _ rfl).2 q7).2.2.2.2 _ rfl).2.2.2.2.2 _ rfl).2.2.2.2 _ rfl).2.2.2 _ rfl).1 (((((((h.2.2 _ rfl).2 q7).2.2.2.2 _ rfl).2.2.2.2.2 _ rfl).2.2.2.2 _ rfl).2.2.2 _ rfl).2)))))))))))))))))))))))))))))))))))))))
theorem en_R_does {a N : Nat}  {d : Nat} {K : qm_K} {M : qm_M} {t : Int} (hA : qArr (qL qLM) a N) (h :
    at_R_does_2 a N d K M t 0) : qm_Runs qm_P (d + 1) 175 [(.inr (some 71)), (.inl t), (.inr (some a))] (qL qLM) M K :=
  And.intro (Nat.le_of_ble_eq_true rfl) (show qm_TT qi_175 (qm_Runs qm_P (d + 0)) K 0 [some (.inr (some 71)), some (.inl t), some (.inr (some a)), none] [] (qL qLM) M 0 0 from qm_wp_TT [2] 41 (h))
theorem lp_R_does {a N d : Nat} {K : qm_K} {M0 : qm_M} {n t : Nat} {w p u u2 : Nat → Nat} (hA : qArr (qL qLM) a N) (hI : qInv n w p) (ht : t < rT n w p) (hT : qRt M0 n w p t) (h8N : 8 ≤ N) (hne : a ≠ 89 ∧ a ≠ 90) (h1 : ∀ a, rIn n w p t a → u2 a = rX n w p t a) (h2 : ∀ a, ¬ rIn n w p t a → u2 a = u a) (hK : ∀ M2 : qm_M, (qAr M2 a n u2 ∧ ∀ c, c ≠ a → M2 c = M0 c) → K (.inl 0) (qL qLM) M2) : ∀ (j k : Nat) (M : qm_M), k + j = rlen n w p t → dfS M n w p a t k u u2 → (∀ c, c ≠ a → M c = M0 c) → at_R_does_2 a N d K M (t : Int) (k : Int)
  | 0, k, M, hk, hS, hc => by
    have hl := (T_lt hI ht).2
    have h28 := (T_lt hI ht).1
    refine rg_R_does_2 hA (And.intro (by omega) (And.intro (by omega) ?_))
    intro y1 e1
    rw [Int.toNat_natCast, hc 90 (Ne.symm hne.2), hT.1] at e1
    refine And.intro (fun _ => hK M ⟨fun x hx => ?_, hc⟩) (fun z => absurd z (by omega))
    have hk : k = rlen n w p t := by omega
    subst hk
    by_cases hin : rIn n w p t x
    · exact hS.1 x hx ((rin_le hI hl).mp hin)
    · rw [h2 x hin]
      exact hS.2 x hx (fun z => hin ((rin_le hI hl).mpr z))
  | j + 1, k, M, hk, hS, hc => by
    have hl := (T_lt hI ht).2
    have h28 := (T_lt hI ht).1
    have h8 := hI.2.1
    have hlen := rlen_ok hI hl
    have hx := rle_lt hI hl k
    have hx1 := rle_lt hI hl (k + 1)
    have hm : (k + 1) % rlen n w p t < rlen n w p t := Nat.mod_lt _ (by omega)
    refine rg_R_does_2 hA (And.intro (by omega) (And.intro (by omega) ?_))
    intro y1 e1
    rw [Int.toNat_natCast, hc 90 (Ne.symm hne.2), hT.1] at e1
    refine And.intro (fun z => absurd z (by omega)) (fun _ => And.intro (by unfold qm_R; omega) (And.intro (by unfold qm_R; omega) (And.intro (by omega) (And.intro (by omega) ?_))))
    intro y2 e2
    rw [show Int.toNat (8 * (t : Int) + (k : Int)) = 8 * t + k by omega, hc 89 (Ne.symm hne.1), hT.2 k (by omega)] at e2
    refine And.intro (by decide) (And.intro (by unfold qm_R; omega) (And.intro (by unfold qm_R; omega) (And.intro (by omega) (And.intro (by omega) ?_))))
    intro y3 e3
    rw [Int.toNat_natCast, hc 90 (Ne.symm hne.2), hT.1] at e3
    have em : Int.tmod ((k : Int) + 1) y3 = (((k + 1) % rlen n w p t : Nat) : Int) := by
      rw [e3]
      exact tmN (a := k + 1)
    rw [em]
    refine And.intro (by omega) (And.intro (by unfold qm_R; omega) (And.intro (by omega) (And.intro (by omega) ?_)))
    intro y4 e4
    rw [show Int.toNat (8 * (t : Int) + (((k + 1) % rlen n w p t : Nat) : Int)) = 8 * t + (k + 1) % rlen n w p t by omega, hc 89 (Ne.symm hne.1), hT.2 _ hm] at e4
    have er : rri n w p t ((k + 1) % rlen n w p t) = rri n w p t (k + 1) := by
      unfold rri
      rw [rle_m hI hl (by omega)]
    have d2 : Int.tdiv y2 10 = (rle n w p t k : Int) := by rw [e2]; exact td10 (by omega)
    have d4 : Int.tmod y4 10 = (rri n w p t (k + 1) : Int) := by
      rw [e4]
      have := tm10 (a := rle n w p t ((k + 1) % rlen n w p t)) (b := rri n w p t ((k + 1) % rlen n w p t)) (by rw [er]; omega)
      rw [er] at this
      unfold rPk
      rw [er]
      exact this
    rw [d2, d4]
    refine And.intro (by decide) (And.intro (by omega) (And.intro (by omega) ?_))
    intro M5 e5
    rw [Int.toNat_natCast] at e5
    have hin : rIn n w p t (rle n w p t k) := rle_in
    refine And.intro (by unfold qm_R; omega) (lp_R_does hA hI ht hT h8N hne h1 h2 hK j (k + 1) M5 (by omega) ⟨fun x hxn z => ?_, fun x hxn z => ?_⟩ (fun c hcc => by rw [e5, qu_cf hcc]; exact hc c hcc))
    · rw [e5]
      by_cases hxk : x = rle n w p t k
      · rw [hxk, qu_s, h1 _ hin, rri_next hI hl]
      · obtain ⟨i, hi, e⟩ := z
        rw [qu_k hxk]
        exact hS.1 x hxn ⟨i, by rcases Nat.lt_or_ge i k with q | q; exact q; exact absurd (by rw [← e, show i = k by omega]) hxk, e⟩
    · rw [e5, qu_k (fun q => z ⟨k, by omega, q.symm⟩)]
      exact hS.2 x hxn (fun ⟨i, hi, e⟩ => z ⟨i, by omega, e⟩)
theorem s_R_does {a N : Nat} {n td : Nat} {w p ud ue : Nat → Nat} {d : Nat} {K : qm_K} {M : qm_M} {t : Int} (hA : qArr (qL qLM) a N) (hp0 : qInv n w p ∧ td < rT n w p ∧ t = (td : Int) ∧ qRt M n w p td) (hp1 : qAr M a n ud ∧ 8 ≤ (N : Nat) ∧ a ≠ 89 ∧ a ≠ 90) (hp2 : (∀ a, rIn n w p td a → ue a = rX n w p td a) ∧ ∀ a, ¬ rIn n w p td a → ue a = ud a) (hK : ∀ (M2 : qm_M), (qAr M2 a n ue ∧ ∀ c, c ≠ a → M2 c = M c) → K (.inl 0) (qL qLM) M2) : qm_Runs qm_P (d + 1) 175 [(.inr (some 71)), (.inl t), (.inr (some a))] (qL qLM) M K := by
  obtain ⟨hI, ht, rfl, hT⟩ := hp0
  obtain ⟨hu, h8N, hne⟩ := hp1
  refine en_R_does hA (lp_R_does hA hI ht hT h8N hne hp2.1 hp2.2 hK (rlen n w p td) 0 M (by omega) ⟨fun x _ h => ?_, fun x hx _ => hu x hx⟩ (fun _ _ => rfl))
  obtain ⟨j, hj, _⟩ := h
  exact absurd hj (Nat.not_lt_zero _)
theorem itf_same {f g : Nat → Nat} {l : Nat} (h : ∀ a, inC f l a → f a = g a) : ∀ k, itf f k l = itf g k l
  | 0 => rfl
  | k + 1 => by
    show f (itf f k l) = g (itf g k l)
    rw [h _ ⟨k, rfl⟩, itf_same h k]
theorem per_same {f g : Nat → Nat} {l : Nat} (h : ∀ k, itf f k l = itf g k l) : per f l = per g l := by
  unfold per
  rw [lst_congr (fun j _ => by rw [h (j + 1)])]
/-- a turn that is ready is exposed, with the least of its lefts at its head -/
theorem turn_cyc {n : Nat} {w p : Nat → Nat} (hI : qInv n w p) {S : Nat → Prop} (hS : rId n w p S) {t : Nat} (ht : t < rT n w p) (hn : ¬ S t) (hr : ∀ u, rNd n w p t u → S u) : isF (fo n w p (mU n w p S) (mV n w p S)) (rL n w p t) ∧ per (fo n w p (mU n w p S) (mV n w p S)) (rL n w p t) = rlen n w p t ∧ ∀ k, itf (fo n w p (mU n w p S) (mV n w p S)) k (rL n w p t) = rle n w p t k ∧ mU n w p S (rle n w p t k) = rri n w p t k := by
  have hl := r_lt ht
  have e : ∀ k, rle n w p t k = itf (fo n w p (mU n w p S) (mV n w p S)) k (rL n w p t) := itf_same (f := rF n w p t) (fun a ha => (m_ready hI hS ht hn hr ha).2.2.symm)
  have ep : per (fo n w p (mU n w p S) (mV n w p S)) (rL n w p t) = rlen n w p t := (per_same e).symm
  have hlen := rlen_ok hI hl.1
  refine ⟨⟨⟨rlen n w p t, hlen.1, by rw [← e]; exact hlen.2.2.1⟩, fun k => ?_⟩, ep, fun k => ⟨(e k).symm, (m_ready hI hS ht hn hr rle_in).1⟩⟩
  rw [← e k]
  have hc : cyc (rF n w p t) (rle n w p t k) := inC_cyc hl.2 rle_in
  exact Nat.le_of_not_lt fun z => lst_not (P := cyc (rF n w p t)) z hc
theorem cyc_turn {n : Nat} {w p : Nat → Nat} (hI : qInv n w p) {S : Nat → Prop} (hS : rId n w p S) {c : Nat} (hc : c < n) (hF : isF (fo n w p (mU n w p S) (mV n w p S)) c) : ∃ t, t < rT n w p ∧ ¬ S t ∧ (∀ u, rNd n w p t u → S u) ∧ c = rL n w p t := by
  obtain ⟨t, ht, hn, hr, hin⟩ := m_exposed hI hS hc hF.1
  refine ⟨t, ht, hn, hr, ?_⟩
  obtain ⟨⟨h1, h2⟩, h3, h4⟩ := turn_cyc hI hS ht hn hr
  have hct : rIn n w p t c := (hin c).mp (inC_self _ _)
  obtain ⟨k, hk, e⟩ := (rin_le hI (r_lt ht).1).mp hct
  have a1 := h2 k
  rw [(h4 k).1, e] at a1
  obtain ⟨j, ej⟩ := (hin (rL n w p t)).mpr (inC_self _ _)
  have a2 := hF.2 j
  rw [ej] at a2
  omega
theorem rCy_t {M : qm_M} {n : Nat} {w p : Nat → Nat} (hI : qInv n w p) {S : Nat → Prop} (hS : rId n w p S) {t : Nat} (ht : t < rT n w p) (hn : ¬ S t) (hr : ∀ u, rNd n w p t u → S u) (h : rCy M (fo n w p (mU n w p S) (mV n w p S)) (mU n w p S) (rL n w p t)) : rCt M n w p t := by
  obtain ⟨h1, h2, h3⟩ := turn_cyc hI hS ht hn hr
  refine ⟨by rw [h.1, h2], fun k hk => ?_⟩
  have := h.2 k (by omega)
  rw [(h3 k).1, (h3 k).2] at this
  exact this
