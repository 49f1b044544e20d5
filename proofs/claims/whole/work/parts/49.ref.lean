noncomputable def gaT (n : Nat) (w p : Nat → Nat) (z t : Nat) : Int := @ite Int (bS z t) (Classical.propDecidable _) (rgn n w p t) 0
noncomputable def gaE (n : Nat) (w p : Nat → Nat) (m : Nat) : Int := sumI (gaT n w p (cE n w p m)) (rT n w p)
def mxI (f : Nat → Int) : Nat → Int
  | 0 => 0
  | k + 1 => max (mxI f k) (f k)
noncomputable def anMost (n : Nat) (w p : Nat → Nat) : Int := mxI (gaE n w p) (cN n w p)
def at_R_most_8  (d : Nat) (K : qm_K) (M : qm_M) (x1 x2 : Int) : Prop := ∀ (d3 d4 : Option qm_V), qm_TT qi_195 (qm_Runs qm_P (d + 7)) K 8 [some (.inr (some 71)), some (.inl x1), some (.inl x2), d3, d4] [] (qL qLM) M 0 0
def at_R_most_21  (d : Nat) (K : qm_K) (M : qm_M) (x1 x2 x3 x4 : Int) : Prop := qm_TT qi_195 (qm_Runs qm_P (d + 7)) K 21 [some (.inr (some 71)), some (.inl x1), some (.inl x2), some (.inl x3), some (.inl x4)] [] (qL qLM) M 0 0
theorem rg_R_most_8  {n i : Nat} {w p : Nat → Nat} {d : Nat} {K : qm_K} {M : qm_M} {x1 x2 : Int} (h :
    ((M 71 34) ≤ x2 →
     K (.inl x1) (qL qLM) M) ∧
    (¬ (M 71 34) ≤ x2 →
     at_R_most_21  d K M x1 x2 0 0)) : at_R_most_8  d K M x1 x2 :=
  fun d3 d4 => qm_wp_TT [8, 21] 24 (And.intro (lf_71_34 ()) (And.intro (fun q5 => (h.1 q5)) (fun q6 => (h.2 q6))))
theorem rg_R_most_21  {n i : Nat} {w p : Nat → Nat} {d : Nat} {K : qm_K} {M : qm_M} {x1 x2 x3 x4 : Int} (h :
    ((M 71 31) ≤ x4 →
     qm_R (x2 + 1) ∧
     at_R_most_8  d K M ((max x1 x3)) ((x2 + 1))) ∧
    (¬ (M 71 31) ≤ x4 →
     0 ≤ x2 ∧ x2 < 4096 ∧
     ∀ (y3 : Int), y3 = (M 95 (Int.toNat x2)) →
     ((qm_and (qm_shr y3 x4) 1 = 1) →
      (qMR M n w p) ∧
      (i < rT n w p ∧ x4 = (i : Int) ∧ qRt M n w p i) ∧
      ∀ (y4 : Int), y4 = (rgn n w p i) →
      qm_R (x3 + y4) ∧
      qm_R (x4 + 1) ∧
      at_R_most_21  d K M x1 x2 ((x3 + y4)) ((x4 + 1))) ∧
     (¬ (qm_and (qm_shr y3 x4) 1 = 1) →
      qm_R (x3 + 0) ∧
      qm_R (x4 + 1) ∧
      at_R_most_21  d K M x1 x2 ((x3 + 0)) ((x4 + 1))))) : at_R_most_21  d K M x1 x2 x3 x4 :=
  qm_wp_TT [8, 21] 24 (And.intro (lf_71_31 ()) (And.intro (fun q7 => And.intro (h.1 q7).1 ((h.1 q7).2 _ _)) (fun q8 => Exists.intro 95 (And.intro (lf_71_33 ()) (Exists.intro 4096 (And.intro (la_95 ()) (And.intro (h.2 q8).1 (And.intro (h.2 q8).2.1 (And.intro True.intro (s_R_has (d := d + 6)   (And.intro (fun q9 => And.intro (((h.2 q8).2.2 _ rfl).2 (qm_b0 q9)).1 (And.intro (((h.2 q8).2.2 _ rfl).2 (qm_b0 q9)).2.1 ((((h.2 q8).2.2 _ rfl).2 (qm_b0 q9)).2.2))) (fun q10 => And.intro (lo_71 ()) (s_R_gain (d := d + 4)  ((((h.2 q8).2.2 _ rfl).1 (qm_b1 q10)).1) ((((h.2 q8).2.2 _ rfl).1 (qm_b1 q10)).2.1) (And.intro ((((h.2 q8).2.2 _ rfl).1 (qm_b1 q10)).2.2 _ rfl).1 (And.intro ((((h.2 q8).2.2 _ rfl).1 (qm_b1 q10)).2.2 _ rfl).2.1 (((((h.2 q8).2.2 _ rfl).1 (qm_b1 q10)).2.2 _ rfl).2.2))))))))))))))))
theorem en_R_most  {n i : Nat} {w p : Nat → Nat} {d : Nat} {K : qm_K} {M : qm_M}  (h :
    (qMR M n w p) ∧
    (M 71 35 ≠ 0 → rKn M n w p) ∧
    (∀ (M2 : qm_M), (rKn M2 n w p ∧ M2 71 35 ≠ 0 ∧ kF M2 M) →
     at_R_most_8  d K M2 0 0)) : qm_Runs qm_P (d + 8) 195 [(.inr (some 71))] (qL qLM) M K :=
  And.intro (Nat.le_of_ble_eq_true rfl) (show qm_TT qi_195 (qm_Runs qm_P (d + 7)) K 0 [some (.inr (some 71)), none, none, none, none] [] (qL qLM) M 0 0 from qm_wp_TT [8, 21] 24 (And.intro (lo_71 ()) (s_R_knows (d := d + 0)  (h.1) (h.2.1) (fun M2 p11 => (h.2.2 M2 p11) _ _))))
theorem lp_R_most {d : Nat} {K : qm_K} {M : qm_M} {n : Nat} {w p : Nat → Nat} (hMR : qMR M n w p) (hKn : rKn M n w p) (hK : K (.inl (anMost n w p)) (qL qLM) M) : ∀ (j m : Nat), m + j = cN n w p → at_R_most_8 d K M (mxI (gaE n w p) m) (m : Int)
  | 0, m, hm => fun d3 d4 => by
    have hm : m = cN n w p := by omega
    subst hm
    exact rg_R_most_8 (n := n) (i := 0) (w := w) (p := p) (And.intro (fun _ => hK) (fun q => absurd q (by rw [hKn.2.2.2.1]; omega))) d3 d4
  | j + 1, m, hm => fun d3 d4 => by
    have hI := hMR.2.2.2
    have h28 := (r_T hI).1
    have h4 := cN_le hI
    have hz := cE_31 hI (show m < cN n w p by omega)
    have ih := lp_R_most (d := d) hMR hKn hK j (m + 1) (by omega)
    have inner : ∀ (i t : Nat), t + i = rT n w p → at_R_most_21 d K M (mxI (gaE n w p) m) (m : Int) (sumI (gaT n w p (cE n w p m)) t) (t : Int) := by
      intro i
      induction i with
      | zero =>
        intro t ht
        have ht : t = rT n w p := by omega
        subst ht
        exact rg_R_most_21 (n := n) (i := 0) (w := w) (p := p) (And.intro (fun _ => And.intro (by unfold qm_R; omega) ih) (fun q => absurd q (by rw [hKn.2.1.1]; omega)))
      | succ i ihi =>
        intro t ht
        have hr : qm_R ((t : Int) + 1) := by unfold qm_R; omega
        have hs := sumI_abs (f := gaT n w p (cE n w p m)) (b := 112) (n := t) (fun j hj => by
          have := rgn_le hI (T_lt hI (show j < rT n w p by omega)).2
          unfold gaT
          split <;> omega)
        have hg := rgn_le hI (T_lt hI (show t < rT n w p by omega)).2
        have hq := (bitq (z := cE n w p m) (t := t) hz (by omega)).1
        have ih2 := ihi (t + 1) (by omega)
        have e : sumI (gaT n w p (cE n w p m)) (t + 1) = sumI (gaT n w p (cE n w p m)) t + gaT n w p (cE n w p m) t := rfl
        rw [e] at ih2
        refine rg_R_most_21 (n := n) (i := t) (w := w) (p := p) (And.intro (fun q => absurd q (by rw [hKn.2.1.1]; omega)) (fun _ => And.intro (by omega) (And.intro (by omega) ?_)))
        intro y3 e3
        rw [Int.toNat_natCast, hKn.2.2.2.2 m (by omega)] at e3
        rw [e3]
        refine And.intro (fun h => And.intro hMR (And.intro ⟨by omega, rfl, hKn.2.1.2 t (by omega)⟩ ?_)) (fun h => And.intro (by unfold qm_R; omega) (And.intro hr ?_))
        · intro y4 e4
          refine And.intro (by unfold qm_R; omega) (And.intro hr ?_)
          have eg : gaT n w p (cE n w p m) t = rgn n w p t := by
            unfold gaT
            rw [if_pos (hq.mp h)]
          rw [e4, ← eg]
          exact ih2
        · have eg : gaT n w p (cE n w p m) t = 0 := by
            unfold gaT
            rw [if_neg (fun q => h (hq.mpr q))]
          rw [eg] at ih2
          exact ih2
    refine rg_R_most_8 (n := n) (i := 0) (w := w) (p := p) (And.intro (fun q => absurd q (by rw [hKn.2.2.2.1]; omega)) (fun _ => ?_)) d3 d4
    exact inner (rT n w p) 0 (by omega)
theorem s_R_most  {n : Nat} {w p : Nat → Nat} {d : Nat} {K : qm_K} {M : qm_M}  (hp0 : qMR M n w p) (hp1 : M 71 35 ≠ 0 → rKn M n w p) (hK : ∀ (r : Int) (M2 : qm_M), (r = anMost n w p ∧ (M2 71 35 ≠ 0 → rKn M2 n w p) ∧ mF M2 M) → K (.inl r) (qL qLM) M2) : qm_Runs qm_P (d + 8) 195 [(.inr (some 71))] (qL qLM) M K := by
  refine en_R_most (n := n) (i := 0) (w := w) (p := p) (And.intro hp0 (And.intro hp1 ?_))
  intro M2 q2
  exact lp_R_most (kF_MR hp0 q2.2.2) q2.1 (hK _ M2 ⟨rfl, fun _ => q2.1, mF_k q2.2.2⟩) (cN n w p) 0 (by omega)
