def woF (M2 M : qm_M) : Prop := ∀ c y, c ≠ 86 → c ≠ 93 → c ≠ 94 → c ≠ 71 ∨ y ≠ 32 → M2 c y = M c y
def rAh (M : qm_M) (n : Nat) (w p : Nat → Nat) (x t : Nat) : Prop := M 91 t = (bits (fun u => rNd n w p t u ∧ u < x) 28 : Int)
theorem woF_MR {M M0 : qm_M} {n : Nat} {w p : Nat → Nat} (h : qMR M0 n w p) (hF : woF M M0) : qMR M n w p := qMR_mem h (hF 71 0 (by decide) (by decide) (by decide) (Or.inr (by decide))) (funext fun x => hF 72 x (by decide) (by decide) (by decide) (Or.inl (by decide))) (funext fun x => hF 73 x (by decide) (by decide) (by decide) (Or.inl (by decide)))
theorem woF_Rp {M M0 : qm_M} {n T : Nat} {w p : Nat → Nat} (h : qRp M0 n w p T) (hF : woF M M0) : qRp M n w p T := ⟨by rw [hF 71 31 (by decide) (by decide) (by decide) (Or.inr (by decide))]; exact h.1, fun y hy => ⟨by rw [hF 90 _ (by decide) (by decide) (by decide) (Or.inl (by decide))]; exact (h.2 y hy).1, fun k hk => by rw [hF 89 _ (by decide) (by decide) (by decide) (Or.inl (by decide))]; exact (h.2 y hy).2 k hk⟩⟩
theorem bS_or {z t u : Nat} : bS (z ||| 2 ^ t) u ↔ bS z u ∨ u = t := by
  unfold bS
  rw [or_test, pow_test]
  exact ⟨fun h => h.imp id Eq.symm, fun h => h.imp id Eq.symm⟩
theorem or_gt {z t : Nat} (h : ¬ bS z t) : z < z ||| 2 ^ t := Nat.lt_of_le_of_ne Nat.left_le_or (fun e => h (by
  have := (bS_or (z := z) (t := t) (u := t)).mpr (Or.inr rfl)
  rw [← e] at this
  exact this))
def at_R_without_29  (d : Nat) (K : qm_K) (M : qm_M) (x1 x2 x3 : Int) : Prop := qm_TT qi_178 (qm_Runs qm_P (d + 5)) K 29 [some (.inr (some 71)), some (.inl x1), some (.inl x2), some (.inl x3)] [] (qL qLM) M 0 0
def at_R_without_63  (d : Nat) (K : qm_K) (M : qm_M) (x1 x2 x3 : Int) : Prop := qm_TT qi_178 (qm_Runs qm_P (d + 5)) K 63 [some (.inr (some 71)), some (.inl x1), some (.inl x2), some (.inl x3)] [] (qL qLM) M 0 0
theorem rg_R_without_29  {n td : Nat} {w p ud ue : Nat → Nat} {S : Nat → Prop} {d : Nat} {K : qm_K} {M : qm_M} {x1 x2 x3 : Int} (h :
    (x3 < 0 →
     at_R_without_63  d K M x1 x2 0) ∧
    (¬ x3 < 0 →
     (qInv n w p ∧ td < rT n w p ∧ x3 = (td : Int) ∧ qRt M n w p td) ∧
     (qAr M 86 n ud ∧ 8 ≤ (8 : Nat) ∧ 86 ≠ 89 ∧ 86 ≠ 90) ∧
     ((∀ a, rIn n w p td a → ue a = rX n w p td a) ∧ ∀ a, ¬ rIn n w p td a → ue a = ud a) ∧
     (∀ (M5 : qm_M), (qAr M5 86 n ue ∧ ∀ c, c ≠ 86 → M5 c = M c) →
      (qMR M5 n w p ∧ rId n w p S ∧ qRp M5 n w p (rT n w p)) ∧
      (qAr M5 86 n (mU n w p S) ∧ 8 ≤ (8 : Nat) ∧ 86 ≠ 93 ∧ 86 ≠ 94 ∧ 86 ≠ 71) ∧
      (∀ (r6 : Int) (M7 : qm_M), (((∃ t, r6 = ((t : Nat) : Int) ∧ t < rT n w p ∧ ¬ S t ∧ (∀ u, rNd n w p t u → S u) ∧ ((t : Nat) : Int) ≠ x1) ∨ (r6 = -2 ∧ ∀ t, t < rT n w p → ¬ S t → (∀ u, rNd n w p t u → S u) → ((t : Nat) : Int) = x1)) ∧ ∀ c y, c ≠ 93 → c ≠ 94 → c ≠ 71 ∨ y ≠ 32 → M7 c y = M5 c y) →
       at_R_without_29  d K M7 x1 ((qm_or x2 (qm_shl 1 x3))) r6)))) : at_R_without_29  d K M x1 x2 x3 :=
  qm_wp_TT [29, 63] 28 (And.intro (fun q12 => (h.1 q12)) (fun q13 => Exists.intro 86 (And.intro (lf_71_21 ()) (And.intro (lo_71 ()) (s_R_does (d := d + 4) (And.intro (la_86 ()) (by decide)) ((h.2 q13).1) ((h.2 q13).2.1) ((h.2 q13).2.2.1) (fun M5 p14 => Exists.intro 86 (And.intro (lf_71_21 ()) (And.intro (lo_71 ()) (s_R_firstExposed (d := d + 0) (And.intro (la_86 ()) (by decide)) (((h.2 q13).2.2.2 M5 p14).1) (((h.2 q13).2.2.2 M5 p14).2.1) (fun r6 M7 p15 => (((h.2 q13).2.2.2 M5 p14).2.2 r6 M7 p15)))))))))))
theorem rg_R_without_63  {n td : Nat} {w p ud ue : Nat → Nat} {S : Nat → Prop} {d : Nat} {K : qm_K} {M : qm_M} {x1 x2 x3 : Int} (h :
    ((M 71 31) ≤ x3 →
     K (.inl 0) (qL qLM) M) ∧
    (¬ (M 71 31) ≤ x3 →
     0 ≤ x3 ∧ x3 < 28 ∧
     ∀ (y8 : Int), y8 = (M 91 (Int.toNat x3)) →
     (x3 = x1 →
      0 ≤ x3 ∧ x3 < 28 ∧
      ∀ (M9 : qm_M), M9 = (qm_u M 91 (Int.toNat x3) (qm_or y8 0)) →
      qm_R (x3 + 1) ∧
      at_R_without_63  d K M9 x1 x2 ((x3 + 1))) ∧
     (¬ x3 = x1 →
      ((qm_and (qm_shr x2 x3) 1 = 1) →
       0 ≤ x3 ∧ x3 < 28 ∧
       ∀ (M10 : qm_M), M10 = (qm_u M 91 (Int.toNat x3) (qm_or y8 0)) →
       qm_R (x3 + 1) ∧
       at_R_without_63  d K M10 x1 x2 ((x3 + 1))) ∧
      (¬ (qm_and (qm_shr x2 x3) 1 = 1) →
       0 ≤ x3 ∧ x3 < 28 ∧
       ∀ (M11 : qm_M), M11 = (qm_u M 91 (Int.toNat x3) (qm_or y8 (qm_shl 1 x1))) →
       qm_R (x3 + 1) ∧
       at_R_without_63  d K M11 x1 x2 ((x3 + 1)))))) : at_R_without_63  d K M x1 x2 x3 :=
  qm_wp_TT [29, 63] 28 (And.intro (lf_71_31 ()) (And.intro (fun q16 => (h.1 q16)) (fun q17 => Exists.intro 91 (And.intro (lf_71_27 ()) (Exists.intro 28 (And.intro (la_91 ()) (And.intro (h.2 q17).1 (And.intro (h.2 q17).2.1 (And.intro (fun q18 => Exists.intro 28 (And.intro (la_91 ()) (And.intro (((h.2 q17).2.2 _ rfl).1 q18).1 (And.intro (((h.2 q17).2.2 _ rfl).1 q18).2.1 (And.intro ((((h.2 q17).2.2 _ rfl).1 q18).2.2 _ rfl).1 (((((h.2 q17).2.2 _ rfl).1 q18).2.2 _ rfl).2)))))) (fun q19 => And.intro True.intro (s_R_has (d := d + 4)   (And.intro (fun q20 => Exists.intro 28 (And.intro (la_91 ()) (And.intro ((((h.2 q17).2.2 _ rfl).2 q19).1 (qm_b1 q20)).1 (And.intro ((((h.2 q17).2.2 _ rfl).2 q19).1 (qm_b1 q20)).2.1 (And.intro (((((h.2 q17).2.2 _ rfl).2 q19).1 (qm_b1 q20)).2.2 _ rfl).1 ((((((h.2 q17).2.2 _ rfl).2 q19).1 (qm_b1 q20)).2.2 _ rfl).2)))))) (fun q21 => Exists.intro 28 (And.intro (la_91 ()) (And.intro ((((h.2 q17).2.2 _ rfl).2 q19).2 (qm_b2 q21)).1 (And.intro ((((h.2 q17).2.2 _ rfl).2 q19).2 (qm_b2 q21)).2.1 (And.intro (((((h.2 q17).2.2 _ rfl).2 q19).2 (qm_b2 q21)).2.2 _ rfl).1 ((((((h.2 q17).2.2 _ rfl).2 q19).2 (qm_b2 q21)).2.2 _ rfl).2))))))))))))))))))
theorem en_R_without  {n td : Nat} {w p ud ue : Nat → Nat} {S : Nat → Prop} {d : Nat} {K : qm_K} {M : qm_M} {x : Int} (h :
    (0 ≤ ((0 : Int) : Int) ∧ 0 ≤ ((0 : Int) : Int) ∧ 0 ≤ ((M 71 0) : Int) ∧ ((0 : Int) : Int) + (M 71 0) ≤ (8 : Int) ∧ ((0 : Int) : Int) + (M 71 0) ≤ (8 : Int)) ∧
    ((85 : Nat) ≠ 86 ∨ ((0 : Int) : Int) ≤ (0 : Int)) ∧
    ∀ (M1 : qm_M), M1 = (cpM M 85 0 86 0 (M 71 0)) →
    (qMR M1 n w p ∧ rId n w p S ∧ qRp M1 n w p (rT n w p)) ∧
    (qAr M1 86 n (mU n w p S) ∧ 8 ≤ (8 : Nat) ∧ 86 ≠ 93 ∧ 86 ≠ 94 ∧ 86 ≠ 71) ∧
    (∀ (r2 : Int) (M3 : qm_M), (((∃ t, r2 = ((t : Nat) : Int) ∧ t < rT n w p ∧ ¬ S t ∧ (∀ u, rNd n w p t u → S u) ∧ ((t : Nat) : Int) ≠ x) ∨ (r2 = -2 ∧ ∀ t, t < rT n w p → ¬ S t → (∀ u, rNd n w p t u → S u) → ((t : Nat) : Int) = x)) ∧ ∀ c y, c ≠ 93 → c ≠ 94 → c ≠ 71 ∨ y ≠ 32 → M3 c y = M1 c y) →
     at_R_without_29  d K M3 x 0 r2)) : qm_Runs qm_P (d + 6) 178 [(.inr (some 71)), (.inl x)] (qL qLM) M K :=
  And.intro (Nat.le_of_ble_eq_true rfl) (show qm_TT qi_178 (qm_Runs qm_P (d + 5)) K 0 [some (.inr (some 71)), some (.inl x), none, none] [] (qL qLM) M 0 0 from qm_wp_TT [29, 63] 28 (Exists.intro 85 (And.intro (lf_71_20 ()) (Exists.intro 86 (And.intro (lf_71_21 ()) (And.intro (lf_71_0 ()) (And.intro True.intro (s_R_copies (d := d + 4) (And.intro (la_85 ()) (by decide)) (And.intro (la_86 ()) (by decide)) (h.1) (h.2.1) (Exists.intro 86 (And.intro (lf_71_21 ()) (And.intro (lo_71 ()) (s_R_firstExposed (d := d + 0) (And.intro (la_86 ()) (by decide)) ((h.2.2 _ rfl).1) ((h.2.2 _ rfl).2.1) (fun r2 M3 p22 => ((h.2.2 _ rfl).2.2 r2 M3 p22))))))))))))))
theorem lp_R_without2 {d : Nat} {K : qm_K} {M0 : qm_M} {n x z : Nat} {w p : Nat → Nat} (hI : qInv n w p) (hx : x < rT n w p) (hz : z < 2147483648) (hS : ∀ t, t < rT n w p → (bS z t ↔ t ≠ x ∧ ¬ rNd n w p t x)) (h31 : M0 71 31 = (rT n w p : Int)) (hA : ∀ t, t < rT n w p → rAh M0 n w p x t) (hK : ∀ M2 : qm_M, ((∀ t, t < rT n w p → rAh M2 n w p (x + 1) t) ∧ ∀ c, c ≠ 91 → M2 c = M0 c) → K (.inl 0) (qL qLM) M2) : ∀ (j t : Nat) (M : qm_M), t + j = rT n w p → (∀ c, c ≠ 91 → M c = M0 c) → (∀ u, u < t → rAh M n w p (x + 1) u) → (∀ u, t ≤ u → u < rT n w p → rAh M n w p x u) → at_R_without_63 d K M (x : Int) (z : Int) (t : Int)
  | 0, t, M, ht, hc, h1, h2 => by
    refine rg_R_without_63 (n := n) (td := 0) (w := w) (p := p) (ud := p) (ue := p) (S := fun _ => False) (And.intro (fun _ => hK M ⟨fun u hu => h1 u (by omega), hc⟩) (fun q => absurd q (by rw [hc 71 (by decide), h31]; omega)))
  | j + 1, t, M, ht, hc, h1, h2 => by
    have h28 := (r_T hI).1
    have hr : qm_R ((t : Int) + 1) := by unfold qm_R; omega
    have go : ∀ (M2 : qm_M) (v : Int), M2 = qm_u M 91 t v → v = (bits (fun u => rNd n w p t u ∧ u < x + 1) 28 : Int) → at_R_without_63 d K M2 (x : Int) (z : Int) ((t : Int) + 1) := fun M2 v e ev => lp_R_without2 hI hx hz hS h31 hA hK j (t + 1) M2 (by omega) (fun c q => by rw [e, qu_cf q]; exact hc c q) (fun u hu => by
      unfold rAh
      rw [e]
      by_cases hut : u = t
      · rw [hut, qu_s]; exact ev
      · rw [qu_k hut]; exact h1 u (by omega)) (fun u hu hu2 => by
      unfold rAh
      rw [e, qu_k (by omega)]
      exact h2 u (by omega) hu2)
    have hv := h2 t (Nat.le_refl _) (by omega)
    unfold rAh at hv
    have same : ¬ rNd n w p t x → bits (fun u => rNd n w p t u ∧ u < x) 28 = bits (fun u => rNd n w p t u ∧ u < x + 1) 28 := fun hno => bits_congr (fun u _ => ⟨fun q => ⟨q.1, by omega⟩, fun q => ⟨q.1, by
      rcases Nat.lt_or_ge u x with r | r
      · exact r
      · exact absurd q.1 (by rw [show u = x by omega]; exact hno)⟩⟩)
    refine rg_R_without_63 (n := n) (td := 0) (w := w) (p := p) (ud := p) (ue := p) (S := fun _ => False) (And.intro (fun q => absurd q (by rw [hc 71 (by decide), h31]; omega)) (fun _ => And.intro (by omega) (And.intro (by omega) ?_)))
    intro y8 e8
    rw [Int.toNat_natCast, hv] at e8
    have hb := (bitq (z := z) (t := t) hz (by omega)).1
    refine And.intro (fun q => And.intro (by omega) (And.intro (by omega) ?_)) (fun q => And.intro (fun q2 => And.intro (by omega) (And.intro (by omega) ?_)) (fun q2 => And.intro (by omega) (And.intro (by omega) ?_)))
    · intro M9 e9
      rw [Int.toNat_natCast, e8, or_0 (by decide)] at e9
      refine And.intro hr (go M9 _ e9 ?_)
      rw [same (fun z => by have := (Nd_lt z).1; omega)]
    · intro M9 e9
      rw [Int.toNat_natCast, e8, or_0 (by decide)] at e9
      refine And.intro hr (go M9 _ e9 ?_)
      rw [same ((hS t (by omega)).mp (hb.mp q2)).2]
    · intro M9 e9
      rw [Int.toNat_natCast, e8] at e9
      have hn : rNd n w p t x := Classical.byContradiction fun z => q2 (hb.mpr ((hS t (by omega)).mpr ⟨fun q3 => q (by rw [q3]), z⟩))
      rw [bits_i (Q := fun u => rNd n w p t u ∧ u < x + 1) (by decide) (by omega) (fun u _ => ⟨fun q => by
        rcases Nat.lt_or_ge u x with r | r
        · exact Or.inl ⟨q.1, r⟩
        · exact Or.inr (by omega), fun q => by
        rcases q with q | q
        · exact ⟨q.1, by omega⟩
        · rw [q]; exact ⟨hn, by omega⟩⟩)] at e9
      exact And.intro hr (go M9 _ e9 rfl)
theorem lp_R_without {d : Nat} {K : qm_K} {M0 : qm_M} {n x : Nat} {w p : Nat → Nat} (hMR : qMR M0 n w p) (hR : qRp M0 n w p (rT n w p)) (hx : x < rT n w p) (hA : ∀ t, t < rT n w p → rAh M0 n w p x t) (hK : ∀ M2 : qm_M, ((∀ t, t < rT n w p → rAh M2 n w p (x + 1) t) ∧ ∀ c y, c ≠ 86 → c ≠ 91 → c ≠ 93 → c ≠ 94 → c ≠ 71 ∨ y ≠ 32 → M2 c y = M0 c y) → K (.inl 0) (qL qLM) M2) : ∀ (j z : Nat) (M : qm_M) (r : Int), 2 ^ rT n w p ≤ z + j → cQ n w p z → ¬ bS z x → qAr M 86 n (mU n w p (bS z)) → woF M M0 → ((∃ t, r = ((t : Nat) : Int) ∧ t < rT n w p ∧ ¬ bS z t ∧ (∀ u, rNd n w p t u → bS z u) ∧ ((t : Nat) : Int) ≠ (x : Int)) ∨ (r = -2 ∧ ∀ t, t < rT n w p → ¬ bS z t → (∀ u, rNd n w p t u → bS z u) → ((t : Nat) : Int) = (x : Int))) → at_R_without_29 d K M (x : Int) (z : Int) r
  | j, z, M, r, hj, hz, hnx, hu, hF, hr => by
    have hI := hMR.2.2.2
    have h28 := (r_T hI).1
    have hz31 := cQ_31 hI hz
    rcases hr with ⟨t, rfl, ht, h1, h2, h3⟩ | ⟨rfl, h1⟩
    · have hlt := cQ_lt hz
      obtain ⟨j, rfl⟩ : ∃ i, j = i + 1 := ⟨j - 1, by omega⟩
      have hS' : bS (z ||| 2 ^ t) = fun u => bS z u ∨ u = t := S_ext (fun u => bS_or)
      have hid : cQ n w p (z ||| 2 ^ t) := by
        show rId n w p (bS (z ||| 2 ^ t))
        rw [hS']
        exact Id_add hz ht h2
      have hadd := m_add hI hz ht h1 h2
      rw [← hS'] at hadd
      refine rg_R_without_29 (n := n) (td := t) (w := w) (p := p) (ud := mU n w p (bS z)) (ue := mU n w p (bS (z ||| 2 ^ t))) (S := bS (z ||| 2 ^ t)) (And.intro (fun q => absurd q (by omega)) (fun _ => And.intro ⟨hI, ht, rfl, (woF_Rp hR hF).2 t ht⟩ (And.intro ⟨hu, by decide, by decide, by decide⟩ (And.intro ⟨hadd.1, hadd.2.1⟩ ?_))))
      intro M5 h5
      have hF5 : woF M5 M0 := fun c y q1 q2 q3 q4 => by rw [h5.2 c q1]; exact hF c y q1 q2 q3 q4
      refine And.intro ⟨woF_MR hMR hF5, hid, woF_Rp hR hF5⟩ (And.intro ⟨h5.1, by decide, by decide, by decide, by decide⟩ ?_)
      intro r6 M7 h7
      rw [qb_shl1 t (by omega), qb_or (by omega) (pow_lt31 (by omega))]
      exact lp_R_without hMR hR hx hA hK j (z ||| 2 ^ t) M7 r6 (by have := or_gt h1; omega) hid (fun q => (bS_or.mp q).elim hnx (fun q2 => h3 (by rw [q2]))) (qAr_mem h5.1 (funext fun y => h7.2 86 y (by decide) (by decide) (Or.inl (by decide)))) (fun c y q1 q2 q3 q4 => by rw [h7.2 c y q2 q3 q4]; exact hF5 c y q1 q2 q3 q4) h7.1
    · refine rg_R_without_29 (n := n) (td := 0) (w := w) (p := p) (ud := p) (ue := p) (S := fun _ => False) (And.intro (fun _ => ?_) (fun q => absurd q (by decide)))
      have hw := m_without hz hnx (fun t ht q1 q2 => by have := h1 t ht q1 q2; omega)
      have hA2 : ∀ t, t < rT n w p → rAh M n w p x t := fun t ht => by
        have := hA t ht
        unfold rAh at *
        rw [hF 91 t (by decide) (by decide) (by decide) (Or.inl (by decide))]
        exact this
      exact lp_R_without2 (M0 := M) hI hx (by omega) hw (woF_Rp hR hF).1 hA2 (fun M2 h2 => hK M2 ⟨h2.1, fun c y q1 q2 q3 q4 q5 => by rw [h2.2 c q2]; exact hF c y q1 q3 q4 q5⟩) (rT n w p) 0 M (by omega) (fun _ _ => rfl) (fun u hu => absurd hu (Nat.not_lt_zero _)) (fun u _ hu => hA2 u hu)
theorem s_R_without  {n wx : Nat} {w p : Nat → Nat} {d : Nat} {K : qm_K} {M : qm_M} {x : Int} (hp0 : qMR M n w p ∧ qRp M n w p (rT n w p) ∧ qAr M 85 n (rU n w p 0)) (hp1 : wx < rT n w p ∧ x = (wx : Int)) (hp2 : ∀ t, t < rT n w p → rAh M n w p wx t) (hK : ∀ (M2 : qm_M), ((∀ t, t < rT n w p → rAh M2 n w p (wx + 1) t) ∧ ∀ c y, c ≠ 86 → c ≠ 91 → c ≠ 93 → c ≠ 94 → c ≠ 71 ∨ y ≠ 32 → M2 c y = M c y) → K (.inl 0) (qL qLM) M2) : qm_Runs qm_P (d + 6) 178 [(.inr (some 71)), (.inl x)] (qL qLM) M K := by
  obtain ⟨hMR, hR, hu⟩ := hp0
  obtain ⟨hx, rfl⟩ := hp1
  have hI := hMR.2.2.2
  have h8 := hI.2.1
  have e0 : (fun _ => False) = bS 0 := S_ext (fun t => ⟨fun h => h.elim, fun h => bS_0 h⟩)
  refine en_R_without (n := n) (td := 0) (w := w) (p := p) (ud := p) (ue := p) (S := bS 0) ?_
  rw [hMR.1]
  refine And.intro (by omega) (And.intro (Or.inl (by decide)) ?_)
  intro M1 e1
  have c1 : ∀ c, c ≠ 86 → M1 c = M c := fun c h => by rw [e1, cpM_c h]
  have hF1 : woF M1 M := fun c y q1 _ _ _ => by rw [c1 c q1]
  have u1 : qAr M1 86 n (mU n w p (bS 0)) := fun a ha => by
    rw [e1, cpM_0 ha, hu a ha, ← e0, m_0 hI]
  refine And.intro ⟨woF_MR hMR hF1, cQ_0, woF_Rp hR hF1⟩ (And.intro ⟨u1, by decide, by decide, by decide, by decide⟩ ?_)
  intro r2 M3 h3
  exact lp_R_without hMR hR hx hp2 hK (2 ^ rT n w p) 0 M3 r2 (by omega) cQ_0 bS_0 (qAr_mem u1 (funext fun y => h3.2 86 y (by decide) (by decide) (Or.inl (by decide)))) (fun c y q1 q2 q3 q4 => by rw [h3.2 c y q2 q3 q4]; exact hF1 c y q1 q2 q3 q4) h3.1
