/-! a right lies -/
def lyF (M2 M : qm_M) : Prop := ∀ c y, c ≠ 73 → c ≠ 82 → c ≠ 83 → c ≠ 84 → c ≠ 86 → c ≠ 71 ∨ (y ≠ 24 ∧ y ≠ 35 ∧ y ≠ 36 ∧ y ≠ 37) → M2 c y = M c y
theorem sw2_back {M M2 : qm_M} {c i j : Nat} (h : M2 c = sw2 M c i j c) : sw2 M2 c i j c = M c := by
  have : sw2 M2 c i j c = sw2 (sw2 M c i j) c i j c := by
    funext x
    unfold sw2 qm_u
    unfold sw2 qm_u at h
    simp only [if_true, h]
  rw [this, sw2_sw2]
theorem lyS_b {a b : Int} {n : Nat} {N : Nat → Nat} {B : Nat} (h : lyS a b n N) (hN : ∀ v, v < n → N v ≤ B) : 0 ≤ b ∧ b ≤ (B : Int) := by
  rcases h with h | ⟨v, h1, h2, h3, h4, h5⟩
  · omega
  · have := hN v h1
    omega
def at_R_lies_34  (d : Nat) (K : qm_K) (M : qm_M) (x1 x3 x4 : Int) : Prop := ∀ (d2 : Option qm_V), qm_TT qi_200 (qm_Runs qm_P (d + 5)) K 34 [some (.inr (some 71)), some (.inl x1), d2, some (.inl x3), some (.inl x4)] [] (qL qLM) M 0 0
def at_R_lies_109  (d : Nat) (K : qm_K) (M : qm_M) (x1 x2 x3 : Int) : Prop := ∀ (d4 : Option qm_V), qm_TT qi_200 (qm_Runs qm_P (d + 5)) K 109 [some (.inr (some 71)), some (.inl x1), some (.inl x2), some (.inl x3), d4] [] (qL qLM) M 0 0
theorem rg_R_lies_34  {n sg : Nat} {w p u v : Nat → Nat} {Q : qm_M → Prop} {d : Nat} {K : qm_K} {M : qm_M} {x1 x3 x4 : Int} (h :
    (0 ≤ ((1 : Int) : Int) ∧ ((1 : Int) : Int) ≤ 1 ∧ 0 ≤ (x1 : Int) ∧ (x1 : Int) ≤ 8 ∧ 0 ≤ (x4 : Int) ∧ (x4 : Int) ≤ 8) ∧
    ∀ (y6 : Int), y6 = (64 * 1 + 8 * x1 + x4) →
    0 ≤ y6 ∧ y6 < 128 ∧
    ∀ (y7 : Int), y7 = (M 75 (Int.toNat y6)) →
    (y7 = x3 →
     ((M 71 37) = 0 →
      ∀ (M8 : qm_M), M8 = (qm_u M 71 36 x4) →
      ∀ (M9 : qm_M), M9 = (qm_u M8 71 37 0) →
      (x4 ≠ (M9 71 36) →
       qm_R ((M9 71 37) + 0) ∧
       ∀ (M10 : qm_M), M10 = (qm_u M9 71 37 ((M9 71 37) + 0)) →
       K (.inl 0) (qL qLM) M10) ∧
      (¬ x4 ≠ (M9 71 36) →
       qm_R ((M9 71 37) + 1) ∧
       ∀ (M11 : qm_M), M11 = (qm_u M9 71 37 ((M9 71 37) + 1)) →
       K (.inl 0) (qL qLM) M11)) ∧
     (¬ (M 71 37) = 0 →
      ((M 71 36) ≤ x4 →
       (x4 ≠ (M 71 36) →
        qm_R ((M 71 37) + 0) ∧
        ∀ (M12 : qm_M), M12 = (qm_u M 71 37 ((M 71 37) + 0)) →
        K (.inl 0) (qL qLM) M12) ∧
       (¬ x4 ≠ (M 71 36) →
        qm_R ((M 71 37) + 1) ∧
        ∀ (M13 : qm_M), M13 = (qm_u M 71 37 ((M 71 37) + 1)) →
        K (.inl 0) (qL qLM) M13)) ∧
      (¬ (M 71 36) ≤ x4 →
       ∀ (M14 : qm_M), M14 = (qm_u M 71 36 x4) →
       ∀ (M15 : qm_M), M15 = (qm_u M14 71 37 0) →
       (x4 ≠ (M15 71 36) →
        qm_R ((M15 71 37) + 0) ∧
        ∀ (M16 : qm_M), M16 = (qm_u M15 71 37 ((M15 71 37) + 0)) →
        K (.inl 0) (qL qLM) M16) ∧
       (¬ x4 ≠ (M15 71 36) →
        qm_R ((M15 71 37) + 1) ∧
        ∀ (M17 : qm_M), M17 = (qm_u M15 71 37 ((M15 71 37) + 1)) →
        K (.inl 0) (qL qLM) M17)))) ∧
    (¬ y7 = x3 →
     qm_R (x4 + 1) ∧
     at_R_lies_34  d K M x1 x3 ((x4 + 1)))) : at_R_lies_34  d K M x1 x3 x4 :=
  fun d2 => qm_wp_TT [34, 109] 37 (Exists.intro 75 (And.intro (lf_71_5 ()) (And.intro True.intro (s_R_at (d := d + 4)  (h.1) (Exists.intro 128 (And.intro (la_75 ()) (And.intro (h.2 _ rfl).1 (And.intro (h.2 _ rfl).2.1 (And.intro (fun q25 => And.intro (lf_71_37 ()) (And.intro (fun q27 => And.intro (lf_71_36 ()) (And.intro (lf_71_37 ()) (And.intro (lf_71_37 ()) (And.intro (lf_71_36 ()) (And.intro (fun q29 => And.intro (((((((h.2 _ rfl).2.2 _ rfl).1 q25).1 q27) _ rfl) _ rfl).1 q29).1 (And.intro (lf_71_37 ()) (((((((((h.2 _ rfl).2.2 _ rfl).1 q25).1 q27) _ rfl) _ rfl).1 q29).2 _ rfl)))) (fun q30 => And.intro (((((((h.2 _ rfl).2.2 _ rfl).1 q25).1 q27) _ rfl) _ rfl).2 q30).1 (And.intro (lf_71_37 ()) (((((((((h.2 _ rfl).2.2 _ rfl).1 q25).1 q27) _ rfl) _ rfl).2 q30).2 _ rfl))))))))) (fun q28 => And.intro (lf_71_36 ()) (And.intro (fun q31 => And.intro (lf_71_37 ()) (And.intro (lf_71_36 ()) (And.intro (fun q33 => And.intro ((((((h.2 _ rfl).2.2 _ rfl).1 q25).2 q28).1 q31).1 q33).1 (And.intro (lf_71_37 ()) ((((((((h.2 _ rfl).2.2 _ rfl).1 q25).2 q28).1 q31).1 q33).2 _ rfl)))) (fun q34 => And.intro ((((((h.2 _ rfl).2.2 _ rfl).1 q25).2 q28).1 q31).2 q34).1 (And.intro (lf_71_37 ()) ((((((((h.2 _ rfl).2.2 _ rfl).1 q25).2 q28).1 q31).2 q34).2 _ rfl))))))) (fun q32 => And.intro (lf_71_36 ()) (And.intro (lf_71_37 ()) (And.intro (lf_71_37 ()) (And.intro (lf_71_36 ()) (And.intro (fun q35 => And.intro ((((((((h.2 _ rfl).2.2 _ rfl).1 q25).2 q28).2 q32) _ rfl) _ rfl).1 q35).1 (And.intro (lf_71_37 ()) ((((((((((h.2 _ rfl).2.2 _ rfl).1 q25).2 q28).2 q32) _ rfl) _ rfl).1 q35).2 _ rfl)))) (fun q36 => And.intro ((((((((h.2 _ rfl).2.2 _ rfl).1 q25).2 q28).2 q32) _ rfl) _ rfl).2 q36).1 (And.intro (lf_71_37 ()) ((((((((((h.2 _ rfl).2.2 _ rfl).1 q25).2 q28).2 q32) _ rfl) _ rfl).2 q36).2 _ rfl))))))))))))) (fun q26 => And.intro (((h.2 _ rfl).2.2 _ rfl).2 q26).1 ((((h.2 _ rfl).2.2 _ rfl).2 q26).2 _)))))))))))
theorem rg_R_lies_109  {n sg : Nat} {w p u v : Nat → Nat} {Q : qm_M → Prop} {d : Nat} {K : qm_K} {M : qm_M} {x1 x2 x3 : Int} (h :
    ((M 71 0) ≤ x3 →
     K (.inl 0) (qL qLM) M) ∧
    (¬ (M 71 0) ≤ x3 →
     (0 ≤ ((1 : Int) : Int) ∧ ((1 : Int) : Int) ≤ 1 ∧ 0 ≤ (x1 : Int) ∧ (x1 : Int) ≤ 8 ∧ 0 ≤ (x2 : Int) ∧ (x2 : Int) ≤ 8) ∧
     ∀ (y18 : Int), y18 = (64 * 1 + 8 * x1 + x2) →
     (0 ≤ ((1 : Int) : Int) ∧ ((1 : Int) : Int) ≤ 1 ∧ 0 ≤ (x1 : Int) ∧ (x1 : Int) ≤ 8 ∧ 0 ≤ (x3 : Int) ∧ (x3 : Int) ≤ 8) ∧
     ∀ (y19 : Int), y19 = (64 * 1 + 8 * x1 + x3) →
     (0 ≤ (y18 : Int) ∧ (y18 : Int) < 128 ∧ 0 ≤ (y19 : Int) ∧ (y19 : Int) < 128) ∧
     ∀ (M20 : qm_M), M20 = (sw2 M 72 (Int.toNat y18) (Int.toNat y19)) →
     qm_R (x2 + 1) ∧
     (∀ K2 : qm_K, (∀ M21 : qm_M, Q M21 → K2 (.inl 0) (qL qLM) M21) → qm_Runs qm_P (d + 5) 200 [(.inr (some 71)), (.inl x1), (.inl ((x2 + 1)))] (qL qLM) M20 K2) ∧
     (∀ (M21 : qm_M), Q M21 →
      (0 ≤ ((1 : Int) : Int) ∧ ((1 : Int) : Int) ≤ 1 ∧ 0 ≤ (x1 : Int) ∧ (x1 : Int) ≤ 8 ∧ 0 ≤ (x2 : Int) ∧ (x2 : Int) ≤ 8) ∧
      ∀ (y22 : Int), y22 = (64 * 1 + 8 * x1 + x2) →
      (0 ≤ ((1 : Int) : Int) ∧ ((1 : Int) : Int) ≤ 1 ∧ 0 ≤ (x1 : Int) ∧ (x1 : Int) ≤ 8 ∧ 0 ≤ (x3 : Int) ∧ (x3 : Int) ≤ 8) ∧
      ∀ (y23 : Int), y23 = (64 * 1 + 8 * x1 + x3) →
      (0 ≤ (y22 : Int) ∧ (y22 : Int) < 128 ∧ 0 ≤ (y23 : Int) ∧ (y23 : Int) < 128) ∧
      ∀ (M24 : qm_M), M24 = (sw2 M21 72 (Int.toNat y22) (Int.toNat y23)) →
      qm_R (x3 + 1) ∧
      at_R_lies_109  d K M24 x1 x2 ((x3 + 1))))) : at_R_lies_109  d K M x1 x2 x3 :=
  fun d4 => qm_wp_TT [34, 109] 37 (And.intro (lf_71_0 ()) (And.intro (fun q37 => (h.1 q37)) (fun q38 => And.intro True.intro (s_R_at (d := d + 4)  ((h.2 q38).1) (And.intro True.intro (s_R_at (d := d + 4)  (((h.2 q38).2 _ rfl).1) (And.intro (lo_71 ()) (s_R_swaps (d := d + 4)  ((((h.2 q38).2 _ rfl).2 _ rfl).1) (And.intro ((((h.2 q38).2 _ rfl).2 _ rfl).2 _ rfl).1 (And.intro (lo_71 ()) (((((h.2 q38).2 _ rfl).2 _ rfl).2 _ rfl).2.1 _ (fun M21 hq => And.intro True.intro (s_R_at (d := d + 4)  ((((((h.2 q38).2 _ rfl).2 _ rfl).2 _ rfl).2.2 M21 hq).1) (And.intro True.intro (s_R_at (d := d + 4)  (((((((h.2 q38).2 _ rfl).2 _ rfl).2 _ rfl).2.2 M21 hq).2 _ rfl).1) (And.intro (lo_71 ()) (s_R_swaps (d := d + 4)  ((((((((h.2 q38).2 _ rfl).2 _ rfl).2 _ rfl).2.2 M21 hq).2 _ rfl).2 _ rfl).1) (And.intro ((((((((h.2 q38).2 _ rfl).2 _ rfl).2 _ rfl).2.2 M21 hq).2 _ rfl).2 _ rfl).2 _ rfl).1 (((((((((h.2 q38).2 _ rfl).2 _ rfl).2 _ rfl).2.2 M21 hq).2 _ rfl).2 _ rfl).2 _ rfl).2 _)))))))))))))))))))
theorem en_R_lies  {n sg : Nat} {w p u v : Nat → Nat} {Q : qm_M → Prop} {d : Nat} {K : qm_K} {M : qm_M} {r : Int} {k : Int} (h :
    (k ≠ (M 71 0) →
     at_R_lies_109  d K M r k k) ∧
    (¬ k ≠ (M 71 0) →
     (M 71 0 = (n : Int) ∧ qAt M 72 n w ∧ qInv n w p) ∧
     (mB M 72 128) ∧
     (∀ (M2 : qm_M), (qMR M2 n w p ∧ M2 71 35 = 0 ∧ ∀ c x, c ≠ 73 → c ≠ 71 ∨ x ≠ 35 → M2 c x = M c x) →
      (qMR M2 n w p) ∧
      (sg < 2 ∧ (0 : Int) = (sg : Int)) ∧
      (8 ≤ (8 : Nat) ∧ 86 ≠ 71 ∧ 86 ≠ 72 ∧ 86 ≠ 73 ∧ 86 ≠ 82 ∧ 86 ≠ 83 ∧ 86 ≠ 84) ∧
      (∀ (M4 : qm_M), (qAr M4 86 n (if sg = 0 then ginv n (gH n w p 0) else gH n w p 1) ∧ M4 71 24 = (gN n w p sg : Int) ∧ (∀ j, j < gN n w p sg → M4 82 j = (gtold n w p sg j : Int)) ∧ ∀ c x, c ≠ 86 → c ≠ 82 → c ≠ 83 → c ≠ 84 → c ≠ 71 ∨ x ≠ 24 → M4 c x = M2 c x) →
       (qAr M4 86 n u ∧ qMt n u v ∧ n ≤ (8 : Nat)) ∧
       (0 ≤ (r : Int) ∧ (r : Int) < (n : Int)) ∧
       ∀ (y5 : Int), y5 = (v (Int.toNat r) : Int) →
       at_R_lies_34  d K M4 r y5 0)))) : qm_Runs qm_P (d + 6) 200 [(.inr (some 71)), (.inl r), (.inl k)] (qL qLM) M K :=
  And.intro (Nat.le_of_ble_eq_true rfl) (show qm_TT qi_200 (qm_Runs qm_P (d + 5)) K 0 [some (.inr (some 71)), some (.inl r), some (.inl k), none, none] [] (qL qLM) M 0 0 from qm_wp_TT [34, 109] 37 (And.intro (lf_71_0 ()) (And.intro (fun q39 => (h.1 q39) _) (fun q40 => And.intro (lo_71 ()) (s_R_places (d := d + 4)  ((h.2 q40).1) ((h.2 q40).2.1) (fun M2 p41 => Exists.intro 86 (And.intro (lf_71_21 ()) (And.intro (lo_71 ()) (s_R_bests (d := d + 0) (And.intro (la_86 ()) (by decide)) (((h.2 q40).2.2 M2 p41).1) (((h.2 q40).2.2 M2 p41).2.1) (((h.2 q40).2.2 M2 p41).2.2.1) (fun M4 p42 => Exists.intro 86 (And.intro (lf_71_21 ()) (And.intro (lo_71 ()) (s_R_leftOf (d := d + 4) (And.intro (la_86 ()) (by decide)) ((((h.2 q40).2.2 M2 p41).2.2.2 M4 p42).1) ((((h.2 q40).2.2 M2 p41).2.2.2 M4 p42).2.1) (((((h.2 q40).2.2 M2 p41).2.2.2 M4 p42).2.2 _ rfl) _))))))))))))))
theorem lp_R_lies {d : Nat} {K : qm_K} {M : qm_M} {n r q : Nat} {l : Int} {w p N : Nat → Nat} (hI : qInv n w p) (hr : r < n) (h75 : qAt M 75 n w) (hq : q < n) (hl : l = (w (ix 1 r q) : Int)) (hS : lyS (M 71 36) (M 71 37) n N) (hN : ∀ v, v < n → N v ≤ 10000) (hK : ∀ M2 : qm_M, (∀ c y, c ≠ 71 ∨ (y ≠ 36 ∧ y ≠ 37) → M2 c y = M c y) → lyS (M2 71 36) (M2 71 37) n (fun v => N v + if v = q then 1 else 0) → K (.inl 0) (qL qLM) M2) : ∀ (j c : Nat), c + j = q → at_R_lies_34 d K M (r : Int) l (c : Int)
  | j, c, hc => fun d2 => by
    have h8 := hI.2.1
    have g := hI.2.2 1 r (by omega) hr
    have hb := lyS_b hS hN
    have fr : ∀ (A : qm_M), (∀ c y, c ≠ 71 ∨ (y ≠ 36 ∧ y ≠ 37) → A c y = M c y) → ∀ y v, (y = 36 ∨ y = 37) → ∀ c z, c ≠ 71 ∨ (z ≠ 36 ∧ z ≠ 37) → qm_u A 71 y v c z = M c z := fun A hA y v hy c z hz => by
      rcases hz with hz | hz
      · rw [qu_c hz]; exact hA c z (Or.inl hz)
      · by_cases h71 : c = 71
        · rw [h71, qu_k (by omega)]; exact hA 71 z (Or.inr hz)
        · rw [qu_c h71]; exact hA c z (Or.inl h71)
    refine rg_R_lies_34 (n := 0) (sg := 0) (w := w) (p := p) (u := p) (v := p) (Q := fun _ => False) (And.intro (by omega) ?_) d2
    intro y6 e6
    refine And.intro (by omega) (And.intro (by omega) ?_)
    intro y7 e7
    have e7' : y7 = (w (ix 1 r c) : Int) := by
      rw [e7, e6, ← h75 1 r c (by omega) hr (by omega)]
      congr 1
      all_goals (unfold ix; omega)
    refine And.intro (fun hy => ?_) (fun hy => ?_)
    · have hcq : c = q := by
        have : w (ix 1 r c) = w (ix 1 r q) := by omega
        rw [← (g c (by omega)).2.1, ← (g q hq).2.1, this]
      subst hcq
      have new : (M 71 37 = 0 ∨ (c : Int) < M 71 36) → ∀ M9 : qm_M, M9 = qm_u (qm_u M 71 36 (c : Int)) 71 37 0 → ((c : Int) ≠ M9 71 36 → False) ∧ qm_R (M9 71 37 + 1) ∧ ∀ M11, M11 = qm_u M9 71 37 (M9 71 37 + 1) → K (.inl 0) (qL qLM) M11 := fun hcc M9 e9 => by
        have a36 : M9 71 36 = (c : Int) := by rw [e9, qu_k (by decide), qu_s]
        have a37 : M9 71 37 = 0 := by rw [e9, qu_s]
        refine ⟨fun z => z a36.symm, by rw [a37]; unfold qm_R; omega, fun M11 e11 => ?_⟩
        refine hK M11 (by rw [e11, e9]; exact fr _ (fr _ (fr _ (fun _ _ _ => rfl) 36 _ (Or.inl rfl)) 37 _ (Or.inr rfl)) 37 _ (Or.inr rfl)) ?_
        rw [e11, qu_s, qu_k (by decide), a36, a37]
        exact lyS_new hS hq hcc
      refine And.intro (fun h0 => ?_) (fun h0 => And.intro (fun h1 => And.intro (fun h2 => And.intro (by unfold qm_R; omega) ?_) (fun h2 => And.intro (by unfold qm_R; omega) ?_)) (fun h1 => ?_))
      · intro M8 e8 M9 e9
        rw [e8] at e9
        obtain ⟨n1, n2, n3⟩ := new (Or.inl h0) M9 e9
        exact And.intro (fun z => absurd z (fun z => n1 z)) (fun _ => And.intro n2 n3)
      · intro M12 e12
        refine hK M12 (by rw [e12]; exact fr _ (fun _ _ _ => rfl) 37 _ (Or.inr rfl)) ?_
        rw [e12, qu_s, qu_k (by decide), Int.add_zero]
        exact lyS_far hS h0 (by omega)
      · intro M13 e13
        refine hK M13 (by rw [e13]; exact fr _ (fun _ _ _ => rfl) 37 _ (Or.inr rfl)) ?_
        rw [e13, qu_s, qu_k (by decide)]
        exact lyS_same hS h0 (Classical.not_not.mp h2)
      · intro M8 e8 M9 e9
        rw [e8] at e9
        obtain ⟨n1, n2, n3⟩ := new (Or.inr (by omega)) M9 e9
        exact And.intro (fun z => absurd z (fun z => n1 z)) (fun _ => And.intro n2 n3)
    · refine And.intro (by unfold qm_R; omega) ?_
      cases j with
      | zero =>
        have : c = q := by omega
        subst this
        exact absurd (by rw [e7', hl]) hy
      | succ j => exact lp_R_lies hI hr h75 hq hl hS hN hK j (c + 1) (by omega)
theorem ly_R {n r : Nat} {w p : Nat → Nat} (hI : qInv n w p) (hr : r < n) : ∀ (m k d : Nat) (K : qm_K) (M : qm_M) (w' p' N : Nat → Nat), k + m = n → qInv n w' p' → qAt M 72 n w' → mB M 72 128 → M 71 0 = (n : Int) → qAt M 75 n w → lyS (M 71 36) (M 71 37) n N → (∀ v, v < n → N v + n ^ m ≤ 10000) → (∀ M2 : qm_M, lyF M2 M → lyS (M2 71 36) (M2 71 37) n (fun v => N v + pmS (lyQ n p r v) n r m k w') → K (.inl 0) (qL qLM) M2) → qm_Runs qm_P (d + m + 6) 200 [(.inr (some 71)), (.inl (r : Int)), (.inl (k : Int))] (qL qLM) M K
  | 0, k, d, K, M, w', p', N, hk, hI', h72, hB, h0, h75, hS, hN, hK => by
    have h8 := hI.2.1
    have hW := qInv_nrm hI'
    have hm := bs_Mt (sg := 0) hW.1
    refine en_R_lies (d := d) (n := n) (sg := 0) (w := nrm n w') (p := plc n (nrm n w')) (u := bsU n (nrm n w') (plc n (nrm n w')) 0) (v := bsV n (nrm n w') (plc n (nrm n w')) 0) (Q := fun _ => False) (And.intro (fun z => absurd (by rw [h0]; omega) z) (fun _ => And.intro ⟨h0, fun s a j q1 q2 q3 => by rw [nrm_ix h8 q1 q2 q3]; exact h72 s a j q1 q2 q3, hW.1⟩ (And.intro hB ?_)))
    intro M2 q2
    refine And.intro q2.1 (And.intro ⟨by decide, rfl⟩ (And.intro (by decide) ?_))
    intro M4 q4
    refine And.intro ⟨q4.1, hm, h8⟩ (And.intro (by omega) ?_)
    intro y5 e5
    rw [Int.toNat_natCast] at e5
    have f4 : ∀ c y, c ≠ 73 → c ≠ 82 → c ≠ 83 → c ≠ 84 → c ≠ 86 → c ≠ 71 ∨ (y ≠ 24 ∧ y ≠ 35) → M4 c y = M c y := fun c y g1 g2 g3 g4 g5 g6 => by rw [q4.2.2.2 c y g5 g2 g3 g4 (g6.imp id (fun g => g.1)), q2.2.2 c y g1 (g6.imp id (fun g => g.2))]
    have hl := (hm.2 r hr).1
    have g := hI.2.2 1 r (by omega) hr _ hl
    have hq : lyV n p r w' = p (ix 1 r (bsV n (nrm n w') (plc n (nrm n w')) 0 r)) := rfl
    have a36 : M4 71 36 = M 71 36 := f4 71 36 (by decide) (by decide) (by decide) (by decide) (by decide) (Or.inr (by decide))
    have a37 : M4 71 37 = M 71 37 := f4 71 37 (by decide) (by decide) (by decide) (by decide) (by decide) (Or.inr (by decide))
    refine lp_R_lies (N := N) hI hr (qAt_mem h75 (funext fun y => f4 75 y (by decide) (by decide) (by decide) (by decide) (by decide) (Or.inl (by decide)))) (q := lyV n p r w') (by rw [hq]; exact g.2.2.1) (by rw [e5, hq, g.2.2.2]) (by rw [a36, a37]; exact hS) (fun v hv => by have := hN v hv; omega) (fun M6 q6 s6 => hK M6 (fun c y g1 g2 g3 g4 g5 g6 => by rw [q6 c y (by omega), f4 c y g1 g2 g3 g4 g5 (by omega)]) (lyS_congr s6 (fun v _ => ?_))) _ 0 (Nat.zero_add _)
    show _ = N v + @ite Nat (lyQ n p r v w') (Classical.propDecidable _) 1 0
    by_cases hv : v = lyV n p r w'
    · rw [if_pos hv, if_pos (show lyQ n p r v w' from hv.symm)]
    · rw [if_neg hv, if_neg (show ¬ lyQ n p r v w' from fun z => hv z.symm)]
  | m + 1, k, d, K, M, w', p', N, hk, hI', h72, hB, h0, h75, hS, hN, hK => by
    have h8 := hI.2.1
    have hkn : k < n := by omega
    have inner : ∀ (i j : Nat) (M1 : qm_M), j + i = n → k ≤ j → lyF M1 M → lyS (M1 71 36) (M1 71 37) n (fun v => N v + sumN (fun j' => if k ≤ j' then pmS (lyQ n p r v) n r m (k + 1) (xW w' 1 r k j') else 0) j) → at_R_lies_109 (d + (m + 1)) K M1 (r : Int) (k : Int) (j : Int) := by
      intro i
      induction i with
      | zero =>
        intro j M1 hj hkj hF s1 d4
        have hj : j = n := by omega
        subst hj
        have g0 : M1 71 0 = (j : Int) := by rw [hF 71 0 (by decide) (by decide) (by decide) (by decide) (by decide) (Or.inr (by decide))]; exact h0
        refine rg_R_lies_109 (n := 0) (sg := 0) (w := w) (p := p) (u := p) (v := p) (Q := fun _ => False) (And.intro (fun _ => hK M1 hF (lyS_congr s1 (fun v _ => ?_))) (fun z => absurd z (by rw [g0]; omega))) d4
        rw [pmS_x hr (fun w1 w2 => lyQ_c w1 w2) hI' hk]
      | succ i ih =>
        intro j M1 hj hkj hF s1 d4
        have hjn : j < n := by omega
        have g0 : M1 71 0 = (n : Int) := by rw [hF 71 0 (by decide) (by decide) (by decide) (by decide) (by decide) (Or.inr (by decide))]; exact h0
        have c1 : ∀ c, c ≠ 71 → c ≠ 73 → c ≠ 82 → c ≠ 83 → c ≠ 84 → c ≠ 86 → M1 c = M c := fun c e0 e1 e2 e3 e4 e5 => funext fun y => hF c y e1 e2 e3 e4 e5 (Or.inl e0)
        have a72 : qAt M1 72 n w' := qAt_mem h72 (c1 72 (by decide) (by decide) (by decide) (by decide) (by decide) (by decide))
        have b72 : mB M1 72 128 := mB_mem hB (c1 72 (by decide) (by decide) (by decide) (by decide) (by decide) (by decide))
        have i1 : ix 1 r k < 128 := ix_lt (by omega) (by omega) (by omega)
        have i2 : ix 1 r j < 128 := ix_lt (by omega) (by omega) (by omega)
        have hix : ∀ x : Nat, 64 * 1 + 8 * (r : Int) + (x : Int) = ((ix 1 r x : Nat) : Int) := fun x => by unfold ix; omega
        refine rg_R_lies_109 (n := 0) (sg := 0) (w := w) (p := p) (u := p) (v := p) (Q := fun M21 => lyF M21 (sw2 M1 72 (ix 1 r k) (ix 1 r j)) ∧ lyS (M21 71 36) (M21 71 37) n (fun v => (N v + sumN (fun j' => if k ≤ j' then pmS (lyQ n p r v) n r m (k + 1) (xW w' 1 r k j') else 0) j) + pmS (lyQ n p r v) n r m (k + 1) (xW w' 1 r k j))) (And.intro (fun z => absurd z (by rw [g0]; omega)) (fun _ => And.intro (by omega) ?_)) d4
        intro y18 e18
        refine And.intro (by omega) ?_
        intro y19 e19
        rw [hix] at e18 e19
        refine And.intro (by omega) ?_
        intro M20 e20
        rw [e18, e19, Int.toNat_natCast, Int.toNat_natCast] at e20
        refine And.intro (by unfold qm_R; omega) (And.intro ?_ ?_)
        · intro K2 hK2
          have c20 : ∀ c, c ≠ 72 → M20 c = M1 c := fun c hc => by rw [e20, sw2_c hc]
          have := ly_R hI hr m (k + 1) d K2 M20 (xW w' 1 r k j) (xP w' p' 1 r k j) (fun v => N v + sumN (fun j' => if k ≤ j' then pmS (lyQ n p r v) n r m (k + 1) (xW w' 1 r k j') else 0) j) (by omega) (qInv_x hI' (by omega) hr hkn hjn) (by rw [e20]; exact sw2_at h8 a72 (by omega) hr hkn hjn) (by rw [e20]; exact sw2_B b72 i1 i2) (by rw [c20 71 (by decide)]; exact g0) (qAt_mem h75 (by rw [c20 75 (by decide), c1 75 (by decide) (by decide) (by decide) (by decide) (by decide) (by decide)])) (by rw [c20 71 (by decide)]; exact s1) (fun v hv => by
            have b1 : sumN (fun j' => if k ≤ j' then pmS (lyQ n p r v) n r m (k + 1) (xW w' 1 r k j') else 0) j ≤ j * n ^ m := sumN_le (fun j' _ => by
              split
              · exact pmS_le m (k + 1) _
              · exact Nat.zero_le _)
            have b2 := hN v hv
            have b3 : (j + 1) * n ^ m ≤ n * n ^ m := Nat.mul_le_mul_right _ hjn
            rw [Nat.pow_succ, Nat.mul_comm (n ^ m) n] at b2
            rw [Nat.add_mul, Nat.one_mul] at b3
            show N v + _ + _ ≤ _
            omega) (fun M21 f21 s21 => hK2 M21 ⟨by rw [← e20]; exact f21, s21⟩)
          rw [show d + (m + 1) + 5 = d + m + 6 by omega]
          exact this
        · intro M21 hQ
          refine And.intro (by omega) ?_
          intro y22 e22
          refine And.intro (by omega) ?_
          intro y23 e23
          rw [hix] at e22 e23
          refine And.intro (by omega) ?_
          intro M24 e24
          rw [e22, e23, Int.toNat_natCast, Int.toNat_natCast] at e24
          have h21 : M21 72 = sw2 M1 72 (ix 1 r k) (ix 1 r j) 72 := funext fun y => hQ.1 72 y (by decide) (by decide) (by decide) (by decide) (by decide) (Or.inl (by decide))
          refine And.intro (by unfold qm_R; omega) ?_
          have := ih (j + 1) M24 (by omega) (by omega) (fun c y e1 e2 e3 e4 e5 e6 => ?_) (lyS_congr (N := fun v => (N v + sumN (fun j' => if k ≤ j' then pmS (lyQ n p r v) n r m (k + 1) (xW w' 1 r k j') else 0) j) + pmS (lyQ n p r v) n r m (k + 1) (xW w' 1 r k j)) (by rw [e24, sw2_c (by decide)]; exact hQ.2) (fun v _ => ?_))
          · exact this
          · by_cases h72c : c = 72
            · rw [h72c, e24, sw2_back h21]
              exact hF 72 y (by decide) (by decide) (by decide) (by decide) (by decide) (Or.inl (by decide))
            · rw [e24, sw2_c h72c, hQ.1 c y e1 e2 e3 e4 e5 e6, sw2_c h72c]
              exact hF c y e1 e2 e3 e4 e5 e6
          · show N v + _ + _ = N v + (_ + if k ≤ j then _ else 0)
            rw [if_pos hkj]
            omega
    refine en_R_lies (d := d + (m + 1)) (n := 0) (sg := 0) (w := w) (p := p) (u := p) (v := p) (Q := fun _ => False) (And.intro (fun _ => inner (n - k) k M (by omega) (Nat.le_refl _) (fun _ _ _ _ _ _ _ _ => rfl) (lyS_congr hS (fun v _ => ?_))) (fun z => absurd (by rw [h0]; omega) z))
    show N v = N v + _
    rw [sumN_z (fun j' hj' => if_neg (by omega))]
    rfl
theorem s_R_lies {n : Nat} {w p : Nat → Nat} {d : Nat} {K : qm_K} {M : qm_M} {r : Int} {k : Int} (hp0 : M 71 0 = (n : Int) ∧ n ≤ 5 ∧ qAt M 72 n w ∧ qInv n w p ∧ mB M 72 128 ∧ qAt M 75 n w) (hp1 : 0 ≤ (r : Int) ∧ (r : Int) < (n : Int) ∧ (k : Int) = 0) (hp2 : M 71 37 = 0) (hK : ∀ (M2 : qm_M), (lyF M2 M ∧ M2 71 36 = (lieB n w p (Int.toNat r) : Int) ∧ M2 71 37 = (lieN n w p (Int.toNat r) (lieB n w p (Int.toNat r)) : Int)) → K (.inl 0) (qL qLM) M2) : qm_Runs qm_P (d + 11) 200 [(.inr (some 71)), (.inl r), (.inl k)] (qL qLM) M K := by
  obtain ⟨h0, h5, h72, hI, hB, h75⟩ := hp0
  obtain ⟨r, rfl⟩ : ∃ b : Nat, r = (b : Int) := ⟨r.toNat, by omega⟩
  rw [Int.toNat_natCast] at hK
  rw [hp1.2.2]
  have hn : n ^ n ≤ 10000 := by
    have h1 := hI.1
    have : n = 1 ∨ n = 2 ∨ n = 3 ∨ n = 4 ∨ n = 5 := by omega
    rcases this with q | q | q | q | q <;> subst q <;> decide
  have := ly_R hI (show r < n by omega) n 0 (d + (5 - n)) K M w p (fun _ => 0) (by omega) hI h72 hB h0 h75 (Or.inl ⟨hp2, fun _ _ => rfl⟩) (fun v _ => by omega) (fun M2 f2 s2 => hK M2 ⟨f2, lyS_end hI (show r < n by omega) (lyS_congr s2 (fun v _ => Nat.zero_add _))⟩)
  rw [show d + (5 - n) + n + 6 = d + 11 by omega] at this
  exact this
theorem en_R_lie  {n : Nat} {w p : Nat → Nat} {d : Nat} {K : qm_K} {M : qm_M} {g : Int} {k : Int} (h :
    (1 ≤ M 71 0 ∧ M 71 0 ≤ 8) ∧
    ((0 ≤ g ∧ g < M 71 0) →
     ((0 ≤ k ∧ k ≤ 1) →
      ((M 71 0) ≤ 5 →
       (0 ≤ ((0 : Int) : Int) ∧ 0 ≤ ((0 : Int) : Int) ∧ 0 ≤ ((128 : Int) : Int) ∧ ((0 : Int) : Int) + (128 : Int) ≤ (128 : Int) ∧ ((0 : Int) : Int) + (128 : Int) ≤ (128 : Int)) ∧
       ((72 : Nat) ≠ 75 ∨ ((0 : Int) : Int) ≤ (0 : Int)) ∧
       ∀ (M1 : qm_M), M1 = (cpM M 72 0 75 0 128) →
       ∀ (M2 : qm_M), M2 = (qm_u M1 71 37 0) →
       (M2 71 0 = (n : Int) ∧ n ≤ 5 ∧ qAt M2 72 n w ∧ qInv n w p ∧ mB M2 72 128 ∧ qAt M2 75 n w) ∧
       (0 ≤ (g : Int) ∧ (g : Int) < (n : Int) ∧ ((0 : Int) : Int) = 0) ∧
       (M2 71 37 = 0) ∧
       (∀ (M4 : qm_M), (lyF M4 M2 ∧ M4 71 36 = (lieB n w p (Int.toNat g) : Int) ∧ M4 71 37 = (lieN n w p (Int.toNat g) (lieB n w p (Int.toNat g)) : Int)) →
        (M4 71 0 = (n : Int) ∧ qAt M4 72 n w ∧ qInv n w p) ∧
        (mB M4 72 128) ∧
        (∀ (M6 : qm_M), (qMR M6 n w p ∧ M6 71 35 = 0 ∧ ∀ c x, c ≠ 73 → c ≠ 71 ∨ x ≠ 35 → M6 c x = M4 c x) →
         (k ≠ 0 →
          K (.inl ((M6 71 37))) (qL qLM) M6) ∧
         (¬ k ≠ 0 →
          K (.inl ((M6 71 36))) (qL qLM) M6)))) ∧
      (¬ (M 71 0) ≤ 5 →
       K (.inl ((-7))) (qL qLM) M)) ∧
     (¬ (0 ≤ k ∧ k ≤ 1) →
      K (.inl ((-1))) (qL qLM) M)) ∧
    (¬ (0 ≤ g ∧ g < M 71 0) →
     K (.inl ((-1))) (qL qLM) M)) : qm_Runs qm_P (d + 12) 202 [(.inr (some 71)), (.inl g), (.inl k)] (qL qLM) M K :=
  And.intro (Nat.le_of_ble_eq_true rfl) (show qm_TT qi_202 (qm_Runs qm_P (d + 11)) K 0 [some (.inr (some 71)), some (.inl g), some (.inl k)] [] (qL qLM) M 0 0 from qm_wp_TT [] 39 (And.intro (lo_71 ()) (s_R_isOne (d := d + 9)  (h.1) (And.intro (fun q7 => (h.2.2 (qm_b0 q7))) (fun q8 => And.intro True.intro (s_R_isIn (d := d + 10)   (And.intro (fun q9 => And.intro (lf_71_0 ()) (And.intro (fun q11 => Exists.intro 72 (And.intro (lf_71_2 ()) (Exists.intro 75 (And.intro (lf_71_5 ()) (And.intro True.intro (s_R_copies (d := d + 10) (And.intro (la_72 ()) (by decide)) (And.intro (la_75 ()) (by decide)) ((((h.2.1 (qm_b1 q8)).1 (qm_b1 q9)).1 q11).1) ((((h.2.1 (qm_b1 q8)).1 (qm_b1 q9)).1 q11).2.1) (And.intro (lf_71_37 ()) (And.intro (lo_71 ()) (s_R_lies (d := d + 0)  ((((((h.2.1 (qm_b1 q8)).1 (qm_b1 q9)).1 q11).2.2 _ rfl) _ rfl).1) ((((((h.2.1 (qm_b1 q8)).1 (qm_b1 q9)).1 q11).2.2 _ rfl) _ rfl).2.1) ((((((h.2.1 (qm_b1 q8)).1 (qm_b1 q9)).1 q11).2.2 _ rfl) _ rfl).2.2.1) (fun M4 p13 => And.intro (lo_71 ()) (s_R_places (d := d + 10)  (((((((h.2.1 (qm_b1 q8)).1 (qm_b1 q9)).1 q11).2.2 _ rfl) _ rfl).2.2.2 M4 p13).1) (((((((h.2.1 (qm_b1 q8)).1 (qm_b1 q9)).1 q11).2.2 _ rfl) _ rfl).2.2.2 M4 p13).2.1) (fun M6 p14 => And.intro (fun q15 => And.intro (lf_71_37 ()) (((((((((h.2.1 (qm_b1 q8)).1 (qm_b1 q9)).1 q11).2.2 _ rfl) _ rfl).2.2.2 M4 p13).2.2 M6 p14).1 q15))) (fun q16 => And.intro (lf_71_36 ()) (((((((((h.2.1 (qm_b1 q8)).1 (qm_b1 q9)).1 q11).2.2 _ rfl) _ rfl).2.2.2 M4 p13).2.2 M6 p14).2 q16))))))))))))))) (fun q12 => (((h.2.1 (qm_b1 q8)).1 (qm_b1 q9)).2 q12)))) (fun q10 => ((h.2.1 (qm_b1 q8)).2 (qm_b2 q10))))))))))
theorem s_R_lie  {n b f ln kn : Nat} {H : Nat → Nat → Nat} {p u v tp kw kp ku kv : Nat → Nat} {d : Nat} {K : qm_K} {M : qm_M} {g : Int} {k : Int} (hp0 : rI M n H b f p u v ln tp kn kw kp ku kv) (hK : ∀ (r : Int) (M2 : qm_M), (r = anLie n (H b) p g k ∧ rI M2 n H b f p u v ln tp kn kw kp ku kv ∧ (∀ c, c < 71 → M2 c = M c)) → K (.inl r) (qL qLM) M2) : qm_Runs qm_P (d + 12) 202 [(.inr (some 71)), (.inl g), (.inl k)] (qL qLM) M K := by
  obtain ⟨⟨⟨m1, m2, m3, hI⟩, mb⟩, hha, hhs, htp, him, hkn⟩ := id hp0
  have h1 := hI.1
  have h8 := hI.2.1
  have bad : ∀ x, x = anLie n (H b) p g k → K (.inl x) (qL qLM) M := fun x hx => hK x M ⟨hx, hp0, fun _ _ => rfl⟩
  unfold anLie at bad
  refine en_R_lie (n := n) (w := H b) (p := p) ?_
  rw [m1]
  refine And.intro (by omega) (And.intro (fun h => And.intro (fun h2 => And.intro (fun h3 => ?_) (fun h3 => bad _ (by rw [if_neg (by omega), if_pos (by omega)]))) (fun h2 => bad _ (by rw [if_pos (by omega)]))) (fun h => bad _ (by rw [if_pos (by omega)])))
  refine And.intro (by decide) (And.intro (Or.inl (by decide)) ?_)
  intro M1 e1 M2 e2
  have c2 : ∀ c, c ≠ 71 → c ≠ 75 → M2 c = M c := fun c g1 g2 => by rw [e2, qu_cf g1, e1, cpM_c g2]
  have f2 : ∀ y, y ≠ 37 → M2 71 y = M 71 y := fun y hy => by rw [e2, qu_k hy, e1, cpM_c (by decide)]
  have g75 : qAt M2 75 n (H b) := fun s a j q1 q2 q3 => by rw [e2, qu_c (by decide), e1, cpM_L (ix_lt q1 (by omega) (by omega))]; exact m2 s a j q1 q2 q3
  refine And.intro ⟨by rw [f2 0 (by decide)]; exact m1, by omega, qAt_mem m2 (c2 72 (by decide) (by decide)), hI, mB_mem mb (c2 72 (by decide) (by decide)), g75⟩ (And.intro (by omega) (And.intro (by rw [e2, qu_s]) ?_))
  intro M4 q4
  have c4 : ∀ c, c ≠ 71 → c < 81 → c ≠ 73 → c ≠ 75 → M4 c = M c := fun c g1 g2 g3 g4 => funext fun y => by rw [q4.1 c y g3 (by omega) (by omega) (by omega) (by omega) (Or.inl g1), c2 c g1 g4]
  have f4 : ∀ y, y < 24 → M4 71 y = M 71 y := fun y hy => by rw [q4.1 71 y (by decide) (by decide) (by decide) (by decide) (by decide) (Or.inr (by omega)), f2 y (by omega)]
  refine And.intro ⟨by rw [f4 0 (by decide)]; exact m1, qAt_mem m2 (c4 72 (by decide) (by decide) (by decide) (by decide)), hI⟩ (And.intro (mB_mem mb (c4 72 (by decide) (by decide) (by decide) (by decide))) ?_)
  intro M6 q6
  obtain ⟨t1, t2, t3⟩ := q6
  have c6 : ∀ c, c ≠ 71 → c < 81 → c ≠ 73 → c ≠ 75 → M6 c = M c := fun c g1 g2 g3 g4 => funext fun y => by rw [t3 c y g3 (Or.inl g1), c4 c g1 g2 g3 g4]
  have f6 : ∀ y, y < 24 → M6 71 y = M 71 y := fun y hy => by rw [t3 71 y (by decide) (Or.inr (by omega)), f4 y hy]
  have a36 : M6 71 36 = (lieB n (H b) p g.toNat : Int) := by rw [t3 71 36 (by decide) (Or.inr (by decide))]; exact q4.2.1
  have a37 : M6 71 37 = (lieN n (H b) p g.toNat (lieB n (H b) p g.toNat) : Int) := by rw [t3 71 37 (by decide) (Or.inr (by decide))]; exact q4.2.2
  have fin : ∀ x, x = anLie n (H b) p g k → K (.inl x) (qL qLM) M6 := fun x hx => hK x M6 ⟨hx, ⟨⟨t1, mB_mem mb (c6 72 (by decide) (by decide) (by decide) (by decide))⟩, ⟨qHa_mem hha.1 (c6 _ (by decide) (by decide) (by decide) (by decide)), hha.2⟩, rHs_mem hhs (c6 _ (by decide) (by decide) (by decide) (by decide)) (c6 _ (by decide) (by decide) (by decide) (by decide)) (f6 _ (by decide)) (f6 _ (by decide)), rTp_mem htp (c6 _ (by decide) (by decide) (by decide) (by decide)) (f6 _ (by decide)), rIm_mem him (c6 _ (by decide) (by decide) (by decide) (by decide)) (c6 _ (by decide) (by decide) (by decide) (by decide)) (f6 _ (by decide)), fun z => absurd t2 z⟩, fun c hc => c6 c (by omega) (by omega) (by omega) (by omega)⟩
  unfold anLie at fin
  refine And.intro (fun h9 => fin _ ?_) (fun h9 => fin _ ?_)
  · rw [if_neg (by omega), if_neg (by omega), if_neg h9, a37]
  · rw [if_neg (by omega), if_neg (by omega), if_pos (Classical.not_not.mp h9), a36]
