def at_C_most_8 (T : qm_L) (d : Nat) (K : qm_K) (M : qm_M) (x1 x2 : Int) : Prop := qm_TT qi_116 (qm_Runs qm_P (d + 6)) K 8 [some (.inr (some 0)), some (.inl x1), some (.inl x2)] [] (qL T) M 0 0
theorem rg_C_most_8 {T : qm_L} {n z : Nat} {w p : Nat → Nat} {d : Nat} {K : qm_K} {M : qm_M} {x1 x2 : Int} (h :
    ∀ (y3 : Int), y3 = (M 47 1) →
    (y3 ≤ x2 →
     K (.inl x1) (qL T) M) ∧
    (¬ y3 ≤ x2 →
     ∀ (y4 : Int), y4 = (gRow M 49 4096 x2) →
     (qInv n w p ∧ qTn M n w p) ∧
     (y4 = (z : Int) ∧ z < 2147483648) ∧
     ∀ (y5 : Int), y5 = (sumI (fun t => @ite Int (bS z t) (Classical.propDecidable _) (rgn n w p t) 0) (rT n w p)) →
     qm_R (x2 + 1) ∧
     at_C_most_8 T d K M ((max x1 y5)) ((x2 + 1)))) : at_C_most_8 T d K M x1 x2 :=
  qm_wp_TT [8] 21 (Exists.intro 47 (And.intro (lf_0_6 T) (And.intro (lo_47 T) (s_Mat_total (d := d + 5)   (And.intro (fun q6 => ((h _ rfl).1 q6)) (fun q7 => Exists.intro 25 (And.intro (lf_0_5 T) (Exists.intro 47 (And.intro (lf_0_6 T) (And.intro (lo_47 T) (s_Mat_bits (d := d + 4)   (And.intro (lo_25 T) (s_Turns_gainOfAll (d := d + 3)  ((((h _ rfl).2 q7) _ rfl).1) ((((h _ rfl).2 q7) _ rfl).2.1) (And.intro ((((h _ rfl).2 q7) _ rfl).2.2 _ rfl).1 (((((h _ rfl).2 q7) _ rfl).2.2 _ rfl).2)))))))))))))))
theorem en_C_most {T : qm_L} {n z : Nat} {w p : Nat → Nat} {d : Nat} {K : qm_K} {M : qm_M}  (h :
    (qLR M 4 n w p) ∧
    (M 0 10 ≠ 0 → qTn M n w p ∧ qMs M n w p) ∧
    (∀ (M2 : qm_M), (qTn M2 n w p ∧ qMs M2 n w p ∧ M2 0 10 ≠ 0 ∧ qcF M2 M) →
     at_C_most_8 T d K M2 0 0)) : qm_Runs qm_P (d + 7) 116 [(.inr (some 0))] (qL T) M K :=
  And.intro (Nat.le_of_ble_eq_true rfl) (show qm_TT qi_116 (qm_Runs qm_P (d + 6)) K 0 [some (.inr (some 0)), none, none] [] (qL T) M 0 0 from qm_wp_TT [8] 21 (And.intro (lo_0 T) (s_C_settle (d := d + 0)  (h.1) (h.2.1) (fun M2 p8 => (h.2.2 M2 p8)))))
theorem lp_C_most {T : qm_L} {d : Nat} {K : qm_K} {M : qm_M} {n : Nat} {w p : Nat → Nat} (hI : qInv n w p) (hT : qTn M n w p) (hM : qMs M n w p) (hK : K (.inl (anMost n w p)) (qL T) M) : ∀ (j m : Nat), m + j = cN n w p → at_C_most_8 T d K M (mxI (gaE n w p) m) (m : Int)
  | 0, m, hm => by
    have hm : m = cN n w p := by omega
    refine rg_C_most_8 (n := n) (z := 0) (w := w) (p := p) ?_
    intro y3 e3
    rw [hM.1.1] at e3
    refine And.intro (fun _ => ?_) (fun z => absurd (by omega) z)
    rw [hm]
    exact hK
  | j + 1, m, hm => by
    have h4 := cN_le hI
    refine rg_C_most_8 (n := n) (z := cE n w p m) (w := w) (p := p) ?_
    intro y3 e3
    rw [hM.1.1] at e3
    refine And.intro (fun z => absurd z (by omega)) (fun _ => ?_)
    intro y4 e4
    rw [Ms_at hI hM (by omega)] at e4
    refine And.intro ⟨hI, hT⟩ (And.intro ⟨e4, cE_31 hI (by omega)⟩ ?_)
    intro y5 e5
    refine And.intro (by unfold qm_R; omega) ?_
    have := lp_C_most (T := T) (d := d) hI hT hM hK j (m + 1) (by omega)
    rw [show y5 = gaE n w p m from e5]
    exact this
theorem s_C_most {T : qm_L} {n : Nat} {w p : Nat → Nat} {d : Nat} {K : qm_K} {M : qm_M}  (hp0 : qLR M 4 n w p) (hp1 : M 0 10 ≠ 0 → qTn M n w p ∧ qMs M n w p) (hK : ∀ (r : Int) (M2 : qm_M), (r = anMost n w p ∧ (M2 0 10 ≠ 0 → qTn M2 n w p ∧ qMs M2 n w p) ∧ qcF M2 M) → K (.inl r) (qL T) M2) : qm_Runs qm_P (d + 7) 116 [(.inr (some 0))] (qL T) M K := by
  have hI := hp0.2.2.2
  have h1 := hI.1
  have h8 := hI.2.1
  have h28 := (r_T hI).1
  have h4 := cN_le hI
  have self : qcF M M := fun _ _ _ _ => rfl
  have bad : ∀ r, r = anMost n w p → K (.inl r) (qL T) M := fun r hr => hK r M ⟨hr, hp1, self⟩
  
  refine en_C_most (n := n) (z := 0) (w := w) (p := p) (And.intro hp0 (And.intro hp1 ?_))
  intro M2 q2
  
  obtain ⟨t1, t2, t3, t4⟩ := q2
  have fin : ∀ r, r = anMost n w p → K (.inl r) (qL T) M2 := fun r hr => hK r M2 ⟨hr, fun _ => ⟨t1, t2⟩, t4⟩
  have eT := t1.1
  have eN := t2.1.1
  
  exact lp_C_most hI t1 t2 (fin _ rfl) (cN n w p) 0 (by omega)
theorem en_C_either {T : qm_L} {n z : Nat} {w p : Nat → Nat} {d : Nat} {K : qm_K} {M : qm_M} {x : Int} {y : Int} {g : Int} (h :
    (x < 0 →
     K (.inl ((-1))) (qL T) M) ∧
    (¬ x < 0 →
     (y < 0 →
      K (.inl ((-1))) (qL T) M) ∧
     (¬ y < 0 →
      (g < 0 →
       K (.inl ((-1))) (qL T) M) ∧
      (¬ g < 0 →
       (g ≤ 1 →
        (qLR M 4 n w p) ∧
        (M 0 10 ≠ 0 → qTn M n w p ∧ qMs M n w p) ∧
        (∀ (M2 : qm_M), (qTn M2 n w p ∧ qMs M2 n w p ∧ M2 0 10 ≠ 0 ∧ qcF M2 M) →
         ((0 ≤ x ∧ x < M2 47 1) →
          ((0 ≤ y ∧ y < M2 47 1) →
           ∀ (y3 : Int), y3 = (gRow M2 49 4096 x) →
           ∀ (y4 : Int), y4 = (gRow M2 49 4096 y) →
           (g ≠ 0 →
            (qInv n w p ∧ qMs M2 n w p) ∧
            ((qm_or y3 y4) = (z : Int)) ∧
            ∀ (y5 : Int), y5 = (@ite Int (cQ n w p z) (Classical.propDecidable _) (cC n w p z : Int) (-2)) →
            K (.inl y5) (qL T) M2) ∧
           (¬ g ≠ 0 →
            (qInv n w p ∧ qMs M2 n w p) ∧
            ((qm_and y3 y4) = (z : Int)) ∧
            ∀ (y6 : Int), y6 = (@ite Int (cQ n w p z) (Classical.propDecidable _) (cC n w p z : Int) (-2)) →
            K (.inl y6) (qL T) M2)) ∧
          (¬ (0 ≤ y ∧ y < M2 47 1) →
           K (.inl ((-2))) (qL T) M2)) ∧
         (¬ (0 ≤ x ∧ x < M2 47 1) →
          K (.inl ((-2))) (qL T) M2))) ∧
       (¬ g ≤ 1 →
        K (.inl ((-1))) (qL T) M))))) : qm_Runs qm_P (d + 7) 117 [(.inr (some 0)), (.inl x), (.inl y), (.inl g)] (qL T) M K :=
  And.intro (Nat.le_of_ble_eq_true rfl) (show qm_TT qi_117 (qm_Runs qm_P (d + 6)) K 0 [some (.inr (some 0)), some (.inl x), some (.inl y), some (.inl g), none, none] [] (qL T) M 0 0 from qm_wp_TT [] 44 (And.intro (fun q7 => (h.1 q7)) (fun q8 => And.intro (fun q9 => ((h.2 q8).1 q9)) (fun q10 => And.intro (fun q11 => (((h.2 q8).2 q10).1 q11)) (fun q12 => And.intro (fun q13 => And.intro (lo_0 T) (s_C_settle (d := d + 0)  (((((h.2 q8).2 q10).2 q12).1 q13).1) (((((h.2 q8).2 q10).2 q12).1 q13).2.1) (fun M2 p15 => Exists.intro 47 (And.intro (lf_0_6 T) (And.intro (lo_47 T) (s_Mat_isMatch (d := d + 5)   (And.intro (fun q16 => ((((((h.2 q8).2 q10).2 q12).1 q13).2.2 M2 p15).2 (qm_b0 q16))) (fun q17 => Exists.intro 47 (And.intro (lf_0_6 T) (And.intro (lo_47 T) (s_Mat_isMatch (d := d + 5)   (And.intro (fun q18 => Exists.intro 47 (And.intro (lf_0_6 T) (And.intro (lo_47 T) (s_Mat_bits (d := d + 4)   (Exists.intro 47 (And.intro (lf_0_6 T) (And.intro (lo_47 T) (s_Mat_bits (d := d + 4)   (Exists.intro 47 (And.intro (lf_0_6 T) (And.intro (fun q20 => And.intro (lo_47 T) (s_Mat_numberOf (d := d + 4)  (((((((((((h.2 q8).2 q10).2 q12).1 q13).2.2 M2 p15).1 (qm_b1 q17)).1 (qm_b1 q18)) _ rfl) _ rfl).1 q20).1) (((((((((((h.2 q8).2 q10).2 q12).1 q13).2.2 M2 p15).1 (qm_b1 q17)).1 (qm_b1 q18)) _ rfl) _ rfl).1 q20).2.1) ((((((((((((h.2 q8).2 q10).2 q12).1 q13).2.2 M2 p15).1 (qm_b1 q17)).1 (qm_b1 q18)) _ rfl) _ rfl).1 q20).2.2 _ rfl)))) (fun q21 => And.intro (lo_47 T) (s_Mat_numberOf (d := d + 4)  (((((((((((h.2 q8).2 q10).2 q12).1 q13).2.2 M2 p15).1 (qm_b1 q17)).1 (qm_b1 q18)) _ rfl) _ rfl).2 q21).1) (((((((((((h.2 q8).2 q10).2 q12).1 q13).2.2 M2 p15).1 (qm_b1 q17)).1 (qm_b1 q18)) _ rfl) _ rfl).2 q21).2.1) ((((((((((((h.2 q8).2 q10).2 q12).1 q13).2.2 M2 p15).1 (qm_b1 q17)).1 (qm_b1 q18)) _ rfl) _ rfl).2 q21).2.2 _ rfl))))))))))))))) (fun q19 => (((((((h.2 q8).2 q10).2 q12).1 q13).2.2 M2 p15).1 (qm_b1 q17)).2 (qm_b2 q19))))))))))))))) (fun q14 => ((((h.2 q8).2 q10).2 q12).2 q14)))))))
theorem s_C_either {T : qm_L} {n : Nat} {w p : Nat → Nat} {d : Nat} {K : qm_K} {M : qm_M} {x : Int} {y : Int} {g : Int} (hp0 : qLR M 4 n w p) (hp1 : M 0 10 ≠ 0 → qTn M n w p ∧ qMs M n w p) (hK : ∀ (r : Int) (M2 : qm_M), (r = eiA n w p x y g ∧ (M2 0 10 ≠ 0 → qTn M2 n w p ∧ qMs M2 n w p) ∧ qcF M2 M) → K (.inl r) (qL T) M2) : qm_Runs qm_P (d + 7) 117 [(.inr (some 0)), (.inl x), (.inl y), (.inl g)] (qL T) M K := by
  have hI := hp0.2.2.2
  have h1 := hI.1
  have h8 := hI.2.1
  have h28 := (r_T hI).1
  have h4 := cN_le hI
  have self : qcF M M := fun _ _ _ _ => rfl
  have bad : ∀ r, r = eiA n w p x y g → K (.inl r) (qL T) M := fun r hr => hK r M ⟨hr, hp1, self⟩
  
  have no : (x < 0 ∨ y < 0 ∨ g < 0 ∨ 1 < g) → K (.inl (-1)) (qL T) M := fun h => bad _ (by unfold eiA; rw [if_pos h])
  refine en_C_either (n := n) (z := eiZ n w p x.toNat y.toNat g) (w := w) (p := p) (And.intro (fun h => no (by omega)) (fun h => And.intro (fun h2 => no (by omega)) (fun h2 => And.intro (fun h3 => no (by omega)) (fun h3 => And.intro (fun h5 => And.intro hp0 (And.intro hp1 ?_)) (fun h5 => no (by omega))))))
  intro M2 q2
  
  obtain ⟨t1, t2, t3, t4⟩ := q2
  have fin : ∀ r, r = eiA n w p x y g → K (.inl r) (qL T) M2 := fun r hr => hK r M2 ⟨hr, fun _ => ⟨t1, t2⟩, t4⟩
  have eT := t1.1
  have eN := t2.1.1
  
  unfold eiA at fin
  rw [if_neg (by omega)] at fin
  rw [eN]
  refine And.intro (fun h6 => And.intro (fun h7 => ?_) (fun h7 => fin _ (by rw [if_pos (by omega)]))) (fun h6 => fin _ (by rw [if_pos (by omega)]))
  obtain ⟨x, rfl⟩ : ∃ b : Nat, x = (b : Int) := ⟨x.toNat, by omega⟩
  obtain ⟨y, rfl⟩ : ∃ b : Nat, y = (b : Int) := ⟨y.toNat, by omega⟩
  rw [Int.toNat_natCast, Int.toNat_natCast] at fin ⊢
  rw [if_neg (by omega)] at fin
  have hx : x < cN n w p := by omega
  have hy : y < cN n w p := by omega
  have hz := eiZ_ok hx hy g
  intro y3 e3 y4 e4
  rw [Ms_at hI t2 hx] at e3
  rw [Ms_at hI t2 hy] at e4
  have b3 := cE_31 hI hx
  have b4 := cE_31 hI hy
  refine And.intro (fun h8 => And.intro ⟨hI, t2⟩ (And.intro ?_ ?_)) (fun h8 => And.intro ⟨hI, t2⟩ (And.intro ?_ ?_))
  · rw [e3, e4, qb_or b3 b4]
    unfold eiZ
    rw [if_neg h8]
  · intro y5 e5
    rw [if_pos hz] at e5
    exact fin _ e5
  · rw [e3, e4, qb_and b3 b4]
    unfold eiZ
    rw [if_pos (Classical.not_not.mp h8)]
  · intro y5 e5
    rw [if_pos hz] at e5
    exact fin _ e5
theorem en_C_middle {T : qm_L} {n z : Nat} {w p : Nat → Nat} {d : Nat} {K : qm_K} {M : qm_M} {x : Int} {y : Int} {g : Int} (h :
    (x < 0 →
     K (.inl ((-1))) (qL T) M) ∧
    (¬ x < 0 →
     (y < 0 →
      K (.inl ((-1))) (qL T) M) ∧
     (¬ y < 0 →
      (0 ≤ g →
       (qLR M 4 n w p) ∧
       (M 0 10 ≠ 0 → qTn M n w p ∧ qMs M n w p) ∧
       (∀ (M2 : qm_M), (qTn M2 n w p ∧ qMs M2 n w p ∧ M2 0 10 ≠ 0 ∧ qcF M2 M) →
        ((0 ≤ x ∧ x < M2 47 1) →
         ((0 ≤ y ∧ y < M2 47 1) →
          ((0 ≤ g ∧ g < M2 47 1) →
           ∀ (y3 : Int), y3 = (gRow M2 49 4096 x) →
           ∀ (y4 : Int), y4 = (gRow M2 49 4096 y) →
           ∀ (y5 : Int), y5 = (gRow M2 49 4096 g) →
           (qInv n w p ∧ qMs M2 n w p) ∧
           ((qm_or (qm_or (qm_and y3 y4) (qm_and y4 y5)) (qm_and y3 y5)) = (z : Int)) ∧
           ∀ (y6 : Int), y6 = (@ite Int (cQ n w p z) (Classical.propDecidable _) (cC n w p z : Int) (-2)) →
           K (.inl y6) (qL T) M2) ∧
          (¬ (0 ≤ g ∧ g < M2 47 1) →
           K (.inl ((-2))) (qL T) M2)) ∧
         (¬ (0 ≤ y ∧ y < M2 47 1) →
          K (.inl ((-2))) (qL T) M2)) ∧
        (¬ (0 ≤ x ∧ x < M2 47 1) →
         K (.inl ((-2))) (qL T) M2))) ∧
      (¬ 0 ≤ g →
       K (.inl ((-1))) (qL T) M)))) : qm_Runs qm_P (d + 7) 118 [(.inr (some 0)), (.inl x), (.inl y), (.inl g)] (qL T) M K :=
  And.intro (Nat.le_of_ble_eq_true rfl) (show qm_TT qi_118 (qm_Runs qm_P (d + 6)) K 0 [some (.inr (some 0)), some (.inl x), some (.inl y), some (.inl g), none, none, none] [] (qL T) M 0 0 from qm_wp_TT [] 56 (And.intro (fun q7 => (h.1 q7)) (fun q8 => And.intro (fun q9 => ((h.2 q8).1 q9)) (fun q10 => And.intro (fun q11 => And.intro (lo_0 T) (s_C_settle (d := d + 0)  ((((h.2 q8).2 q10).1 q11).1) ((((h.2 q8).2 q10).1 q11).2.1) (fun M2 p13 => Exists.intro 47 (And.intro (lf_0_6 T) (And.intro (lo_47 T) (s_Mat_isMatch (d := d + 5)   (And.intro (fun q14 => (((((h.2 q8).2 q10).1 q11).2.2 M2 p13).2 (qm_b0 q14))) (fun q15 => Exists.intro 47 (And.intro (lf_0_6 T) (And.intro (lo_47 T) (s_Mat_isMatch (d := d + 5)   (And.intro (fun q16 => ((((((h.2 q8).2 q10).1 q11).2.2 M2 p13).1 (qm_b1 q15)).2 (qm_b0 q16))) (fun q17 => Exists.intro 47 (And.intro (lf_0_6 T) (And.intro (lo_47 T) (s_Mat_isMatch (d := d + 5)   (And.intro (fun q18 => Exists.intro 47 (And.intro (lf_0_6 T) (And.intro (lo_47 T) (s_Mat_bits (d := d + 4)   (Exists.intro 47 (And.intro (lf_0_6 T) (And.intro (lo_47 T) (s_Mat_bits (d := d + 4)   (Exists.intro 47 (And.intro (lf_0_6 T) (And.intro (lo_47 T) (s_Mat_bits (d := d + 4)   (Exists.intro 47 (And.intro (lf_0_6 T) (And.intro (lo_47 T) (s_Mat_numberOf (d := d + 4)  (((((((((((h.2 q8).2 q10).1 q11).2.2 M2 p13).1 (qm_b1 q15)).1 (qm_b1 q17)).1 (qm_b1 q18)) _ rfl) _ rfl) _ rfl).1) (((((((((((h.2 q8).2 q10).1 q11).2.2 M2 p13).1 (qm_b1 q15)).1 (qm_b1 q17)).1 (qm_b1 q18)) _ rfl) _ rfl) _ rfl).2.1) ((((((((((((h.2 q8).2 q10).1 q11).2.2 M2 p13).1 (qm_b1 q15)).1 (qm_b1 q17)).1 (qm_b1 q18)) _ rfl) _ rfl) _ rfl).2.2 _ rfl)))))))))))))))))) (fun q19 => (((((((h.2 q8).2 q10).1 q11).2.2 M2 p13).1 (qm_b1 q15)).1 (qm_b1 q17)).2 (qm_b2 q19)))))))))))))))))))) (fun q12 => (((h.2 q8).2 q10).2 q12))))))
theorem s_C_middle {T : qm_L} {n : Nat} {w p : Nat → Nat} {d : Nat} {K : qm_K} {M : qm_M} {x : Int} {y : Int} {g : Int} (hp0 : qLR M 4 n w p) (hp1 : M 0 10 ≠ 0 → qTn M n w p ∧ qMs M n w p) (hK : ∀ (r : Int) (M2 : qm_M), (r = anMiddle n w p x y g ∧ (M2 0 10 ≠ 0 → qTn M2 n w p ∧ qMs M2 n w p) ∧ qcF M2 M) → K (.inl r) (qL T) M2) : qm_Runs qm_P (d + 7) 118 [(.inr (some 0)), (.inl x), (.inl y), (.inl g)] (qL T) M K := by
  have hI := hp0.2.2.2
  have h1 := hI.1
  have h8 := hI.2.1
  have h28 := (r_T hI).1
  have h4 := cN_le hI
  have self : qcF M M := fun _ _ _ _ => rfl
  have bad : ∀ r, r = anMiddle n w p x y g → K (.inl r) (qL T) M := fun r hr => hK r M ⟨hr, hp1, self⟩
  
  have no : (x < 0 ∨ y < 0 ∨ g < 0) → K (.inl (-1)) (qL T) M := fun h => bad _ (by unfold anMiddle; rw [if_pos h])
  refine en_C_middle (n := n) (z := mdZ n w p x.toNat y.toNat g.toNat) (w := w) (p := p) (And.intro (fun h => no (by omega)) (fun h => And.intro (fun h2 => no (by omega)) (fun h2 => And.intro (fun h3 => And.intro hp0 (And.intro hp1 ?_)) (fun h3 => no (by omega)))))
  intro M2 q2
  
  obtain ⟨t1, t2, t3, t4⟩ := q2
  have fin : ∀ r, r = anMiddle n w p x y g → K (.inl r) (qL T) M2 := fun r hr => hK r M2 ⟨hr, fun _ => ⟨t1, t2⟩, t4⟩
  have eT := t1.1
  have eN := t2.1.1
  
  unfold anMiddle at fin
  rw [if_neg (by omega)] at fin
  rw [eN]
  refine And.intro (fun h6 => And.intro (fun h7 => And.intro (fun h9 => ?_) (fun h9 => fin _ (by rw [if_pos (by omega)]))) (fun h7 => fin _ (by rw [if_pos (by omega)]))) (fun h6 => fin _ (by rw [if_pos (by omega)]))
  obtain ⟨x, rfl⟩ : ∃ b : Nat, x = (b : Int) := ⟨x.toNat, by omega⟩
  obtain ⟨y, rfl⟩ : ∃ b : Nat, y = (b : Int) := ⟨y.toNat, by omega⟩
  obtain ⟨g, rfl⟩ : ∃ b : Nat, g = (b : Int) := ⟨g.toNat, by omega⟩
  rw [Int.toNat_natCast, Int.toNat_natCast, Int.toNat_natCast] at fin ⊢
  rw [if_neg (by omega)] at fin
  have hx : x < cN n w p := by omega
  have hy : y < cN n w p := by omega
  have hg : g < cN n w p := by omega
  have hz := mdZ_ok hx hy hg
  intro y3 e3 y4 e4 y5 e5
  rw [Ms_at hI t2 hx] at e3
  rw [Ms_at hI t2 hy] at e4
  rw [Ms_at hI t2 hg] at e5
  have b3 := cE_31 hI hx
  have b4 := cE_31 hI hy
  have b5 := cE_31 hI hg
  refine And.intro ⟨hI, t2⟩ (And.intro ?_ ?_)
  · rw [e3, e4, e5, qb_and b3 b4, qb_and b4 b5, qb_and b3 b5, qb_or (and_lt31 b3) (and_lt31 b4), qb_or (or_lt31 (and_lt31 b3) (and_lt31 b4)) (and_lt31 b3)]
    rfl
  · intro y6 e6
    rw [if_pos hz] at e6
    exact fin _ e6
theorem en_C_may {T : qm_L} {n sg k a : Nat} {w p : Nat → Nat} {d : Nat} {K : qm_K} {M : qm_M} {s : Int} {e : Int} (h :
    ((0 ≤ s ∧ s ≤ 1) →
     ((0 ≤ e ∧ e < M 4 2) →
      (qLR M 4 n w p) ∧
      (M 0 10 ≠ 0 → qTn M n w p ∧ qMs M n w p) ∧
      (∀ (M2 : qm_M), (qTn M2 n w p ∧ qMs M2 n w p ∧ M2 0 10 ≠ 0 ∧ qcF M2 M) →
       ∀ (y3 : Int), y3 = (M2 47 1) →
       qm_R (y3 - 1) ∧
       (qInv n w p ∧ qTn M2 n w p ∧ qMs M2 n w p) ∧
       (k < cN n w p ∧ (y3 - 1) = (k : Int)) ∧
       (∀ (M5 : qm_M), (qPR M5 53 n (mU n w p (bS (cE n w p k))) (mV n w p (bS (cE n w p k))) ∧ ∀ c, c ≠ 55 → M5 c = M2 c) →
        ∀ (y6 : Int), y6 = (gPar M5 53 s e) →
        (qInv n w p ∧ qTn M5 n w p) ∧
        (sg < 2 ∧ s = (sg : Int) ∧ e = (a : Int)) ∧
        ∀ (y7 : Int), y7 = (bits (fun x => ∃ t, t < rT n w p ∧ ∃ l, rIn n w p t l ∧ (if sg = 0 then l = a ∧ rU n w p t l = x else rU n w p t l = a ∧ l = x)) 8 : Int) →
        K (.inl ((qm_or y7 (qm_shl 1 y6)))) (qL T) M5))) ∧
     (¬ (0 ≤ e ∧ e < M 4 2) →
      K (.inl ((-1))) (qL T) M)) ∧
    (¬ (0 ≤ s ∧ s ≤ 1) →
     K (.inl ((-1))) (qL T) M)) : qm_Runs qm_P (d + 7) 119 [(.inr (some 0)), (.inl s), (.inl e)] (qL T) M K :=
  And.intro (Nat.le_of_ble_eq_true rfl) (show qm_TT qi_119 (qm_Runs qm_P (d + 6)) K 0 [some (.inr (some 0)), some (.inl s), some (.inl e), none] [] (qL T) M 0 0 from qm_wp_TT [] 36 (And.intro True.intro (s_C_isSide (d := d + 5)   (And.intro (fun q8 => (h.2 (qm_b0 q8))) (fun q9 => And.intro (lo_0 T) (s_C_isOne (d := d + 4)   (And.intro (fun q10 => And.intro (lo_0 T) (s_C_settle (d := d + 0)  (((h.1 (qm_b1 q9)).1 (qm_b1 q10)).1) (((h.1 (qm_b1 q9)).1 (qm_b1 q10)).2.1) (fun M2 p12 => Exists.intro 47 (And.intro (lf_0_6 T) (Exists.intro 47 (And.intro (lf_0_6 T) (And.intro (lo_47 T) (s_Mat_total (d := d + 5)   (And.intro ((((h.1 (qm_b1 q9)).1 (qm_b1 q10)).2.2 M2 p12) _ rfl).1 (Exists.intro 25 (And.intro (lf_0_5 T) (And.intro (lo_47 T) (s_Mat_load (d := d + 1)  (((((h.1 (qm_b1 q9)).1 (qm_b1 q10)).2.2 M2 p12) _ rfl).2.1) (((((h.1 (qm_b1 q9)).1 (qm_b1 q10)).2.2 M2 p12) _ rfl).2.2.1) (fun M5 p13 => And.intro (lo_53 T) (s_Pair_partner (d := d + 4) (lPr_53 T)  (Exists.intro 25 (And.intro (lf_0_5 T) (And.intro (lo_25 T) (s_Turns_partnersLeft (d := d + 3)  (((((((h.1 (qm_b1 q9)).1 (qm_b1 q10)).2.2 M2 p12) _ rfl).2.2.2 M5 p13) _ rfl).1) (((((((h.1 (qm_b1 q9)).1 (qm_b1 q10)).2.2 M2 p12) _ rfl).2.2.2 M5 p13) _ rfl).2.1) ((((((((h.1 (qm_b1 q9)).1 (qm_b1 q10)).2.2 M2 p12) _ rfl).2.2.2 M5 p13) _ rfl).2.2 _ rfl))))))))))))))))))))) (fun q11 => ((h.1 (qm_b1 q9)).2 (qm_b2 q11))))))))))
theorem s_C_may {T : qm_L} {n : Nat} {w p : Nat → Nat} {d : Nat} {K : qm_K} {M : qm_M} {s : Int} {e : Int} (hp0 : qLR M 4 n w p) (hp1 : M 0 10 ≠ 0 → qTn M n w p ∧ qMs M n w p) (hK : ∀ (r : Int) (M2 : qm_M), (r = anMay n w p s e ∧ (M2 0 10 ≠ 0 → qTn M2 n w p ∧ qMs M2 n w p) ∧ qcF M2 M) → K (.inl r) (qL T) M2) : qm_Runs qm_P (d + 7) 119 [(.inr (some 0)), (.inl s), (.inl e)] (qL T) M K := by
  have hI := hp0.2.2.2
  have h1 := hI.1
  have h8 := hI.2.1
  have h28 := (r_T hI).1
  have h4 := cN_le hI
  have self : qcF M M := fun _ _ _ _ => rfl
  have bad : ∀ r, r = anMay n w p s e → K (.inl r) (qL T) M := fun r hr => hK r M ⟨hr, hp1, self⟩
  
  have no : (s < 0 ∨ 1 < s ∨ e < 0 ∨ (n : Int) ≤ e) → K (.inl (-1)) (qL T) M := fun h => bad _ (by unfold anMay; rw [if_pos h])
  have hpos := cN_pos (n := n) (w := w) (p := p)
  refine en_C_may (n := n) (sg := s.toNat) (k := cN n w p - 1) (a := e.toNat) (w := w) (p := p) ?_
  rw [hp0.1]
  refine And.intro (fun h2 => And.intro (fun h3 => And.intro hp0 (And.intro hp1 ?_)) (fun h3 => no (by omega))) (fun h2 => no (by omega))
  intro M2 q2
  
  obtain ⟨t1, t2, t3, t4⟩ := q2
  have fin : ∀ r, r = anMay n w p s e → K (.inl r) (qL T) M2 := fun r hr => hK r M2 ⟨hr, fun _ => ⟨t1, t2⟩, t4⟩
  have eT := t1.1
  have eN := t2.1.1
  
  intro y3 e3
  rw [eN] at e3
  refine And.intro (by unfold qm_R; omega) (And.intro ⟨hI, t1, t2⟩ (And.intro ⟨by omega, by omega⟩ ?_))
  intro M4 q4
  obtain ⟨k1, k2, k3⟩ := ld_keep t1 t2 q4.2
  have hlast : cN n w p - 1 < cN n w p := by omega
  have hs := cE_spec hlast
  intro y6 e6
  rw [gPar_s q4.1 (m_qMt hI hs.2.1) h8 h2 ⟨h3.1, h3.2⟩] at e6
  have hb := fun x => may_bit (s := s.toNat) (a := e.toNat) (x := x) hI (show e.toNat < n by omega)
  have e6' : y6 = (ptN n w p s.toNat e.toNat (cN n w p - 1) : Int) := by
    rw [e6]
    unfold ptN
    by_cases z : s = 0
    · rw [if_pos z, if_pos (by omega)]
    · rw [if_neg z, if_neg (by omega)]
  have hpt := pt_lt (s := s.toNat) (a := e.toNat) hI (by omega) hlast
  refine And.intro ⟨hI, k1⟩ (And.intro ⟨by omega, by omega, by omega⟩ ?_)
  intro y7 e7
  refine hK _ M4 ⟨?_, fun _ => ⟨k1, k2⟩, qcF_trans k3 t4⟩
  have e7 : y7 = (bits (plS n w p s.toNat e.toNat) 8 : Int) := e7
  rw [e7, e6', qb_shl1 _ (by omega), qb_or (bits_lt31 (by decide)) (pow_lt31 (by omega))]
  unfold anMay
  rw [if_neg (by omega)]
  congr 1
  refine bits_ext (fun x => ?_)
  rw [or_test, bits_test, pow_test, hb x]
  constructor
  · rintro (z | z)
    · exact Or.inl z.2
    · exact Or.inr z
  · rintro (z | z)
    · refine Or.inl ⟨?_, z⟩
      obtain ⟨m, hm, q⟩ := (may_iff (s := s.toNat) hI (show e.toNat < n by omega)).mpr (Or.inl z)
      have := pt_lt (s := s.toNat) hI (show e.toNat < n by omega) hm
      omega
    · exact Or.inr z
theorem en_C_fixed {T : qm_L} {n : Nat} {w p : Nat → Nat} {d : Nat} {K : qm_K} {M : qm_M}  (h :
    (qLR M 4 n w p) ∧
    (M 0 10 ≠ 0 → qTn M n w p ∧ qMs M n w p) ∧
    (∀ (M2 : qm_M), (qTn M2 n w p ∧ qMs M2 n w p ∧ M2 0 10 ≠ 0 ∧ qcF M2 M) →
     ∀ (y3 : Int), y3 = (M2 4 2) →
     qm_R ((qm_shl 1 y3) - 1) ∧
     (qInv n w p ∧ qTn M2 n w p) ∧
     ∀ (y4 : Int), y4 = (bits (fun x => ∃ t, t < rT n w p ∧ rIn n w p t x) 8 : Int) →
     K (.inl ((qm_and ((qm_shl 1 y3) - 1) (qm_xor y4 (-1))))) (qL T) M2)) : qm_Runs qm_P (d + 7) 120 [(.inr (some 0))] (qL T) M K :=
  And.intro (Nat.le_of_ble_eq_true rfl) (show qm_TT qi_120 (qm_Runs qm_P (d + 6)) K 0 [some (.inr (some 0))] [] (qL T) M 0 0 from qm_wp_TT [] 19 (And.intro (lo_0 T) (s_C_settle (d := d + 0)  (h.1) (h.2.1) (fun M2 p5 => Exists.intro 4 (And.intro (lf_0_1 T) (And.intro (lo_4 T) (s_Lists_each (d := d + 5) (lLs_4 T)  (And.intro ((h.2.2 M2 p5) _ rfl).1 (Exists.intro 25 (And.intro (lf_0_5 T) (And.intro (lo_25 T) (s_Turns_movers (d := d + 3)  (((h.2.2 M2 p5) _ rfl).2.1) ((((h.2.2 M2 p5) _ rfl).2.2 _ rfl))))))))))))))
theorem s_C_fixed {T : qm_L} {n : Nat} {w p : Nat → Nat} {d : Nat} {K : qm_K} {M : qm_M}  (hp0 : qLR M 4 n w p) (hp1 : M 0 10 ≠ 0 → qTn M n w p ∧ qMs M n w p) (hK : ∀ (r : Int) (M2 : qm_M), (r = anFixed n w p ∧ (M2 0 10 ≠ 0 → qTn M2 n w p ∧ qMs M2 n w p) ∧ qcF M2 M) → K (.inl r) (qL T) M2) : qm_Runs qm_P (d + 7) 120 [(.inr (some 0))] (qL T) M K := by
  have hI := hp0.2.2.2
  have h1 := hI.1
  have h8 := hI.2.1
  have h28 := (r_T hI).1
  have h4 := cN_le hI
  have self : qcF M M := fun _ _ _ _ => rfl
  have bad : ∀ r, r = anFixed n w p → K (.inl r) (qL T) M := fun r hr => hK r M ⟨hr, hp1, self⟩
  
  refine en_C_fixed (n := n) (w := w) (p := p) (And.intro hp0 (And.intro hp1 ?_))
  intro M2 q2
  
  obtain ⟨t1, t2, t3, t4⟩ := q2
  have fin : ∀ r, r = anFixed n w p → K (.inl r) (qL T) M2 := fun r hr => hK r M2 ⟨hr, fun _ => ⟨t1, t2⟩, t4⟩
  have eT := t1.1
  have eN := t2.1.1
  
  intro y3 e3
  rw [qcF_c t4 (by decide) (by decide), hp0.1] at e3
  have hp2 : 2 ^ n - 1 < 2147483648 := by have := pow_lt31 (show n < 31 by omega); omega
  have hpw : 0 < 2 ^ n := Nat.pow_pos (by decide)
  have e4 : qm_shl 1 y3 - 1 = ((2 ^ n - 1 : Nat) : Int) := by rw [e3, qb_shl1 n (by omega)]; omega
  rw [e4]
  refine And.intro (by unfold qm_R; omega) (And.intro ⟨hI, t1⟩ ?_)
  intro y4 e5
  refine fin _ ?_
  rw [e5]
  refine qb_andn hp2 (bits_lt31 (by decide)) (fun t => ?_)
  rw [Nat.testBit_two_pow_sub_one]
  have b1 := bits_test (P := fun l => (∀ t, t < rT n w p → ¬ rIn n w p t l) ∧ l < n) (T := 8) (t := t)
  have b2 := bits_test (P := fun x => ∃ t, t < rT n w p ∧ rIn n w p t x) (T := 8) (t := t)
  by_cases hn : t < n
  · rw [decide_eq_true hn, Bool.true_and]
    by_cases hm : ∃ y, y < rT n w p ∧ rIn n w p y t
    · rw [b2.mpr ⟨by omega, hm⟩]
      cases hc : (bits (fun l => (∀ t, t < rT n w p → ¬ rIn n w p t l) ∧ l < n) 8).testBit t with
      | false => rfl
      | true =>
        obtain ⟨y, hy, hin⟩ := hm
        exact absurd hin ((b1.mp hc).2.1 y hy)
    · rw [b1.mpr ⟨by omega, fun y hy hin => hm ⟨y, hy, hin⟩, hn⟩]
      cases hc : (bits (fun x => ∃ t, t < rT n w p ∧ rIn n w p t x) 8).testBit t with
      | false => rfl
      | true => exact absurd (b2.mp hc).2 hm
  · rw [decide_eq_false hn, Bool.false_and]
    cases hc : (bits (fun l => (∀ t, t < rT n w p → ¬ rIn n w p t l) ∧ l < n) 8).testBit t with
    | false => rfl
    | true => exact absurd (b1.mp hc).2.2 hn
noncomputable def prT (u : Nat → Nat) (i : Int) : Int := if i.toNat % 4 = 0 then ((48 + i.toNat / 4 : Nat) : Int) else if i.toNat % 4 = 1 then 45 else if i.toNat % 4 = 2 then ((48 + u (i.toNat / 4) : Nat) : Int) else 32
theorem en_C_printed {T : qm_L}  {d : Nat} {K : qm_K} {M : qm_M} {i : Int} (h :
    (0 : Int) < 4 ∧
    (0 : Int) < 4 ∧
    ((Int.tmod i 4) = 0 →
     qm_R (48 + (Int.tdiv i 4)) ∧
     K (.inl ((48 + (Int.tdiv i 4)))) (qL T) M) ∧
    ((Int.tmod i 4) ≠ 0 →
     ((Int.tmod i 4) = 1 →
      K (.inl 45) (qL T) M) ∧
     ((Int.tmod i 4) ≠ 1 →
      ((Int.tmod i 4) = 2 →
       ∀ (y1 : Int), y1 = (gPar M 53 0 (Int.tdiv i 4)) →
       qm_R (48 + y1) ∧
       K (.inl ((48 + y1))) (qL T) M) ∧
      ((Int.tmod i 4) ≠ 2 →
       K (.inl 32) (qL T) M)))) : qm_Runs qm_P (d + 3) 138 [(.inr (some 53)), (.inl i)] (qL T) M K :=
  And.intro (Nat.le_of_ble_eq_true rfl) (show qm_TT qi_138 (qm_Runs qm_P (d + 2)) K 0 [some (.inr (some 53)), some (.inl i), none] [] (qL T) M 0 0 from qm_wp_TT [] 18 (And.intro h.1 (And.intro h.2.1 (And.intro (fun q2 => And.intro (h.2.2.1 q2).1 ((h.2.2.1 q2).2)) (fun q3 => And.intro (fun q4 => ((h.2.2.2 q3).1 q4)) (fun q5 => And.intro (fun q6 => And.intro (lo_53 T) (s_Pair_partner (d := d + 0) (lPr_53 T)  (And.intro ((((h.2.2.2 q3).2 q5).1 q6) _ rfl).1 (((((h.2.2.2 q3).2 q5).1 q6) _ rfl).2)))) (fun q7 => (((h.2.2.2 q3).2 q5).2 q7))))))))
theorem s_C_printed {T : qm_L} {n : Nat} {u v : Nat → Nat} {d : Nat} {K : qm_K} {M : qm_M} {i : Int} (hp0 : qPR M 53 n u v ∧ qMt n u v ∧ n ≤ 8) (hp1 : 0 ≤ (i : Int) ∧ (i : Int) < 4 * (n : Int)) (hK : ∀ (r : Int), (r = prT u i) → K (.inl r) (qL T) M) : qm_Runs qm_P (d + 3) 138 [(.inr (some 53)), (.inl i)] (qL T) M K := by
  obtain ⟨hP, hMt, h8⟩ := hp0
  obtain ⟨j, rfl⟩ : ∃ j : Nat, i = (j : Int) := ⟨i.toNat, by omega⟩
  have hd : Int.tdiv (j : Int) 4 = ((j / 4 : Nat) : Int) := rfl
  have ht : Int.tmod (j : Int) 4 = ((j % 4 : Nat) : Int) := rfl
  have fin : ∀ r, r = prT u (j : Int) → K (.inl r) (qL T) M := fun r hr => hK r hr
  unfold prT at fin
  rw [Int.toNat_natCast] at fin
  have hu := (hMt.1 (j / 4) (by omega)).1
  refine en_C_printed ?_
  rw [hd, ht]
  refine And.intro (by decide) (And.intro (by decide) (And.intro (fun h => And.intro (by unfold qm_R; omega) (fin _ (by rw [if_pos (by omega)]; omega))) (fun h => And.intro (fun h2 => fin _ (by rw [if_neg (by omega), if_pos (by omega)])) (fun h2 => And.intro (fun h3 => ?_) (fun h3 => fin _ (by rw [if_neg (by omega), if_neg (by omega), if_neg (by omega)]))))))
  intro y1 e1
  rw [gPar_l hP h8 (by omega), cz_n (by omega)] at e1
  refine And.intro (by unfold qm_R; omega) (fin _ ?_)
  rw [if_neg (by omega), if_neg (by omega), if_pos (by omega), e1]
  omega
theorem en_C_text {T : qm_L} {n k : Nat} {w p u v : Nat → Nat} {d : Nat} {K : qm_K} {M : qm_M} {m : Int} {i : Int} (h :
    (m < 0 →
     K (.inl ((-1))) (qL T) M) ∧
    (¬ m < 0 →
     ((-1) ≤ i →
      (qLR M 4 n w p) ∧
      (M 0 10 ≠ 0 → qTn M n w p ∧ qMs M n w p) ∧
      (∀ (M2 : qm_M), (qTn M2 n w p ∧ qMs M2 n w p ∧ M2 0 10 ≠ 0 ∧ qcF M2 M) →
       ∀ (y3 : Int), y3 = (M2 4 2) →
       qm_R (4 * y3) ∧
       qm_R ((4 * y3) - 1) ∧
       ((0 ≤ m ∧ m < M2 47 1) →
        (i < ((4 * y3) - 1) →
         (i ≠ (-1) →
          (qInv n w p ∧ qTn M2 n w p ∧ qMs M2 n w p) ∧
          (k < cN n w p ∧ m = (k : Int)) ∧
          (∀ (M5 : qm_M), (qPR M5 53 n (mU n w p (bS (cE n w p k))) (mV n w p (bS (cE n w p k))) ∧ ∀ c, c ≠ 55 → M5 c = M2 c) →
           (qPR M5 53 n u v ∧ qMt n u v ∧ n ≤ 8) ∧
           (0 ≤ (i : Int) ∧ (i : Int) < 4 * (n : Int)) ∧
           (∀ (r6 : Int), (r6 = prT u i) →
            K (.inl r6) (qL T) M5))) ∧
         (¬ i ≠ (-1) →
          K (.inl (((4 * y3) - 1))) (qL T) M2)) ∧
        (¬ i < ((4 * y3) - 1) →
         K (.inl ((-2))) (qL T) M2)) ∧
       (¬ (0 ≤ m ∧ m < M2 47 1) →
        K (.inl ((-2))) (qL T) M2))) ∧
     (¬ (-1) ≤ i →
      K (.inl ((-1))) (qL T) M))) : qm_Runs qm_P (d + 7) 122 [(.inr (some 0)), (.inl m), (.inl i)] (qL T) M K :=
  And.intro (Nat.le_of_ble_eq_true rfl) (show qm_TT qi_122 (qm_Runs qm_P (d + 6)) K 0 [some (.inr (some 0)), some (.inl m), some (.inl i), none] [] (qL T) M 0 0 from qm_wp_TT [] 38 (And.intro (fun q8 => (h.1 q8)) (fun q9 => And.intro (fun q10 => And.intro (lo_0 T) (s_C_settle (d := d + 0)  (((h.2 q9).1 q10).1) (((h.2 q9).1 q10).2.1) (fun M2 p12 => Exists.intro 4 (And.intro (lf_0_1 T) (And.intro (lo_4 T) (s_Lists_each (d := d + 5) (lLs_4 T)  (And.intro ((((h.2 q9).1 q10).2.2 M2 p12) _ rfl).1 (And.intro ((((h.2 q9).1 q10).2.2 M2 p12) _ rfl).2.1 (Exists.intro 47 (And.intro (lf_0_6 T) (And.intro (lo_47 T) (s_Mat_isMatch (d := d + 5)   (And.intro (fun q13 => (((((h.2 q9).1 q10).2.2 M2 p12) _ rfl).2.2.2 (qm_b0 q13))) (fun q14 => And.intro (fun q15 => And.intro (fun q17 => Exists.intro 47 (And.intro (lf_0_6 T) (Exists.intro 25 (And.intro (lf_0_5 T) (And.intro (lo_47 T) (s_Mat_load (d := d + 1)  ((((((((h.2 q9).1 q10).2.2 M2 p12) _ rfl).2.2.1 (qm_b1 q14)).1 q15).1 q17).1) ((((((((h.2 q9).1 q10).2.2 M2 p12) _ rfl).2.2.1 (qm_b1 q14)).1 q15).1 q17).2.1) (fun M5 p19 => And.intro True.intro (s_C_printed (d := d + 3)  (((((((((h.2 q9).1 q10).2.2 M2 p12) _ rfl).2.2.1 (qm_b1 q14)).1 q15).1 q17).2.2 M5 p19).1) (((((((((h.2 q9).1 q10).2.2 M2 p12) _ rfl).2.2.1 (qm_b1 q14)).1 q15).1 q17).2.2 M5 p19).2.1) (fun r6 p20 => (((((((((h.2 q9).1 q10).2.2 M2 p12) _ rfl).2.2.1 (qm_b1 q14)).1 q15).1 q17).2.2 M5 p19).2.2 r6 p20)))))))))) (fun q18 => (((((((h.2 q9).1 q10).2.2 M2 p12) _ rfl).2.2.1 (qm_b1 q14)).1 q15).2 q18))) (fun q16 => ((((((h.2 q9).1 q10).2.2 M2 p12) _ rfl).2.2.1 (qm_b1 q14)).2 q16)))))))))))))))) (fun q11 => ((h.2 q9).2 q11)))))
theorem s_C_text {T : qm_L} {n : Nat} {w p : Nat → Nat} {d : Nat} {K : qm_K} {M : qm_M} {m : Int} {i : Int} (hp0 : qLR M 4 n w p) (hp1 : M 0 10 ≠ 0 → qTn M n w p ∧ qMs M n w p) (hK : ∀ (r : Int) (M2 : qm_M), (r = anText n w p m i ∧ (M2 0 10 ≠ 0 → qTn M2 n w p ∧ qMs M2 n w p) ∧ qcF M2 M) → K (.inl r) (qL T) M2) : qm_Runs qm_P (d + 7) 122 [(.inr (some 0)), (.inl m), (.inl i)] (qL T) M K := by
  have hI := hp0.2.2.2
  have h1 := hI.1
  have h8 := hI.2.1
  have h28 := (r_T hI).1
  have h4 := cN_le hI
  have self : qcF M M := fun _ _ _ _ => rfl
  have bad : ∀ r, r = anText n w p m i → K (.inl r) (qL T) M := fun r hr => hK r M ⟨hr, hp1, self⟩
  
  have no : (m < 0 ∨ i < -1) → K (.inl (-1)) (qL T) M := fun h => bad _ (by unfold anText; rw [if_pos h])
  refine en_C_text (n := n) (k := m.toNat) (w := w) (p := p) (u := mU n w p (bS (cE n w p m.toNat))) (v := mV n w p (bS (cE n w p m.toNat))) (And.intro (fun h => no (by omega)) (fun h => And.intro (fun h2 => And.intro hp0 (And.intro hp1 ?_)) (fun h2 => no (by omega))))
  intro M2 q2
  
  obtain ⟨t1, t2, t3, t4⟩ := q2
  have fin : ∀ r, r = anText n w p m i → K (.inl r) (qL T) M2 := fun r hr => hK r M2 ⟨hr, fun _ => ⟨t1, t2⟩, t4⟩
  have eT := t1.1
  have eN := t2.1.1
  
  unfold anText at fin
  rw [if_neg (by omega)] at fin
  intro y3 e3
  rw [qcF_c t4 (by decide) (by decide), hp0.1] at e3
  rw [eN]
  refine And.intro (by unfold qm_R; omega) (And.intro (by unfold qm_R; omega) (And.intro (fun h6 => And.intro (fun h7 => And.intro (fun h9 => And.intro ⟨hI, t1, t2⟩ (And.intro ⟨by omega, by omega⟩ ?_)) (fun h9 => fin _ (by rw [if_neg (by omega), if_pos (by omega)]; omega))) (fun h7 => fin _ (by rw [if_pos (by omega)]))) (fun h6 => fin _ (by rw [if_pos (by omega)]))))
  intro M4 q4
  obtain ⟨k1, k2, k3⟩ := ld_keep t1 t2 q4.2
  have hs := cE_spec (n := n) (w := w) (p := p) (m := m.toNat) (by omega)
  refine And.intro ⟨q4.1, m_qMt hI hs.2.1, h8⟩ (And.intro (by omega) ?_)
  intro r6 q6
  refine hK _ M4 ⟨?_, fun _ => ⟨k1, k2⟩, qcF_trans k3 t4⟩
  unfold anText
  rw [if_neg (by omega), if_neg (by omega), if_neg (by omega), q6]
  rfl
/-! the match by hand -/
theorem rNum_uq {n : Nat} {w p u : Nat → Nat} {r r2 : Int} (hI : qInv n w p) (h : rNum n w p u r) (h2 : rNum n w p u r2) : r = r2 := by
  rcases h with ⟨z, hz, hu, e⟩ | ⟨e, hn⟩
  · rw [e]; exact (rNum_of hI hz hu h2).symm
  · rcases h2 with ⟨z, hz, hu, _⟩ | ⟨e2, _⟩
    · exact absurd hu (hn z hz)
    · rw [e, e2]
/-- who blocks nobody has all -/
theorem nb_tot {n : Nat} {p u v : Nat → Nat} (hp : qPm n u v) (h8 : n ≤ 8) (hb : fbk n p u v = 99) : qMt n u v ∧ stab n p u v := by
  have hst : stab n p u v := fun l r hl hr hbk => by
    have : fbP n p u v (10 * l + r) := ⟨by omega, by omega, by rw [show (10 * l + r) / 10 = l by omega, show (10 * l + r) % 10 = r by omega]; exact hbk⟩
    exact lst_not (P := fbP n p u v) (N := 99) (k := 10 * l + r) (by unfold fbk at hb; omega) this
  have tot : ∀ a, a < n → u a < n := by
    intro a ha
    refine Classical.byContradiction fun hna => ?_
    have ha9 : u a = 9 := (hp.1 a ha).elim id (fun q => absurd q.1 hna)
    -- every right is somebody's
    have hall : ∀ b, b < n → v b < n := fun b hb2 => Classical.byContradiction fun q => by
      have hb9 : v b = 9 := (hp.2 b hb2).elim id (fun z => absurd z.1 q)
      exact hst a b ha hb2 ⟨by omega, Or.inl ha9, Or.inl hb9⟩
    have inj : ∀ x y, x < n → y < n → v x = v y → x = y := fun x y hx hy e => by
      have gx := (hp.2 x hx).elim (fun z => absurd (hall x hx) (by omega)) (fun z => z.2)
      have gy := (hp.2 y hy).elim (fun z => absurd (hall y hy) (by omega)) (fun z => z.2)
      rw [← gx, ← gy, e]
    obtain ⟨x, hx, e⟩ := pigeon n v hall inj a ha
    have gx := (hp.2 x hx).elim (fun z => absurd (hall x hx) (by omega)) (fun z => z.2)
    rw [e] at gx
    omega
  have tu : ∀ a, a < n → u a < n ∧ v (u a) = a := fun a ha => (hp.1 a ha).elim (fun z => absurd (tot a ha) (by omega)) id
  refine ⟨⟨tu, fun b hb2 => ?_⟩, hst⟩
  have inj : ∀ x y, x < n → y < n → u x = u y → x = y := fun x y hx hy e => by rw [← (tu x hx).2, ← (tu y hy).2, e]
  obtain ⟨x, hx, e⟩ := pigeon n u tot inj b hb2
  have := (tu x hx).2
  rw [e] at this
  rw [this]
  exact ⟨hx, e⟩
theorem bl_no {n : Nat} {w p u v : Nat → Nat} (hI : qInv n w p) (hp : qPm n u v) (hb : fbk n p u v ≠ 99) : ∀ z, cQ n w p z → ¬ ∀ a, a < n → mU n w p (bS z) a = u a := fun z hz hu => by
  have h8 := hI.2.1
  have hst := m_stab hI hz
  have hm := m_qMt hI hz
  have hl : fbk n p u v < 99 := (fbk_ok hb).2.2
  have hP := lst_P (P := fbP n p u v) hl
  obtain ⟨h1, h2, h3⟩ := hP
  have ev : ∀ b, b < n → v b = mV n w p (bS z) b := fun b hb2 => by
    have g := hm.2 b hb2
    have e := hu _ g.1
    rw [g.2] at e
    rcases hp.1 _ g.1 with q | q
    · rw [← e] at q; omega
    · rw [← e] at q; exact q.2
  refine hst _ _ h1 h2 ?_
  unfold blk at h3 ⊢
  rw [hu _ h1, ← ev _ h2]
  exact h3
theorem en_C_known {T : qm_L} {n z : Nat} {w p u v : Nat → Nat} {d : Nat} {K : qm_K} {M : qm_M}  (h :
    (qLR M 4 n w p) ∧
    (qPR M 56 n u v) ∧
    ∀ (y1 : Int), y1 = (cz (if fbk n p u v = 99 then 9 else fbk n p u v + 10) - (if fbk n p u v = 99 then 0 else 10)) →
    (y1 = (-1) →
     (qLR M 4 n w p) ∧
     (M 0 10 ≠ 0 → qTn M n w p ∧ qMs M n w p) ∧
     (∀ (M3 : qm_M), (qTn M3 n w p ∧ qMs M3 n w p ∧ M3 0 10 ≠ 0 ∧ qcF M3 M) →
      (qTn M3 n w p) ∧
      (qLR M3 4 n w p) ∧
      (qPR M3 56 n u v) ∧
      (qTot n u) ∧
      ∀ (y4 : Int), y4 = (bits (fun t => p (ix 0 (rL n w p t) (rU n w p t (rL n w p t))) < p (ix 0 (rL n w p t) (u (rL n w p t)))) (rT n w p) : Int) →
      (qInv n w p ∧ qMs M3 n w p) ∧
      (y4 = (z : Int)) ∧
      ∀ (y5 : Int), y5 = (@ite Int (cQ n w p z) (Classical.propDecidable _) (cC n w p z : Int) (-2)) →
      K (.inl y5) (qL T) M3)) ∧
    (¬ y1 = (-1) →
     K (.inl ((-2))) (qL T) M)) : qm_Runs qm_P (d + 7) 128 [(.inr (some 0))] (qL T) M K :=
  And.intro (Nat.le_of_ble_eq_true rfl) (show qm_TT qi_128 (qm_Runs qm_P (d + 6)) K 0 [some (.inr (some 0))] [] (qL T) M 0 0 from qm_wp_TT [] 23 (Exists.intro 4 (And.intro (lf_0_1 T) (Exists.intro 56 (And.intro (lf_0_7 T) (And.intro (lo_4 T) (s_Lists_firstBlock (d := d + 1) (lLs_4 T) (lPr_56 T) (h.1) (h.2.1) (And.intro (fun q6 => And.intro (lo_0 T) (s_C_settle (d := d + 0)  (((h.2.2 _ rfl).1 q6).1) (((h.2.2 _ rfl).1 q6).2.1) (fun M3 p8 => Exists.intro 47 (And.intro (lf_0_6 T) (Exists.intro 25 (And.intro (lf_0_5 T) (Exists.intro 56 (And.intro (lf_0_7 T) (Exists.intro 4 (And.intro (lf_0_1 T) (And.intro (lo_25 T) (s_Turns_behind (d := d + 3)  ((((h.2.2 _ rfl).1 q6).2.2 M3 p8).1) ((((h.2.2 _ rfl).1 q6).2.2 M3 p8).2.1) ((((h.2.2 _ rfl).1 q6).2.2 M3 p8).2.2.1) ((((h.2.2 _ rfl).1 q6).2.2 M3 p8).2.2.2.1) (And.intro (lo_47 T) (s_Mat_numberOf (d := d + 4)  (((((h.2.2 _ rfl).1 q6).2.2 M3 p8).2.2.2.2 _ rfl).1) (((((h.2.2 _ rfl).1 q6).2.2 M3 p8).2.2.2.2 _ rfl).2.1) ((((((h.2.2 _ rfl).1 q6).2.2 M3 p8).2.2.2.2 _ rfl).2.2 _ rfl)))))))))))))))) (fun q7 => ((h.2.2 _ rfl).2 q7))))))))))
theorem s_C_known {T : qm_L} {n : Nat} {w p u v : Nat → Nat} {d : Nat} {K : qm_K} {M : qm_M}  (hp0 : qLR M 4 n w p) (hp1 : M 0 10 ≠ 0 → qTn M n w p ∧ qMs M n w p) (hp2 : qPR M 56 n u v) (hK : ∀ (r : Int) (M2 : qm_M), (rNum n w p u r ∧ (M2 0 10 ≠ 0 → qTn M2 n w p ∧ qMs M2 n w p) ∧ qcF M2 M) → K (.inl r) (qL T) M2) : qm_Runs qm_P (d + 7) 128 [(.inr (some 0))] (qL T) M K := by
  have hI := hp0.2.2.2
  have h8 := hI.2.1
  refine en_C_known (n := n) (z := bits (fun t => p (ix 0 (rL n w p t) (rU n w p t (rL n w p t))) < p (ix 0 (rL n w p t) (u (rL n w p t)))) (rT n w p)) (w := w) (p := p) (u := u) (v := v) (And.intro hp0 (And.intro hp2 ?_))
  intro y1 e1
  refine And.intro (fun h => And.intro hp0 (And.intro hp1 ?_)) (fun h => hK _ M ⟨Or.inr ⟨rfl, bl_no hI hp2.2.2 ?_⟩, hp1, fun _ _ _ _ => rfl⟩)
  · have hb : fbk n p u v = 99 := by
      rcases fb_y e1 with q | q
      · exact q.1
      · omega
    obtain ⟨hMt, hst⟩ := nb_tot hp2.2.2 h8 hb
    intro M3 q3
    obtain ⟨t1, t2, t3, t4⟩ := q3
    refine And.intro t1 (And.intro (qLR_mem hp0 (qcF_c t4 (by decide) (by decide)) (qcF_c t4 (by decide) (by decide)) (qcF_c t4 (by decide) (by decide))) (And.intro (qPR_mem hp2 (qcF_c t4 (by decide) (by decide))) (And.intro (fun a ha => (hMt.1 a ha).1) ?_)))
    intro y4 e4
    refine And.intro ⟨hI, t2⟩ (And.intro e4 ?_)
    intro y5 e5
    obtain ⟨S, hS, hu⟩ := m_onto hI hMt hst
    have hz : bS (bits (fun t => p (ix 0 (rL n w p t) (rU n w p t (rL n w p t))) < p (ix 0 (rL n w p t) (u (rL n w p t)))) (rT n w p)) = S := S_ext (fun t => by
      unfold bS
      rw [bits_test]
      constructor
      · rintro ⟨ht, hlt⟩
        have hl := (r_lt ht).1
        refine (m_read hI hS ht (r_two hI hl).1).mpr ?_
        rw [hu _ hl]
        exact hlt
      · intro hSt
        have ht := hS.1 t hSt
        have hl := (r_lt ht).1
        have := (m_read hI hS ht (r_two hI hl).1).mp hSt
        rw [hu _ hl] at this
        exact ⟨ht, this⟩)
    have hc : cQ n w p (bits (fun t => p (ix 0 (rL n w p t) (rU n w p t (rL n w p t))) < p (ix 0 (rL n w p t) (u (rL n w p t)))) (rT n w p)) := by
      unfold cQ
      rw [hz]
      exact hS
    rw [if_pos hc] at e5
    refine hK _ M3 ⟨Or.inl ⟨_, hc, fun a ha => by rw [hz]; exact hu a ha, e5⟩, fun _ => ⟨t1, t2⟩, t4⟩
  · rcases fb_y e1 with q | q
    · exact absurd q.2 h
    · exact q.1
