/-! the class: questions -/
theorem qb_andn {a b c : Nat} (ha : a < 2147483648) (hb : b < 2147483648) (hc : ∀ t, c.testBit t = (a.testBit t && !b.testBit t)) : qm_and (a : Int) (qm_xor (b : Int) (-1)) = (c : Int) := by
  have e : qm_and (a : Int) (qm_xor (b : Int) (-1)) = ((Int32.ofInt (a : Int)).toBitVec &&& ~~~ (Int32.ofInt (b : Int)).toBitVec).toInt := by
    unfold qm_and qm_xor
    rw [Int32.ofInt_toInt]
    show (Int32.toBitVec _).toInt = _
    rw [Int32.toBitVec_and, Int32.toBitVec_xor]
    rw [show (Int32.ofInt (-1)).toBitVec = BitVec.allOnes 32 by decide, BitVec.xor_allOnes]
  have ha2 := i32_nat ha
  have hb2 := i32_nat hb
  have ga : ∀ i, (Int32.ofInt (a : Int)).toBitVec.getLsbD i = a.testBit i := fun i => by
    show Nat.testBit _ _ = _
    rw [ha2]
  have gb : ∀ i, (Int32.ofInt (b : Int)).toBitVec.getLsbD i = b.testBit i := fun i => by
    show Nat.testBit _ _ = _
    rw [hb2]
  have hca : c &&& a = c := Nat.eq_of_testBit_eq (fun t => by
    rw [Nat.testBit_and, hc]
    cases a.testBit t <;> simp)
  have hlt : c < 2147483648 := by rw [← hca]; exact Nat.lt_of_le_of_lt Nat.and_le_right ha
  have hv : ((Int32.ofInt (a : Int)).toBitVec &&& ~~~ (Int32.ofInt (b : Int)).toBitVec) = BitVec.ofNat 32 c := BitVec.eq_of_getLsbD_eq (fun i hi => by
    simp only [BitVec.getLsbD_and, BitVec.getLsbD_not, ga, gb, BitVec.getLsbD_ofNat, hc, hi]
    simp)
  have hn : (BitVec.ofNat 32 c).toNat = c := by rw [BitVec.toNat_ofNat]; exact Nat.mod_eq_of_lt (by omega)
  rw [e, hv, BitVec.toInt_eq_toNat_of_lt (by omega), hn]
theorem Ms_at {M : qm_M} {n m : Nat} {w p : Nat → Nat} (hI : qInv n w p) (h : qMs M n w p) (hm : m < cN n w p) : gRow M 49 4096 (m : Int) = (cE n w p m : Int) := by
  have := cN_le hI
  rw [gRow_in (by omega)]
  exact h.1.2 m hm
/-- a match was loaded -/
theorem ld_keep {M2 M4 : qm_M} {n : Nat} {w p : Nat → Nat} (t1 : qTn M2 n w p) (t2 : qMs M2 n w p) (e : ∀ c, c ≠ 55 → M4 c = M2 c) : qTn M4 n w p ∧ qMs M4 n w p ∧ qcF M4 M2 := ⟨qTn_mem t1 (e _ (by decide)) (e _ (by decide)) (e _ (by decide)) (e _ (by decide)) (e _ (by decide)) (e _ (by decide)) (e _ (by decide)), qMs_mem t2 (e _ (by decide)) (e _ (by decide)) (e _ (by decide)), fun c y q1 _ => by rw [e c (by omega)]⟩
theorem gPar_s {M : qm_M} {q n : Nat} {u v : Nat → Nat} {s a : Int} (h : qPR M q n u v) (hm : qMt n u v) (h8 : n ≤ 8) (hs : 0 ≤ s ∧ s ≤ 1) (ha : 0 ≤ a ∧ a < (n : Int)) : gPar M q s a = if s = 0 then (u a.toNat : Int) else (v a.toNat : Int) := by
  obtain ⟨a, rfl⟩ : ∃ b : Nat, a = (b : Int) := ⟨a.toNat, by omega⟩
  have h1 := (hm.1 a (by omega)).1
  have h2 := (hm.2 a (by omega)).1
  rw [Int.toNat_natCast]
  by_cases hs0 : s = 0
  · rw [hs0, if_pos rfl, gPar_l h h8 (by omega), cz_n (by omega)]
  · rw [if_neg hs0, show s = 1 by omega, gPar_r h h8 (by omega), cz_n (by omega)]
theorem en_C_best {T : qm_L} {n sg : Nat} {w p : Nat → Nat} {d : Nat} {K : qm_K} {M : qm_M} {s : Int} {e : Int} {j : Int} (h :
    ((0 ≤ s ∧ s ≤ 1) →
     ((0 ≤ e ∧ e < M 4 2) →
      (j < (-1) →
       K (.inl ((-1))) (qL T) M) ∧
      (¬ j < (-1) →
       (j ≤ 0 →
        ((4 = 4 ∨ 4 = 9) ∧ sg < 2 ∧ s = (sg : Int)) ∧
        (qLR M 4 n w p) ∧
        (∀ (M2 : qm_M), (qG M2 n w p sg (gN n w p sg) (gst n w p sg (gN n w p sg)).1 (gH n w p sg) ∧ (∀ c, c ≠ 17 → c ≠ 20 → c ≠ 22 → c ≠ 24 → M2 c = M c)) →
         (j ≠ 0 →
          ∀ (y3 : Int), y3 = (gPar M2 18 1 e) →
          K (.inl y3) (qL T) M2) ∧
         (¬ j ≠ 0 →
          ∀ (y4 : Int), y4 = (gPar M2 18 0 e) →
          K (.inl y4) (qL T) M2))) ∧
       (¬ j ≤ 0 →
        K (.inl ((-1))) (qL T) M))) ∧
     (¬ (0 ≤ e ∧ e < M 4 2) →
      K (.inl ((-1))) (qL T) M)) ∧
    (¬ (0 ≤ s ∧ s ≤ 1) →
     K (.inl ((-1))) (qL T) M)) : qm_Runs qm_P (d + 6) 105 [(.inr (some 0)), (.inl s), (.inl e), (.inl j)] (qL T) M K :=
  And.intro (Nat.le_of_ble_eq_true rfl) (show qm_TT qi_105 (qm_Runs qm_P (d + 5)) K 0 [some (.inr (some 0)), some (.inl s), some (.inl e), some (.inl j)] [] (qL T) M 0 0 from qm_wp_TT [] 31 (And.intro True.intro (s_C_isSide (d := d + 4)   (And.intro (fun q5 => (h.2 (qm_b0 q5))) (fun q6 => And.intro (lo_0 T) (s_C_isOne (d := d + 3)   (And.intro (fun q7 => ((h.1 (qm_b1 q6)).2 (qm_b0 q7))) (fun q8 => And.intro (fun q9 => (((h.1 (qm_b1 q6)).1 (qm_b1 q8)).1 q9)) (fun q10 => And.intro (fun q11 => Exists.intro 17 (And.intro (lf_0_4 T) (Exists.intro 4 (And.intro (lf_0_1 T) (And.intro (lo_17 T) (s_Ask_run (d := d + 0) (lLs_4 T) (((((h.1 (qm_b1 q6)).1 (qm_b1 q8)).2 q10).1 q11).1) (((((h.1 (qm_b1 q6)).1 (qm_b1 q8)).2 q10).1 q11).2.1) (fun M2 p13 => Exists.intro 17 (And.intro (lf_0_4 T) (And.intro (lo_17 T) (s_Ask_outcome (d := d + 4)   (And.intro (fun q14 => And.intro (lo_18 T) (s_Pair_partner (d := d + 3) (lPr_18 T)  ((((((((h.1 (qm_b1 q6)).1 (qm_b1 q8)).2 q10).1 q11).2.2 M2 p13).1 q14) _ rfl)))) (fun q15 => And.intro (lo_18 T) (s_Pair_partner (d := d + 3) (lPr_18 T)  ((((((((h.1 (qm_b1 q6)).1 (qm_b1 q8)).2 q10).1 q11).2.2 M2 p13).2 q15) _ rfl))))))))))))))) (fun q12 => ((((h.1 (qm_b1 q6)).1 (qm_b1 q8)).2 q10).2 q12)))))))))))
theorem s_C_best {T : qm_L} {n : Nat} {w p : Nat → Nat} {d : Nat} {K : qm_K} {M : qm_M} {s : Int} {e : Int} {j : Int} (hp0 : qLR M 4 n w p) (hp1 : M 0 10 ≠ 0 → qTn M n w p ∧ qMs M n w p) (hK : ∀ (r : Int) (M2 : qm_M), (r = anBest n w p s e j ∧ (M2 0 10 ≠ 0 → qTn M2 n w p ∧ qMs M2 n w p) ∧ qcF M2 M) → K (.inl r) (qL T) M2) : qm_Runs qm_P (d + 6) 105 [(.inr (some 0)), (.inl s), (.inl e), (.inl j)] (qL T) M K := by
  have hI := hp0.2.2.2
  have h1 := hI.1
  have h8 := hI.2.1
  have h28 := (r_T hI).1
  have h4 := cN_le hI
  have self : qcF M M := fun _ _ _ _ => rfl
  have bad : ∀ r, r = anBest n w p s e j → K (.inl r) (qL T) M := fun r hr => hK r M ⟨hr, hp1, self⟩
  
  have no : (s < 0 ∨ 1 < s ∨ e < 0 ∨ (n : Int) ≤ e ∨ j < -1 ∨ 0 < j) → K (.inl (-1)) (qL T) M := fun h => bad _ (by unfold anBest; rw [if_pos h])
  refine en_C_best (n := n) (sg := s.toNat) (w := w) (p := p) ?_
  rw [hp0.1]
  refine And.intro (fun h => And.intro (fun h2 => And.intro (fun h3 => no (by omega)) (fun h3 => And.intro (fun h4 => And.intro ⟨Or.inl rfl, by omega, by omega⟩ (And.intro hp0 ?_)) (fun h4 => no (by omega)))) (fun h2 => no (by omega))) (fun h => no (by omega))
  intro M2 q
  have ca : ∀ c, c < 17 ∨ 24 < c → M2 c = M c := fun c hc => q.2 c (by omega) (by omega) (by omega) (by omega)
  have fin : ∀ r, r = anBest n w p s e j → K (.inl r) (qL T) M2 := fun r hr => hK r M2 ⟨hr, fun z => by
    rw [ca 0 (by decide)] at z
    exact ⟨qTn_mem (hp1 z).1 (ca _ (by decide)) (ca _ (by decide)) (ca _ (by decide)) (ca _ (by decide)) (ca _ (by decide)) (ca _ (by decide)) (ca _ (by decide)), qMs_mem (hp1 z).2 (ca _ (by decide)) (ca _ (by decide)) (ca _ (by decide))⟩, fun c y g1 _ => by rw [ca c (by omega)]⟩
  unfold anBest at fin
  rw [if_neg (by omega)] at fin
  have hP : qPR M2 18 n (bsU n w p s.toNat) (bsV n w p s.toNat) := by
    unfold bsU bsV
    have : s.toNat = 0 ∨ s.toNat = 1 := by omega
    rcases this with z | z
    · rw [if_pos z, if_pos z]; have := q.1.1.1 z; rw [z] at this; exact this
    · rw [if_neg (by omega), if_neg (by omega)]; have := q.1.1.2 z; rw [z] at this; exact this
  have hMt := bs_Mt (sg := s.toNat) hI
  refine And.intro (fun h5 => ?_) (fun h5 => ?_)
  · intro y3 e3
    rw [gPar_s hP hMt h8 (by decide) ⟨h2.1, h2.2⟩, if_neg (by decide)] at e3
    exact fin _ (by rw [if_neg h5, e3])
  · intro y4 e4
    rw [gPar_s hP hMt h8 (by decide) ⟨h2.1, h2.2⟩, if_pos rfl] at e4
    exact fin _ (by rw [if_pos (Classical.not_not.mp h5), e4])
theorem en_C_asking {T : qm_L} {n sg : Nat} {w p : Nat → Nat} {d : Nat} {K : qm_K} {M : qm_M} {s : Int} {t : Int} (h :
    ((0 ≤ s ∧ s ≤ 1) →
     ((-1) ≤ t →
      ((4 = 4 ∨ 4 = 9) ∧ sg < 2 ∧ s = (sg : Int)) ∧
      (qLR M 4 n w p) ∧
      (∀ (M2 : qm_M), (qG M2 n w p sg (gN n w p sg) (gst n w p sg (gN n w p sg)).1 (gH n w p sg) ∧ (∀ c, c ≠ 17 → c ≠ 20 → c ≠ 22 → c ≠ 24 → M2 c = M c)) →
       (t ≠ (-1) →
        ∀ (y3 : Int), y3 = (M2 17 3) →
        (y3 ≤ t →
         K (.inl ((-2))) (qL T) M2) ∧
        (¬ y3 ≤ t →
         ∀ (y4 : Int), y4 = (gRow M2 24 64 t) →
         K (.inl y4) (qL T) M2)) ∧
       (¬ t ≠ (-1) →
        ∀ (y5 : Int), y5 = (M2 17 3) →
        K (.inl y5) (qL T) M2))) ∧
     (¬ (-1) ≤ t →
      K (.inl ((-1))) (qL T) M)) ∧
    (¬ (0 ≤ s ∧ s ≤ 1) →
     K (.inl ((-1))) (qL T) M)) : qm_Runs qm_P (d + 6) 106 [(.inr (some 0)), (.inl s), (.inl t)] (qL T) M K :=
  And.intro (Nat.le_of_ble_eq_true rfl) (show qm_TT qi_106 (qm_Runs qm_P (d + 5)) K 0 [some (.inr (some 0)), some (.inl s), some (.inl t)] [] (qL T) M 0 0 from qm_wp_TT [] 29 (And.intro True.intro (s_C_isSide (d := d + 4)   (And.intro (fun q6 => (h.2 (qm_b0 q6))) (fun q7 => And.intro (fun q8 => Exists.intro 17 (And.intro (lf_0_4 T) (Exists.intro 4 (And.intro (lf_0_1 T) (And.intro (lo_17 T) (s_Ask_run (d := d + 0) (lLs_4 T) (((h.1 (qm_b1 q7)).1 q8).1) (((h.1 (qm_b1 q7)).1 q8).2.1) (fun M2 p10 => And.intro (fun q11 => Exists.intro 17 (And.intro (lf_0_4 T) (And.intro (lo_17 T) (s_Ask_times (d := d + 4)   (And.intro (fun q13 => ((((((h.1 (qm_b1 q7)).1 q8).2.2 M2 p10).1 q11) _ rfl).1 q13)) (fun q14 => Exists.intro 17 (And.intro (lf_0_4 T) (And.intro (lo_17 T) (s_Ask_told (d := d + 3)   ((((((((h.1 (qm_b1 q7)).1 q8).2.2 M2 p10).1 q11) _ rfl).2 q14) _ rfl))))))))))) (fun q12 => Exists.intro 17 (And.intro (lf_0_4 T) (And.intro (lo_17 T) (s_Ask_times (d := d + 4)   ((((((h.1 (qm_b1 q7)).1 q8).2.2 M2 p10).2 q12) _ rfl))))))))))))) (fun q9 => ((h.1 (qm_b1 q7)).2 q9)))))))
theorem s_C_asking {T : qm_L} {n : Nat} {w p : Nat → Nat} {d : Nat} {K : qm_K} {M : qm_M} {s : Int} {t : Int} (hp0 : qLR M 4 n w p) (hp1 : M 0 10 ≠ 0 → qTn M n w p ∧ qMs M n w p) (hK : ∀ (r : Int) (M2 : qm_M), (r = anAsking n w p s t ∧ (M2 0 10 ≠ 0 → qTn M2 n w p ∧ qMs M2 n w p) ∧ qcF M2 M) → K (.inl r) (qL T) M2) : qm_Runs qm_P (d + 6) 106 [(.inr (some 0)), (.inl s), (.inl t)] (qL T) M K := by
  have hI := hp0.2.2.2
  have h1 := hI.1
  have h8 := hI.2.1
  have h28 := (r_T hI).1
  have h4 := cN_le hI
  have self : qcF M M := fun _ _ _ _ => rfl
  have bad : ∀ r, r = anAsking n w p s t → K (.inl r) (qL T) M := fun r hr => hK r M ⟨hr, hp1, self⟩
  
  have no : (s < 0 ∨ 1 < s ∨ t < -1) → K (.inl (-1)) (qL T) M := fun h => bad _ (by unfold anAsking; rw [if_pos h])
  refine en_C_asking (n := n) (sg := s.toNat) (w := w) (p := p) (And.intro (fun h => And.intro (fun h2 => And.intro ⟨Or.inl rfl, by omega, by omega⟩ (And.intro hp0 ?_)) (fun h2 => no (by omega))) (fun h => no (by omega)))
  intro M2 q
  have ca : ∀ c, c < 17 ∨ 24 < c → M2 c = M c := fun c hc => q.2 c (by omega) (by omega) (by omega) (by omega)
  have fin : ∀ r, r = anAsking n w p s t → K (.inl r) (qL T) M2 := fun r hr => hK r M2 ⟨hr, fun z => by
    rw [ca 0 (by decide)] at z
    exact ⟨qTn_mem (hp1 z).1 (ca _ (by decide)) (ca _ (by decide)) (ca _ (by decide)) (ca _ (by decide)) (ca _ (by decide)) (ca _ (by decide)) (ca _ (by decide)), qMs_mem (hp1 z).2 (ca _ (by decide)) (ca _ (by decide)) (ca _ (by decide))⟩, fun c y g1 _ => by rw [ca c (by omega)]⟩
  unfold anAsking at fin
  rw [if_neg (by omega)] at fin
  have hN := gN_le hI (s := s.toNat) (by omega)
  refine And.intro (fun h5 => ?_) (fun h5 => ?_)
  · intro y3 e3
    rw [q.1.2.2.1] at e3
    refine And.intro (fun h6 => fin _ (by rw [if_neg (by omega), if_neg (by omega)])) (fun h6 => ?_)
    intro y4 e4
    obtain ⟨t, rfl⟩ : ∃ b : Nat, t = (b : Int) := ⟨t.toNat, by omega⟩
    rw [gRow_in (by omega), q.1.2.2.2 t (by omega)] at e4
    exact fin _ (by rw [if_neg (by omega), if_pos (by omega), e4, Int.toNat_natCast])
  · intro y5 e5
    rw [q.1.2.2.1] at e5
    exact fin _ (by rw [if_pos (by omega), e5])
theorem en_C_rounds {T : qm_L} {n : Nat} {w p : Nat → Nat} {d : Nat} {K : qm_K} {M : qm_M} {t : Int} (h :
    ((-1) ≤ t →
     (qLR M 4 n w p) ∧
     (M 0 10 ≠ 0 → qTn M n w p ∧ qMs M n w p) ∧
     (∀ (M2 : qm_M), (qTn M2 n w p ∧ qMs M2 n w p ∧ M2 0 10 ≠ 0 ∧ qcF M2 M) →
      (t ≠ (-1) →
       ((0 ≤ t ∧ t < M2 25 6) →
        ∀ (y3 : Int), y3 = (gRow M2 31 28 t) →
        K (.inl y3) (qL T) M2) ∧
       (¬ (0 ≤ t ∧ t < M2 25 6) →
        K (.inl ((-2))) (qL T) M2)) ∧
      (¬ t ≠ (-1) →
       ∀ (y4 : Int), y4 = (M2 25 6) →
       K (.inl y4) (qL T) M2))) ∧
    (¬ (-1) ≤ t →
     K (.inl ((-1))) (qL T) M)) : qm_Runs qm_P (d + 7) 107 [(.inr (some 0)), (.inl t)] (qL T) M K :=
  And.intro (Nat.le_of_ble_eq_true rfl) (show qm_TT qi_107 (qm_Runs qm_P (d + 6)) K 0 [some (.inr (some 0)), some (.inl t)] [] (qL T) M 0 0 from qm_wp_TT [] 22 (And.intro (fun q5 => And.intro (lo_0 T) (s_C_settle (d := d + 0)  ((h.1 q5).1) ((h.1 q5).2.1) (fun M2 p7 => And.intro (fun q8 => Exists.intro 25 (And.intro (lf_0_5 T) (And.intro (lo_25 T) (s_Turns_isTurn (d := d + 5)   (And.intro (fun q10 => ((((h.1 q5).2.2 M2 p7).1 q8).2 (qm_b0 q10))) (fun q11 => Exists.intro 25 (And.intro (lf_0_5 T) (And.intro (lo_25 T) (s_Turns_length (d := d + 4)   ((((((h.1 q5).2.2 M2 p7).1 q8).1 (qm_b1 q11)) _ rfl))))))))))) (fun q9 => Exists.intro 25 (And.intro (lf_0_5 T) (And.intro (lo_25 T) (s_Turns_total (d := d + 5)   (((((h.1 q5).2.2 M2 p7).2 q9) _ rfl))))))))) (fun q6 => (h.2 q6))))
theorem s_C_rounds {T : qm_L} {n : Nat} {w p : Nat → Nat} {d : Nat} {K : qm_K} {M : qm_M} {t : Int} (hp0 : qLR M 4 n w p) (hp1 : M 0 10 ≠ 0 → qTn M n w p ∧ qMs M n w p) (hK : ∀ (r : Int) (M2 : qm_M), (r = anRounds n w p t ∧ (M2 0 10 ≠ 0 → qTn M2 n w p ∧ qMs M2 n w p) ∧ qcF M2 M) → K (.inl r) (qL T) M2) : qm_Runs qm_P (d + 7) 107 [(.inr (some 0)), (.inl t)] (qL T) M K := by
  have hI := hp0.2.2.2
  have h1 := hI.1
  have h8 := hI.2.1
  have h28 := (r_T hI).1
  have h4 := cN_le hI
  have self : qcF M M := fun _ _ _ _ => rfl
  have bad : ∀ r, r = anRounds n w p t → K (.inl r) (qL T) M := fun r hr => hK r M ⟨hr, hp1, self⟩
  
  refine en_C_rounds (n := n) (w := w) (p := p) (And.intro (fun h => And.intro hp0 (And.intro hp1 ?_)) (fun h => bad _ (by unfold anRounds; rw [if_pos (by omega)])))
  intro M2 q2
  
  obtain ⟨t1, t2, t3, t4⟩ := q2
  have fin : ∀ r, r = anRounds n w p t → K (.inl r) (qL T) M2 := fun r hr => hK r M2 ⟨hr, fun _ => ⟨t1, t2⟩, t4⟩
  have eT := t1.1
  have eN := t2.1.1
  
  unfold anRounds at fin
  rw [if_neg (by omega)] at fin
  rw [eT]
  refine And.intro (fun h5 => And.intro (fun h6 => ?_) (fun h6 => fin _ (by rw [if_neg (by omega), if_neg (by omega)]))) (fun h5 => ?_)
  · intro y3 e3
    obtain ⟨t, rfl⟩ : ∃ b : Nat, t = (b : Int) := ⟨t.toNat, by omega⟩
    rw [Td_len (t1.2 t (by omega)).1 (by omega)] at e3
    exact fin _ (by rw [if_neg (by omega), if_pos (by omega), e3, Int.toNat_natCast])
  · intro y4 e4
    exact fin _ (by rw [if_pos (by omega), e4])
theorem en_C_pair {T : qm_L} {n : Nat} {w p : Nat → Nat} {d : Nat} {K : qm_K} {M : qm_M} {t : Int} {j : Int} (h :
    (t < 0 →
     K (.inl ((-1))) (qL T) M) ∧
    (¬ t < 0 →
     (0 ≤ j →
      (qLR M 4 n w p) ∧
      (M 0 10 ≠ 0 → qTn M n w p ∧ qMs M n w p) ∧
      (∀ (M2 : qm_M), (qTn M2 n w p ∧ qMs M2 n w p ∧ M2 0 10 ≠ 0 ∧ qcF M2 M) →
       ((0 ≤ t ∧ t < M2 25 6) →
        ∀ (y3 : Int), y3 = (gRow M2 31 28 t) →
        (j < y3 →
         (0 ≤ t ∧ t ≤ 1000 ∧ 0 ≤ j ∧ j ≤ 1000) ∧
         ∀ (y4 : Int), y4 = (gRow M2 27 224 (t * 8 + j)) →
         qm_R (10 * y4) ∧
         (0 ≤ t ∧ t ≤ 1000 ∧ 0 ≤ j ∧ j ≤ 1000) ∧
         ∀ (y5 : Int), y5 = (gRow M2 29 224 (t * 8 + j)) →
         qm_R ((10 * y4) + y5) ∧
         K (.inl (((10 * y4) + y5))) (qL T) M2) ∧
        (¬ j < y3 →
         K (.inl ((-2))) (qL T) M2)) ∧
       (¬ (0 ≤ t ∧ t < M2 25 6) →
        K (.inl ((-2))) (qL T) M2))) ∧
     (¬ 0 ≤ j →
      K (.inl ((-1))) (qL T) M))) : qm_Runs qm_P (d + 7) 108 [(.inr (some 0)), (.inl t), (.inl j)] (qL T) M K :=
  And.intro (Nat.le_of_ble_eq_true rfl) (show qm_TT qi_108 (qm_Runs qm_P (d + 6)) K 0 [some (.inr (some 0)), some (.inl t), some (.inl j)] [] (qL T) M 0 0 from qm_wp_TT [] 34 (And.intro (fun q6 => (h.1 q6)) (fun q7 => And.intro (fun q8 => And.intro (lo_0 T) (s_C_settle (d := d + 0)  (((h.2 q7).1 q8).1) (((h.2 q7).1 q8).2.1) (fun M2 p10 => Exists.intro 25 (And.intro (lf_0_5 T) (And.intro (lo_25 T) (s_Turns_isTurn (d := d + 5)   (And.intro (fun q11 => ((((h.2 q7).1 q8).2.2 M2 p10).2 (qm_b0 q11))) (fun q12 => Exists.intro 25 (And.intro (lf_0_5 T) (And.intro (lo_25 T) (s_Turns_length (d := d + 4)   (And.intro (fun q13 => Exists.intro 25 (And.intro (lf_0_5 T) (And.intro (lo_25 T) (s_Turns_left (d := d + 4)  (((((((h.2 q7).1 q8).2.2 M2 p10).1 (qm_b1 q12)) _ rfl).1 q13).1) (And.intro (((((((h.2 q7).1 q8).2.2 M2 p10).1 (qm_b1 q12)) _ rfl).1 q13).2 _ rfl).1 (Exists.intro 25 (And.intro (lf_0_5 T) (And.intro (lo_25 T) (s_Turns_right (d := d + 4)  ((((((((h.2 q7).1 q8).2.2 M2 p10).1 (qm_b1 q12)) _ rfl).1 q13).2 _ rfl).2.1) (And.intro ((((((((h.2 q7).1 q8).2.2 M2 p10).1 (qm_b1 q12)) _ rfl).1 q13).2 _ rfl).2.2 _ rfl).1 (((((((((h.2 q7).1 q8).2.2 M2 p10).1 (qm_b1 q12)) _ rfl).1 q13).2 _ rfl).2.2 _ rfl).2))))))))))) (fun q14 => ((((((h.2 q7).1 q8).2.2 M2 p10).1 (qm_b1 q12)) _ rfl).2 q14)))))))))))))) (fun q9 => ((h.2 q7).2 q9)))))
theorem s_C_pair {T : qm_L} {n : Nat} {w p : Nat → Nat} {d : Nat} {K : qm_K} {M : qm_M} {t : Int} {j : Int} (hp0 : qLR M 4 n w p) (hp1 : M 0 10 ≠ 0 → qTn M n w p ∧ qMs M n w p) (hK : ∀ (r : Int) (M2 : qm_M), (r = anPair n w p t j ∧ (M2 0 10 ≠ 0 → qTn M2 n w p ∧ qMs M2 n w p) ∧ qcF M2 M) → K (.inl r) (qL T) M2) : qm_Runs qm_P (d + 7) 108 [(.inr (some 0)), (.inl t), (.inl j)] (qL T) M K := by
  have hI := hp0.2.2.2
  have h1 := hI.1
  have h8 := hI.2.1
  have h28 := (r_T hI).1
  have h4 := cN_le hI
  have self : qcF M M := fun _ _ _ _ => rfl
  have bad : ∀ r, r = anPair n w p t j → K (.inl r) (qL T) M := fun r hr => hK r M ⟨hr, hp1, self⟩
  
  have no : (t < 0 ∨ j < 0) → K (.inl (-1)) (qL T) M := fun h => bad _ (by unfold anPair; rw [if_pos h])
  refine en_C_pair (n := n) (w := w) (p := p) (And.intro (fun h => no (Or.inl h)) (fun h => And.intro (fun h2 => And.intro hp0 (And.intro hp1 ?_)) (fun h2 => no (by omega))))
  intro M2 q2
  
  obtain ⟨t1, t2, t3, t4⟩ := q2
  have fin : ∀ r, r = anPair n w p t j → K (.inl r) (qL T) M2 := fun r hr => hK r M2 ⟨hr, fun _ => ⟨t1, t2⟩, t4⟩
  have eT := t1.1
  have eN := t2.1.1
  
  unfold anPair at fin
  rw [if_neg (by omega)] at fin
  rw [eT]
  refine And.intro (fun h5 => ?_) (fun h5 => fin _ (by rw [if_neg (by omega)]))
  obtain ⟨t, rfl⟩ : ∃ b : Nat, t = (b : Int) := ⟨t.toNat, by omega⟩
  obtain ⟨j, rfl⟩ : ∃ b : Nat, j = (b : Int) := ⟨j.toNat, by omega⟩
  have hT := (t1.2 t (by omega)).1
  have hlt := (T_lt hI (show t < rT n w p by omega)).2
  have hlen := rlen_ok hI hlt
  intro y3 e3
  rw [Td_len hT (by omega)] at e3
  rw [Int.toNat_natCast, Int.toNat_natCast] at fin
  refine And.intro (fun h6 => And.intro (by omega) ?_) (fun h6 => fin _ (by rw [if_neg (by omega)]))
  intro y4 e4
  rw [Td_left hT (by omega) (by omega) (by omega)] at e4
  have hl2 : rle n w p t j < 8 := by
    have := rle_lt hI hlt (k := j)
    omega
  refine And.intro (by unfold qm_R; omega) (And.intro (by omega) ?_)
  intro y5 e5
  rw [Td_right hT (by omega) (by omega) (by omega)] at e5
  have hr2 : rri n w p t j < 8 := by
    have := (rle_lt hI hlt j).2
    omega
  refine And.intro (by unfold qm_R; omega) (fin _ ?_)
  rw [if_pos (by omega), e4, e5]
  unfold rPk
  omega
theorem en_C_ahead {T : qm_L} {n : Nat} {w p : Nat → Nat} {d : Nat} {K : qm_K} {M : qm_M} {t : Int} (h :
    (0 ≤ t →
     (qLR M 4 n w p) ∧
     (M 0 10 ≠ 0 → qTn M n w p ∧ qMs M n w p) ∧
     (∀ (M2 : qm_M), (qTn M2 n w p ∧ qMs M2 n w p ∧ M2 0 10 ≠ 0 ∧ qcF M2 M) →
      ((0 ≤ t ∧ t < M2 25 6) →
       ∀ (y3 : Int), y3 = (gRow M2 35 28 t) →
       K (.inl y3) (qL T) M2) ∧
      (¬ (0 ≤ t ∧ t < M2 25 6) →
       K (.inl ((-2))) (qL T) M2))) ∧
    (¬ 0 ≤ t →
     K (.inl ((-1))) (qL T) M)) : qm_Runs qm_P (d + 7) 109 [(.inr (some 0)), (.inl t)] (qL T) M K :=
  And.intro (Nat.le_of_ble_eq_true rfl) (show qm_TT qi_109 (qm_Runs qm_P (d + 6)) K 0 [some (.inr (some 0)), some (.inl t)] [] (qL T) M 0 0 from qm_wp_TT [] 18 (And.intro (fun q4 => And.intro (lo_0 T) (s_C_settle (d := d + 0)  ((h.1 q4).1) ((h.1 q4).2.1) (fun M2 p6 => Exists.intro 25 (And.intro (lf_0_5 T) (And.intro (lo_25 T) (s_Turns_isTurn (d := d + 5)   (And.intro (fun q7 => (((h.1 q4).2.2 M2 p6).2 (qm_b0 q7))) (fun q8 => Exists.intro 25 (And.intro (lf_0_5 T) (And.intro (lo_25 T) (s_Turns_needs (d := d + 4)   (((((h.1 q4).2.2 M2 p6).1 (qm_b1 q8)) _ rfl))))))))))))) (fun q5 => (h.2 q5))))
theorem s_C_ahead {T : qm_L} {n : Nat} {w p : Nat → Nat} {d : Nat} {K : qm_K} {M : qm_M} {t : Int} (hp0 : qLR M 4 n w p) (hp1 : M 0 10 ≠ 0 → qTn M n w p ∧ qMs M n w p) (hK : ∀ (r : Int) (M2 : qm_M), (r = anAhead n w p t ∧ (M2 0 10 ≠ 0 → qTn M2 n w p ∧ qMs M2 n w p) ∧ qcF M2 M) → K (.inl r) (qL T) M2) : qm_Runs qm_P (d + 7) 109 [(.inr (some 0)), (.inl t)] (qL T) M K := by
  have hI := hp0.2.2.2
  have h1 := hI.1
  have h8 := hI.2.1
  have h28 := (r_T hI).1
  have h4 := cN_le hI
  have self : qcF M M := fun _ _ _ _ => rfl
  have bad : ∀ r, r = anAhead n w p t → K (.inl r) (qL T) M := fun r hr => hK r M ⟨hr, hp1, self⟩
  
  refine en_C_ahead (n := n) (w := w) (p := p) (And.intro (fun h => And.intro hp0 (And.intro hp1 ?_)) (fun h => bad _ (by unfold anAhead; rw [if_pos (by omega)])))
  intro M2 q2
  
  obtain ⟨t1, t2, t3, t4⟩ := q2
  have fin : ∀ r, r = anAhead n w p t → K (.inl r) (qL T) M2 := fun r hr => hK r M2 ⟨hr, fun _ => ⟨t1, t2⟩, t4⟩
  have eT := t1.1
  have eN := t2.1.1
  
  unfold anAhead at fin
  rw [if_neg (by omega)] at fin
  rw [eT]
  refine And.intro (fun h6 => ?_) (fun h6 => fin _ (by rw [if_neg (by omega)]))
  intro y3 e3
  obtain ⟨t, rfl⟩ : ∃ b : Nat, t = (b : Int) := ⟨t.toNat, by omega⟩
  rw [Td_needs (t1.2 t (by omega)) (by omega)] at e3
  exact fin _ (by rw [if_pos (by omega), e3, Int.toNat_natCast])
theorem en_C_of {T : qm_L} {n : Nat} {w p : Nat → Nat} {d : Nat} {K : qm_K} {M : qm_M} {t : Int} {j : Int} (h :
    (t < 0 →
     K (.inl ((-1))) (qL T) M) ∧
    (¬ t < 0 →
     (j < 0 →
      K (.inl ((-1))) (qL T) M) ∧
     (¬ j < 0 →
      (j ≤ 1 →
       (qLR M 4 n w p) ∧
       (M 0 10 ≠ 0 → qTn M n w p ∧ qMs M n w p) ∧
       (∀ (M2 : qm_M), (qTn M2 n w p ∧ qMs M2 n w p ∧ M2 0 10 ≠ 0 ∧ qcF M2 M) →
        ((0 ≤ t ∧ t < M2 25 6) →
         (j ≠ 0 →
          ∀ (y3 : Int), y3 = (gRow M2 33 28 t) →
          qm_R (1000 + y3) ∧
          K (.inl ((1000 + y3))) (qL T) M2) ∧
         (¬ j ≠ 0 →
          ∀ (y4 : Int), y4 = (gRow M2 37 28 t) →
          K (.inl y4) (qL T) M2)) ∧
        (¬ (0 ≤ t ∧ t < M2 25 6) →
         K (.inl ((-2))) (qL T) M2))) ∧
      (¬ j ≤ 1 →
       K (.inl ((-1))) (qL T) M)))) : qm_Runs qm_P (d + 7) 110 [(.inr (some 0)), (.inl t), (.inl j)] (qL T) M K :=
  And.intro (Nat.le_of_ble_eq_true rfl) (show qm_TT qi_110 (qm_Runs qm_P (d + 6)) K 0 [some (.inr (some 0)), some (.inl t), some (.inl j)] [] (qL T) M 0 0 from qm_wp_TT [] 26 (And.intro (fun q5 => (h.1 q5)) (fun q6 => And.intro (fun q7 => ((h.2 q6).1 q7)) (fun q8 => And.intro (fun q9 => And.intro (lo_0 T) (s_C_settle (d := d + 0)  ((((h.2 q6).2 q8).1 q9).1) ((((h.2 q6).2 q8).1 q9).2.1) (fun M2 p11 => Exists.intro 25 (And.intro (lf_0_5 T) (And.intro (lo_25 T) (s_Turns_isTurn (d := d + 5)   (And.intro (fun q12 => And.intro (fun q14 => Exists.intro 25 (And.intro (lf_0_5 T) (And.intro (lo_25 T) (s_Turns_gain (d := d + 4)   (And.intro (((((((h.2 q6).2 q8).1 q9).2.2 M2 p11).1 (qm_b1 q12)).1 q14) _ rfl).1 ((((((((h.2 q6).2 q8).1 q9).2.2 M2 p11).1 (qm_b1 q12)).1 q14) _ rfl).2)))))) (fun q15 => Exists.intro 25 (And.intro (lf_0_5 T) (And.intro (lo_25 T) (s_Turns_depth (d := d + 4)   ((((((((h.2 q6).2 q8).1 q9).2.2 M2 p11).1 (qm_b1 q12)).2 q15) _ rfl))))))) (fun q13 => (((((h.2 q6).2 q8).1 q9).2.2 M2 p11).2 (qm_b2 q13)))))))))) (fun q10 => (((h.2 q6).2 q8).2 q10))))))
theorem s_C_of {T : qm_L} {n : Nat} {w p : Nat → Nat} {d : Nat} {K : qm_K} {M : qm_M} {t : Int} {j : Int} (hp0 : qLR M 4 n w p) (hp1 : M 0 10 ≠ 0 → qTn M n w p ∧ qMs M n w p) (hK : ∀ (r : Int) (M2 : qm_M), (r = anOf n w p t j ∧ (M2 0 10 ≠ 0 → qTn M2 n w p ∧ qMs M2 n w p) ∧ qcF M2 M) → K (.inl r) (qL T) M2) : qm_Runs qm_P (d + 7) 110 [(.inr (some 0)), (.inl t), (.inl j)] (qL T) M K := by
  have hI := hp0.2.2.2
  have h1 := hI.1
  have h8 := hI.2.1
  have h28 := (r_T hI).1
  have h4 := cN_le hI
  have self : qcF M M := fun _ _ _ _ => rfl
  have bad : ∀ r, r = anOf n w p t j → K (.inl r) (qL T) M := fun r hr => hK r M ⟨hr, hp1, self⟩
  
  have no : (t < 0 ∨ j < 0 ∨ 1 < j) → K (.inl (-1)) (qL T) M := fun h => bad _ (by unfold anOf; rw [if_pos h])
  refine en_C_of (n := n) (w := w) (p := p) (And.intro (fun h => no (by omega)) (fun h => And.intro (fun h2 => no (by omega)) (fun h2 => And.intro (fun h3 => And.intro hp0 (And.intro hp1 ?_)) (fun h3 => no (by omega)))))
  intro M2 q2
  
  obtain ⟨t1, t2, t3, t4⟩ := q2
  have fin : ∀ r, r = anOf n w p t j → K (.inl r) (qL T) M2 := fun r hr => hK r M2 ⟨hr, fun _ => ⟨t1, t2⟩, t4⟩
  have eT := t1.1
  have eN := t2.1.1
  
  unfold anOf at fin
  rw [if_neg (by omega)] at fin
  rw [eT]
  refine And.intro (fun h6 => ?_) (fun h6 => fin _ (by rw [if_neg (by omega)]))
  obtain ⟨t, rfl⟩ : ∃ b : Nat, t = (b : Int) := ⟨t.toNat, by omega⟩
  have hT := t1.2 t (by omega)
  have hlt := (T_lt hI (show t < rT n w p by omega)).2
  rw [if_pos (by omega), Int.toNat_natCast] at fin
  refine And.intro (fun h7 => ?_) (fun h7 => ?_)
  · intro y3 e3
    rw [Td_gain hT (by omega)] at e3
    have := rgn_le hI hlt
    refine And.intro (by unfold qm_R; omega) (fin _ (by rw [if_neg h7, e3]))
  · intro y4 e4
    rw [Td_depth hT (by omega)] at e4
    exact fin _ (by rw [if_pos (Classical.not_not.mp h7), e4])
theorem en_C_match {T : qm_L} {n : Nat} {w p : Nat → Nat} {d : Nat} {K : qm_K} {M : qm_M} {t : Int} (h :
    ((-1) ≤ t →
     (qLR M 4 n w p) ∧
     (M 0 10 ≠ 0 → qTn M n w p ∧ qMs M n w p) ∧
     (∀ (M2 : qm_M), (qTn M2 n w p ∧ qMs M2 n w p ∧ M2 0 10 ≠ 0 ∧ qcF M2 M) →
      (t ≠ (-1) →
       ((0 ≤ t ∧ t < M2 47 1) →
        ∀ (y3 : Int), y3 = (gRow M2 49 4096 t) →
        K (.inl y3) (qL T) M2) ∧
       (¬ (0 ≤ t ∧ t < M2 47 1) →
        K (.inl ((-2))) (qL T) M2)) ∧
      (¬ t ≠ (-1) →
       ∀ (y4 : Int), y4 = (M2 47 1) →
       K (.inl y4) (qL T) M2))) ∧
    (¬ (-1) ≤ t →
     K (.inl ((-1))) (qL T) M)) : qm_Runs qm_P (d + 7) 112 [(.inr (some 0)), (.inl t)] (qL T) M K :=
  And.intro (Nat.le_of_ble_eq_true rfl) (show qm_TT qi_112 (qm_Runs qm_P (d + 6)) K 0 [some (.inr (some 0)), some (.inl t)] [] (qL T) M 0 0 from qm_wp_TT [] 22 (And.intro (fun q5 => And.intro (lo_0 T) (s_C_settle (d := d + 0)  ((h.1 q5).1) ((h.1 q5).2.1) (fun M2 p7 => And.intro (fun q8 => Exists.intro 47 (And.intro (lf_0_6 T) (And.intro (lo_47 T) (s_Mat_isMatch (d := d + 5)   (And.intro (fun q10 => ((((h.1 q5).2.2 M2 p7).1 q8).2 (qm_b0 q10))) (fun q11 => Exists.intro 47 (And.intro (lf_0_6 T) (And.intro (lo_47 T) (s_Mat_bits (d := d + 4)   ((((((h.1 q5).2.2 M2 p7).1 q8).1 (qm_b1 q11)) _ rfl))))))))))) (fun q9 => Exists.intro 47 (And.intro (lf_0_6 T) (And.intro (lo_47 T) (s_Mat_total (d := d + 5)   (((((h.1 q5).2.2 M2 p7).2 q9) _ rfl))))))))) (fun q6 => (h.2 q6))))
theorem s_C_match {T : qm_L} {n : Nat} {w p : Nat → Nat} {d : Nat} {K : qm_K} {M : qm_M} {t : Int} (hp0 : qLR M 4 n w p) (hp1 : M 0 10 ≠ 0 → qTn M n w p ∧ qMs M n w p) (hK : ∀ (r : Int) (M2 : qm_M), (r = anMatch n w p t ∧ (M2 0 10 ≠ 0 → qTn M2 n w p ∧ qMs M2 n w p) ∧ qcF M2 M) → K (.inl r) (qL T) M2) : qm_Runs qm_P (d + 7) 112 [(.inr (some 0)), (.inl t)] (qL T) M K := by
  have hI := hp0.2.2.2
  have h1 := hI.1
  have h8 := hI.2.1
  have h28 := (r_T hI).1
  have h4 := cN_le hI
  have self : qcF M M := fun _ _ _ _ => rfl
  have bad : ∀ r, r = anMatch n w p t → K (.inl r) (qL T) M := fun r hr => hK r M ⟨hr, hp1, self⟩
  
  refine en_C_match (n := n) (w := w) (p := p) (And.intro (fun h => And.intro hp0 (And.intro hp1 ?_)) (fun h => bad _ (by unfold anMatch; rw [if_pos (by omega)])))
  intro M2 q2
  
  obtain ⟨t1, t2, t3, t4⟩ := q2
  have fin : ∀ r, r = anMatch n w p t → K (.inl r) (qL T) M2 := fun r hr => hK r M2 ⟨hr, fun _ => ⟨t1, t2⟩, t4⟩
  have eT := t1.1
  have eN := t2.1.1
  
  unfold anMatch at fin
  rw [if_neg (by omega)] at fin
  rw [eN]
  refine And.intro (fun h5 => And.intro (fun h6 => ?_) (fun h6 => fin _ (by rw [if_neg (by omega), if_neg (by omega)]))) (fun h5 => ?_)
  · intro y3 e3
    obtain ⟨t, rfl⟩ : ∃ b : Nat, t = (b : Int) := ⟨t.toNat, by omega⟩
    rw [Ms_at hI t2 (by omega)] at e3
    exact fin _ (by rw [if_neg (by omega), if_pos (by omega), e3, Int.toNat_natCast])
  · intro y4 e4
    exact fin _ (by rw [if_pos (by omega), e4])
theorem en_C_exposed {T : qm_L} {n z : Nat} {w p : Nat → Nat} {d : Nat} {K : qm_K} {M : qm_M} {m : Int} (h :
    (0 ≤ m →
     (qLR M 4 n w p) ∧
     (M 0 10 ≠ 0 → qTn M n w p ∧ qMs M n w p) ∧
     (∀ (M2 : qm_M), (qTn M2 n w p ∧ qMs M2 n w p ∧ M2 0 10 ≠ 0 ∧ qcF M2 M) →
      ((0 ≤ m ∧ m < M2 47 1) →
       ∀ (y3 : Int), y3 = (gRow M2 49 4096 m) →
       (qInv n w p ∧ qTn M2 n w p) ∧
       (y3 = (z : Int) ∧ z < 2147483648) ∧
       ∀ (y4 : Int), y4 = (bits (opn n w p (bS z)) (rT n w p) : Int) →
       K (.inl y4) (qL T) M2) ∧
      (¬ (0 ≤ m ∧ m < M2 47 1) →
       K (.inl ((-2))) (qL T) M2))) ∧
    (¬ 0 ≤ m →
     K (.inl ((-1))) (qL T) M)) : qm_Runs qm_P (d + 7) 111 [(.inr (some 0)), (.inl m)] (qL T) M K :=
  And.intro (Nat.le_of_ble_eq_true rfl) (show qm_TT qi_111 (qm_Runs qm_P (d + 6)) K 0 [some (.inr (some 0)), some (.inl m)] [] (qL T) M 0 0 from qm_wp_TT [] 21 (And.intro (fun q5 => And.intro (lo_0 T) (s_C_settle (d := d + 0)  ((h.1 q5).1) ((h.1 q5).2.1) (fun M2 p7 => Exists.intro 47 (And.intro (lf_0_6 T) (And.intro (lo_47 T) (s_Mat_isMatch (d := d + 5)   (And.intro (fun q8 => (((h.1 q5).2.2 M2 p7).2 (qm_b0 q8))) (fun q9 => Exists.intro 25 (And.intro (lf_0_5 T) (Exists.intro 47 (And.intro (lf_0_6 T) (And.intro (lo_47 T) (s_Mat_bits (d := d + 4)   (And.intro (lo_25 T) (s_Turns_openTo (d := d + 2)  (((((h.1 q5).2.2 M2 p7).1 (qm_b1 q9)) _ rfl).1) (((((h.1 q5).2.2 M2 p7).1 (qm_b1 q9)) _ rfl).2.1) ((((((h.1 q5).2.2 M2 p7).1 (qm_b1 q9)) _ rfl).2.2 _ rfl))))))))))))))))) (fun q6 => (h.2 q6))))
theorem s_C_exposed {T : qm_L} {n : Nat} {w p : Nat → Nat} {d : Nat} {K : qm_K} {M : qm_M} {m : Int} (hp0 : qLR M 4 n w p) (hp1 : M 0 10 ≠ 0 → qTn M n w p ∧ qMs M n w p) (hK : ∀ (r : Int) (M2 : qm_M), (r = anExposed n w p m ∧ (M2 0 10 ≠ 0 → qTn M2 n w p ∧ qMs M2 n w p) ∧ qcF M2 M) → K (.inl r) (qL T) M2) : qm_Runs qm_P (d + 7) 111 [(.inr (some 0)), (.inl m)] (qL T) M K := by
  have hI := hp0.2.2.2
  have h1 := hI.1
  have h8 := hI.2.1
  have h28 := (r_T hI).1
  have h4 := cN_le hI
  have self : qcF M M := fun _ _ _ _ => rfl
  have bad : ∀ r, r = anExposed n w p m → K (.inl r) (qL T) M := fun r hr => hK r M ⟨hr, hp1, self⟩
  
  refine en_C_exposed (n := n) (z := cE n w p m.toNat) (w := w) (p := p) (And.intro (fun h => And.intro hp0 (And.intro hp1 ?_)) (fun h => bad _ (by unfold anExposed; rw [if_pos (by omega)])))
  intro M2 q2
  
  obtain ⟨t1, t2, t3, t4⟩ := q2
  have fin : ∀ r, r = anExposed n w p m → K (.inl r) (qL T) M2 := fun r hr => hK r M2 ⟨hr, fun _ => ⟨t1, t2⟩, t4⟩
  have eT := t1.1
  have eN := t2.1.1
  
  unfold anExposed at fin
  rw [if_neg (by omega)] at fin
  rw [eN]
  refine And.intro (fun h6 => ?_) (fun h6 => fin _ (by rw [if_neg (by omega)]))
  intro y3 e3
  obtain ⟨m, rfl⟩ : ∃ b : Nat, m = (b : Int) := ⟨m.toNat, by omega⟩
  rw [Ms_at hI t2 (by omega)] at e3
  rw [Int.toNat_natCast] at fin ⊢
  refine And.intro ⟨hI, t1⟩ (And.intro ⟨e3, cE_31 hI (by omega)⟩ ?_)
  intro y4 e4
  exact fin _ (by rw [if_pos (by omega), e4])
theorem en_C_has {T : qm_L} {n k : Nat} {w p : Nat → Nat} {d : Nat} {K : qm_K} {M : qm_M} {m : Int} {s : Int} {e : Int} (h :
    (m < 0 →
     K (.inl ((-1))) (qL T) M) ∧
    (¬ m < 0 →
     ((0 ≤ s ∧ s ≤ 1) →
      ((0 ≤ e ∧ e < M 4 2) →
       (qLR M 4 n w p) ∧
       (M 0 10 ≠ 0 → qTn M n w p ∧ qMs M n w p) ∧
       (∀ (M2 : qm_M), (qTn M2 n w p ∧ qMs M2 n w p ∧ M2 0 10 ≠ 0 ∧ qcF M2 M) →
        ((0 ≤ m ∧ m < M2 47 1) →
         (qInv n w p ∧ qTn M2 n w p ∧ qMs M2 n w p) ∧
         (k < cN n w p ∧ m = (k : Int)) ∧
         (∀ (M4 : qm_M), (qPR M4 53 n (mU n w p (bS (cE n w p k))) (mV n w p (bS (cE n w p k))) ∧ ∀ c, c ≠ 55 → M4 c = M2 c) →
          ∀ (y5 : Int), y5 = (gPar M4 53 s e) →
          K (.inl y5) (qL T) M4)) ∧
        (¬ (0 ≤ m ∧ m < M2 47 1) →
         K (.inl ((-2))) (qL T) M2))) ∧
      (¬ (0 ≤ e ∧ e < M 4 2) →
       K (.inl ((-1))) (qL T) M)) ∧
     (¬ (0 ≤ s ∧ s ≤ 1) →
      K (.inl ((-1))) (qL T) M))) : qm_Runs qm_P (d + 7) 113 [(.inr (some 0)), (.inl m), (.inl s), (.inl e)] (qL T) M K :=
  And.intro (Nat.le_of_ble_eq_true rfl) (show qm_TT qi_113 (qm_Runs qm_P (d + 6)) K 0 [some (.inr (some 0)), some (.inl m), some (.inl s), some (.inl e)] [] (qL T) M 0 0 from qm_wp_TT [] 30 (And.intro (fun q6 => (h.1 q6)) (fun q7 => And.intro True.intro (s_C_isSide (d := d + 5)   (And.intro (fun q8 => ((h.2 q7).2 (qm_b0 q8))) (fun q9 => And.intro (lo_0 T) (s_C_isOne (d := d + 4)   (And.intro (fun q10 => And.intro (lo_0 T) (s_C_settle (d := d + 0)  ((((h.2 q7).1 (qm_b1 q9)).1 (qm_b1 q10)).1) ((((h.2 q7).1 (qm_b1 q9)).1 (qm_b1 q10)).2.1) (fun M2 p12 => Exists.intro 47 (And.intro (lf_0_6 T) (And.intro (lo_47 T) (s_Mat_isMatch (d := d + 5)   (And.intro (fun q13 => (((((h.2 q7).1 (qm_b1 q9)).1 (qm_b1 q10)).2.2 M2 p12).2 (qm_b0 q13))) (fun q14 => Exists.intro 47 (And.intro (lf_0_6 T) (Exists.intro 25 (And.intro (lf_0_5 T) (And.intro (lo_47 T) (s_Mat_load (d := d + 1)  ((((((h.2 q7).1 (qm_b1 q9)).1 (qm_b1 q10)).2.2 M2 p12).1 (qm_b1 q14)).1) ((((((h.2 q7).1 (qm_b1 q9)).1 (qm_b1 q10)).2.2 M2 p12).1 (qm_b1 q14)).2.1) (fun M4 p15 => And.intro (lo_53 T) (s_Pair_partner (d := d + 4) (lPr_53 T)  ((((((((h.2 q7).1 (qm_b1 q9)).1 (qm_b1 q10)).2.2 M2 p12).1 (qm_b1 q14)).2.2 M4 p15) _ rfl))))))))))))))))) (fun q11 => (((h.2 q7).1 (qm_b1 q9)).2 (qm_b2 q11)))))))))))
theorem s_C_has {T : qm_L} {n : Nat} {w p : Nat → Nat} {d : Nat} {K : qm_K} {M : qm_M} {m : Int} {s : Int} {e : Int} (hp0 : qLR M 4 n w p) (hp1 : M 0 10 ≠ 0 → qTn M n w p ∧ qMs M n w p) (hK : ∀ (r : Int) (M2 : qm_M), (r = anHas n w p m s e ∧ (M2 0 10 ≠ 0 → qTn M2 n w p ∧ qMs M2 n w p) ∧ qcF M2 M) → K (.inl r) (qL T) M2) : qm_Runs qm_P (d + 7) 113 [(.inr (some 0)), (.inl m), (.inl s), (.inl e)] (qL T) M K := by
  have hI := hp0.2.2.2
  have h1 := hI.1
  have h8 := hI.2.1
  have h28 := (r_T hI).1
  have h4 := cN_le hI
  have self : qcF M M := fun _ _ _ _ => rfl
  have bad : ∀ r, r = anHas n w p m s e → K (.inl r) (qL T) M := fun r hr => hK r M ⟨hr, hp1, self⟩
  
  have no : (m < 0 ∨ s < 0 ∨ 1 < s ∨ e < 0 ∨ (n : Int) ≤ e) → K (.inl (-1)) (qL T) M := fun h => bad _ (by unfold anHas; rw [if_pos h])
  refine en_C_has (n := n) (k := m.toNat) (w := w) (p := p) ?_
  rw [hp0.1]
  refine And.intro (fun h => no (by omega)) (fun h => And.intro (fun h2 => And.intro (fun h3 => And.intro hp0 (And.intro hp1 ?_)) (fun h3 => no (by omega))) (fun h2 => no (by omega)))
  intro M2 q2
  
  obtain ⟨t1, t2, t3, t4⟩ := q2
  have fin : ∀ r, r = anHas n w p m s e → K (.inl r) (qL T) M2 := fun r hr => hK r M2 ⟨hr, fun _ => ⟨t1, t2⟩, t4⟩
  have eT := t1.1
  have eN := t2.1.1
  
  rw [eN]
  refine And.intro (fun h6 => And.intro ⟨hI, t1, t2⟩ (And.intro ⟨by omega, by omega⟩ ?_)) (fun h6 => fin _ (by unfold anHas; rw [if_neg (by omega), if_neg (by omega)]))
  intro M4 q4
  obtain ⟨k1, k2, k3⟩ := ld_keep t1 t2 q4.2
  have hs := cE_spec (n := n) (w := w) (p := p) (m := m.toNat) (by omega)
  intro y5 e5
  rw [gPar_s q4.1 (m_qMt hI hs.2.1) h8 h2 ⟨h3.1, h3.2⟩] at e5
  refine hK _ M4 ⟨?_, fun _ => ⟨k1, k2⟩, qcF_trans k3 t4⟩
  unfold anHas
  rw [if_neg (by omega), if_pos (by omega), e5]
theorem en_C_cost {T : qm_L} {n k : Nat} {w p u v : Nat → Nat} {d : Nat} {K : qm_K} {M : qm_M} {m : Int} {j : Int} (h :
    (m < 0 →
     K (.inl ((-1))) (qL T) M) ∧
    (¬ m < 0 →
     ((0 ≤ j ∧ j ≤ 4) →
      (qLR M 4 n w p) ∧
      (M 0 10 ≠ 0 → qTn M n w p ∧ qMs M n w p) ∧
      (∀ (M2 : qm_M), (qTn M2 n w p ∧ qMs M2 n w p ∧ M2 0 10 ≠ 0 ∧ qcF M2 M) →
       ((0 ≤ m ∧ m < M2 47 1) →
        (qInv n w p ∧ qTn M2 n w p ∧ qMs M2 n w p) ∧
        (k < cN n w p ∧ m = (k : Int)) ∧
        (∀ (M4 : qm_M), (qPR M4 53 n (mU n w p (bS (cE n w p k))) (mV n w p (bS (cE n w p k))) ∧ ∀ c, c ≠ 55 → M4 c = M2 c) →
         (qLR M4 4 n w p) ∧
         (qPR M4 53 n u v) ∧
         (qTot n u) ∧
         ∀ (y5 : Int), y5 = (csF n p u j) →
         K (.inl y5) (qL T) M4)) ∧
       (¬ (0 ≤ m ∧ m < M2 47 1) →
        K (.inl ((-2))) (qL T) M2))) ∧
     (¬ (0 ≤ j ∧ j ≤ 4) →
      K (.inl ((-1))) (qL T) M))) : qm_Runs qm_P (d + 7) 114 [(.inr (some 0)), (.inl m), (.inl j)] (qL T) M K :=
  And.intro (Nat.le_of_ble_eq_true rfl) (show qm_TT qi_114 (qm_Runs qm_P (d + 6)) K 0 [some (.inr (some 0)), some (.inl m), some (.inl j)] [] (qL T) M 0 0 from qm_wp_TT [] 27 (And.intro (fun q6 => (h.1 q6)) (fun q7 => And.intro True.intro (s_C_isCost (d := d + 5)   (And.intro (fun q8 => And.intro (lo_0 T) (s_C_settle (d := d + 0)  (((h.2 q7).1 (qm_b1 q8)).1) (((h.2 q7).1 (qm_b1 q8)).2.1) (fun M2 p10 => Exists.intro 47 (And.intro (lf_0_6 T) (And.intro (lo_47 T) (s_Mat_isMatch (d := d + 5)   (And.intro (fun q11 => ((((h.2 q7).1 (qm_b1 q8)).2.2 M2 p10).2 (qm_b0 q11))) (fun q12 => Exists.intro 4 (And.intro (lf_0_1 T) (Exists.intro 47 (And.intro (lf_0_6 T) (Exists.intro 25 (And.intro (lf_0_5 T) (And.intro (lo_47 T) (s_Mat_load (d := d + 1)  (((((h.2 q7).1 (qm_b1 q8)).2.2 M2 p10).1 (qm_b1 q12)).1) (((((h.2 q7).1 (qm_b1 q8)).2.2 M2 p10).1 (qm_b1 q12)).2.1) (fun M4 p13 => And.intro (lo_4 T) (s_Lists_costOf (d := d + 3) (lLs_4 T) (lPr_53 T) ((((((h.2 q7).1 (qm_b1 q8)).2.2 M2 p10).1 (qm_b1 q12)).2.2 M4 p13).1) ((((((h.2 q7).1 (qm_b1 q8)).2.2 M2 p10).1 (qm_b1 q12)).2.2 M4 p13).2.1) ((((((h.2 q7).1 (qm_b1 q8)).2.2 M2 p10).1 (qm_b1 q12)).2.2 M4 p13).2.2.1) (((((((h.2 q7).1 (qm_b1 q8)).2.2 M2 p10).1 (qm_b1 q12)).2.2 M4 p13).2.2.2 _ rfl))))))))))))))))))) (fun q9 => ((h.2 q7).2 (qm_b2 q9))))))))
theorem s_C_cost {T : qm_L} {n : Nat} {w p : Nat → Nat} {d : Nat} {K : qm_K} {M : qm_M} {m : Int} {j : Int} (hp0 : qLR M 4 n w p) (hp1 : M 0 10 ≠ 0 → qTn M n w p ∧ qMs M n w p) (hK : ∀ (r : Int) (M2 : qm_M), (r = anCost n w p m j ∧ (M2 0 10 ≠ 0 → qTn M2 n w p ∧ qMs M2 n w p) ∧ qcF M2 M) → K (.inl r) (qL T) M2) : qm_Runs qm_P (d + 7) 114 [(.inr (some 0)), (.inl m), (.inl j)] (qL T) M K := by
  have hI := hp0.2.2.2
  have h1 := hI.1
  have h8 := hI.2.1
  have h28 := (r_T hI).1
  have h4 := cN_le hI
  have self : qcF M M := fun _ _ _ _ => rfl
  have bad : ∀ r, r = anCost n w p m j → K (.inl r) (qL T) M := fun r hr => hK r M ⟨hr, hp1, self⟩
  
  have no : (m < 0 ∨ j < 0 ∨ 4 < j) → K (.inl (-1)) (qL T) M := fun h => bad _ (by unfold anCost; rw [if_pos h])
  refine en_C_cost (n := n) (k := m.toNat) (w := w) (p := p) (u := mU n w p (bS (cE n w p m.toNat))) (v := mV n w p (bS (cE n w p m.toNat))) (And.intro (fun h => no (by omega)) (fun h => And.intro (fun h2 => And.intro hp0 (And.intro hp1 ?_)) (fun h2 => no (by omega))))
  intro M2 q2
  
  obtain ⟨t1, t2, t3, t4⟩ := q2
  have fin : ∀ r, r = anCost n w p m j → K (.inl r) (qL T) M2 := fun r hr => hK r M2 ⟨hr, fun _ => ⟨t1, t2⟩, t4⟩
  have eT := t1.1
  have eN := t2.1.1
  
  rw [eN]
  refine And.intro (fun h6 => And.intro ⟨hI, t1, t2⟩ (And.intro ⟨by omega, by omega⟩ ?_)) (fun h6 => fin _ (by unfold anCost; rw [if_neg (by omega), if_neg (by omega)]))
  intro M4 q4
  obtain ⟨k1, k2, k3⟩ := ld_keep t1 t2 q4.2
  have hs := cE_spec (n := n) (w := w) (p := p) (m := m.toNat) (by omega)
  have l4 := qLR_mem (qLR_mem hp0 (qcF_c t4 (by decide) (by decide)) (qcF_c t4 (by decide) (by decide)) (qcF_c t4 (by decide) (by decide))) (M2 := M4) (q4.2 _ (by decide)) (q4.2 _ (by decide)) (q4.2 _ (by decide))
  refine And.intro l4 (And.intro q4.1 (And.intro (fun a ha => (m_inv hI hs.2.1 ha).1) ?_))
  intro y5 e5
  refine hK _ M4 ⟨?_, fun _ => ⟨k1, k2⟩, qcF_trans k3 t4⟩
  unfold anCost
  rw [if_neg (by omega), if_pos (by omega), e5]
  rfl
def at_C_pick_39 (T : qm_L) (d : Nat) (K : qm_K) (M : qm_M) (x1 x2 x3 x4 : Int) : Prop := ∀ (d5 : Option qm_V), qm_TT qi_115 (qm_Runs qm_P (d + 6)) K 39 [some (.inr (some 0)), some (.inl x1), some (.inl x2), some (.inl x3), some (.inl x4), d5] [] (qL T) M 0 0
theorem rg_C_pick_39 {T : qm_L} {n k : Nat} {w p u v : Nat → Nat} {d : Nat} {K : qm_K} {M : qm_M} {x1 x2 x3 x4 : Int} (h :
    ∀ (y6 : Int), y6 = (M 47 1) →
    (y6 ≤ x4 →
     K (.inl x2) (qL T) M) ∧
    (¬ y6 ≤ x4 →
     (qInv n w p ∧ qTn M n w p ∧ qMs M n w p) ∧
     (k < cN n w p ∧ x4 = (k : Int)) ∧
     (∀ (M8 : qm_M), (qPR M8 53 n (mU n w p (bS (cE n w p k))) (mV n w p (bS (cE n w p k))) ∧ ∀ c, c ≠ 55 → M8 c = M c) →
      (qLR M8 4 n w p) ∧
      (qPR M8 53 n u v) ∧
      (qTot n u) ∧
      ∀ (y9 : Int), y9 = (csF n p u x1) →
      (x3 ≤ y9 →
       qm_R (x4 + 1) ∧
       at_C_pick_39 T d K M8 x1 x2 x3 ((x4 + 1))) ∧
      (¬ x3 ≤ y9 →
       qm_R (x4 + 1) ∧
       at_C_pick_39 T d K M8 x1 x4 y9 ((x4 + 1)))))) : at_C_pick_39 T d K M x1 x2 x3 x4 :=
  fun d5 => qm_wp_TT [39] 29 (Exists.intro 47 (And.intro (lf_0_6 T) (And.intro (lo_47 T) (s_Mat_total (d := d + 5)   (And.intro (fun q10 => ((h _ rfl).1 q10)) (fun q11 => Exists.intro 4 (And.intro (lf_0_1 T) (Exists.intro 47 (And.intro (lf_0_6 T) (Exists.intro 25 (And.intro (lf_0_5 T) (And.intro (lo_47 T) (s_Mat_load (d := d + 1)  (((h _ rfl).2 q11).1) (((h _ rfl).2 q11).2.1) (fun M8 p12 => And.intro (lo_4 T) (s_Lists_costOf (d := d + 3) (lLs_4 T) (lPr_53 T) ((((h _ rfl).2 q11).2.2 M8 p12).1) ((((h _ rfl).2 q11).2.2 M8 p12).2.1) ((((h _ rfl).2 q11).2.2 M8 p12).2.2.1) (And.intro (fun q13 => And.intro (((((h _ rfl).2 q11).2.2 M8 p12).2.2.2 _ rfl).1 q13).1 ((((((h _ rfl).2 q11).2.2 M8 p12).2.2.2 _ rfl).1 q13).2 _)) (fun q14 => And.intro (((((h _ rfl).2 q11).2.2 M8 p12).2.2.2 _ rfl).2 q14).1 ((((((h _ rfl).2 q11).2.2 M8 p12).2.2.2 _ rfl).2 q14).2 _))))))))))))))))))
theorem en_C_pick {T : qm_L} {n k : Nat} {w p u v : Nat → Nat} {d : Nat} {K : qm_K} {M : qm_M} {j : Int} (h :
    ((0 ≤ j ∧ j ≤ 4) →
     (qLR M 4 n w p) ∧
     (M 0 10 ≠ 0 → qTn M n w p ∧ qMs M n w p) ∧
     (∀ (M2 : qm_M), (qTn M2 n w p ∧ qMs M2 n w p ∧ M2 0 10 ≠ 0 ∧ qcF M2 M) →
      (qInv n w p ∧ qTn M2 n w p ∧ qMs M2 n w p) ∧
      (k < cN n w p ∧ (0 : Int) = (k : Int)) ∧
      (∀ (M4 : qm_M), (qPR M4 53 n (mU n w p (bS (cE n w p k))) (mV n w p (bS (cE n w p k))) ∧ ∀ c, c ≠ 55 → M4 c = M2 c) →
       (qLR M4 4 n w p) ∧
       (qPR M4 53 n u v) ∧
       (qTot n u) ∧
       ∀ (y5 : Int), y5 = (csF n p u j) →
       at_C_pick_39 T d K M4 j 0 y5 1))) ∧
    (¬ (0 ≤ j ∧ j ≤ 4) →
     K (.inl ((-1))) (qL T) M)) : qm_Runs qm_P (d + 7) 115 [(.inr (some 0)), (.inl j)] (qL T) M K :=
  And.intro (Nat.le_of_ble_eq_true rfl) (show qm_TT qi_115 (qm_Runs qm_P (d + 6)) K 0 [some (.inr (some 0)), some (.inl j), none, none, none, none] [] (qL T) M 0 0 from qm_wp_TT [39] 29 (And.intro True.intro (s_C_isCost (d := d + 5)   (And.intro (fun q15 => And.intro (lo_0 T) (s_C_settle (d := d + 0)  ((h.1 (qm_b1 q15)).1) ((h.1 (qm_b1 q15)).2.1) (fun M2 p17 => Exists.intro 4 (And.intro (lf_0_1 T) (Exists.intro 47 (And.intro (lf_0_6 T) (Exists.intro 25 (And.intro (lf_0_5 T) (And.intro (lo_47 T) (s_Mat_load (d := d + 1)  (((h.1 (qm_b1 q15)).2.2 M2 p17).1) (((h.1 (qm_b1 q15)).2.2 M2 p17).2.1) (fun M4 p18 => And.intro (lo_4 T) (s_Lists_costOf (d := d + 3) (lLs_4 T) (lPr_53 T) ((((h.1 (qm_b1 q15)).2.2 M2 p17).2.2 M4 p18).1) ((((h.1 (qm_b1 q15)).2.2 M2 p17).2.2 M4 p18).2.1) ((((h.1 (qm_b1 q15)).2.2 M2 p17).2.2 M4 p18).2.2.1) (((((h.1 (qm_b1 q15)).2.2 M2 p17).2.2 M4 p18).2.2.2 _ rfl) _))))))))))))) (fun q16 => (h.2 (qm_b2 q16)))))))
theorem lp_C_pick {T : qm_L} {d : Nat} {K : qm_K} {M0 : qm_M} {n : Nat} {w p : Nat → Nat} {c : Int} (hL : qLR M0 4 n w p) (hT : qTn M0 n w p) (hM : qMs M0 n w p) (hK : ∀ M2 : qm_M, (∀ c, c ≠ 55 → M2 c = M0 c) → K (.inl (pkI (csE n w p c) (cN n w p) : Int)) (qL T) M2) : ∀ (j m : Nat) (M : qm_M), m + j = cN n w p → 0 < m → (∀ c, c ≠ 55 → M c = M0 c) → at_C_pick_39 T d K M c (pkI (csE n w p c) m : Int) (csE n w p c (pkI (csE n w p c) m)) (m : Int)
  | 0, m, M, hm, h0, hF => fun d5 => by
    have hm : m = cN n w p := by omega
    refine rg_C_pick_39 (n := n) (k := 0) (w := w) (p := p) (u := p) (v := p) ?_ d5
    intro y6 e6
    rw [hF 47 (by decide), hM.1.1] at e6
    refine And.intro (fun _ => ?_) (fun z => absurd (by omega) z)
    rw [hm]
    exact hK M hF
  | j + 1, m, M, hm, h0, hF => fun d5 => by
    have hI := hL.2.2.2
    have h4 := cN_le hI
    obtain ⟨k1, k2, k3⟩ := ld_keep hT hM hF
    have hs := cE_spec (n := n) (w := w) (p := p) (m := m) (by omega)
    refine rg_C_pick_39 (n := n) (k := m) (w := w) (p := p) (u := mU n w p (bS (cE n w p m))) (v := mV n w p (bS (cE n w p m))) ?_ d5
    intro y6 e6
    rw [k2.1.1] at e6
    refine And.intro (fun z => absurd z (by omega)) (fun _ => And.intro ⟨hI, k1, k2⟩ (And.intro ⟨by omega, rfl⟩ ?_))
    intro M8 q8
    have hF8 : ∀ c, c ≠ 55 → M8 c = M0 c := fun c hc => by rw [q8.2 c hc, hF c hc]
    refine And.intro (qLR_mem hL (hF8 _ (by decide)) (hF8 _ (by decide)) (hF8 _ (by decide))) (And.intro q8.1 (And.intro (fun a ha => (m_inv hI hs.2.1 ha).1) ?_))
    intro y9 e9
    have e9 : y9 = csE n w p c m := e9
    have ih := lp_C_pick (T := T) (d := d) hL hT hM hK j (m + 1) M8 (by omega) (by omega) hF8
    have e : pkI (csE n w p c) (m + 1) = if csE n w p c m < csE n w p c (pkI (csE n w p c) m) then m else pkI (csE n w p c) m := rfl
    refine And.intro (fun z => And.intro (by unfold qm_R; omega) ?_) (fun z => And.intro (by unfold qm_R; omega) ?_)
    · rw [e, if_neg (by omega)] at ih
      exact ih
    · rw [e, if_pos (by omega)] at ih
      rw [e9]
      exact ih
theorem s_C_pick {T : qm_L} {n : Nat} {w p : Nat → Nat} {d : Nat} {K : qm_K} {M : qm_M} {j : Int} (hp0 : qLR M 4 n w p) (hp1 : M 0 10 ≠ 0 → qTn M n w p ∧ qMs M n w p) (hK : ∀ (r : Int) (M2 : qm_M), (r = anPick n w p j ∧ (M2 0 10 ≠ 0 → qTn M2 n w p ∧ qMs M2 n w p) ∧ qcF M2 M) → K (.inl r) (qL T) M2) : qm_Runs qm_P (d + 7) 115 [(.inr (some 0)), (.inl j)] (qL T) M K := by
  have hI := hp0.2.2.2
  have h1 := hI.1
  have h8 := hI.2.1
  have h28 := (r_T hI).1
  have h4 := cN_le hI
  have self : qcF M M := fun _ _ _ _ => rfl
  have bad : ∀ r, r = anPick n w p j → K (.inl r) (qL T) M := fun r hr => hK r M ⟨hr, hp1, self⟩
  
  refine en_C_pick (n := n) (k := 0) (w := w) (p := p) (u := mU n w p (bS (cE n w p 0))) (v := mV n w p (bS (cE n w p 0))) (And.intro (fun h => And.intro hp0 (And.intro hp1 ?_)) (fun h => bad _ (by unfold anPick; rw [if_pos (by omega)])))
  intro M2 q2
  
  obtain ⟨t1, t2, t3, t4⟩ := q2
  have fin : ∀ r, r = anPick n w p j → K (.inl r) (qL T) M2 := fun r hr => hK r M2 ⟨hr, fun _ => ⟨t1, t2⟩, t4⟩
  have eT := t1.1
  have eN := t2.1.1
  
  have hpos := cN_pos (n := n) (w := w) (p := p)
  refine And.intro ⟨hI, t1, t2⟩ (And.intro ⟨hpos, rfl⟩ ?_)
  intro M4 q4
  have hs := cE_spec hpos
  have l2 := qLR_mem hp0 (M2 := M2) (qcF_c t4 (by decide) (by decide)) (qcF_c t4 (by decide) (by decide)) (qcF_c t4 (by decide) (by decide))
  refine And.intro (qLR_mem l2 (q4.2 _ (by decide)) (q4.2 _ (by decide)) (q4.2 _ (by decide))) (And.intro q4.1 (And.intro (fun a ha => (m_inv hI hs.2.1 ha).1) ?_))
  intro y5 e5
  have p1 : pkI (csE n w p j) 1 = 0 := by have := pkI_lt (f := csE n w p j) Nat.zero_lt_one; omega
  have := lp_C_pick (T := T) (d := d) (c := j) l2 t1 t2 (fun M5 f5 => hK _ M5 ⟨by unfold anPick; rw [if_neg (by omega)], fun _ => ⟨(ld_keep t1 t2 f5).1, (ld_keep t1 t2 f5).2.1⟩, qcF_trans (ld_keep t1 t2 f5).2.2 t4⟩) (cN n w p - 1) 1 M4 (by omega) (by omega) q4.2
  rw [p1] at this
  rw [e5]
  exact this
