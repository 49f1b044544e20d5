theorem en_Img_isThere {T : qm_L}  {d : Nat} {K : qm_K} {M : qm_M}  (h :
    ((M 62 2) = 0 ∨ (M 62 2) = 1) ∧
    K (.inl ((M 62 2))) (qL T) M) : qm_Runs qm_P (d + 1) 16 [(.inr (some 62))] (qL T) M K :=
  And.intro (Nat.le_of_ble_eq_true rfl) (show qm_TT qi_16 (qm_Runs qm_P (d + 0)) K 0 [some (.inr (some 62))] [] (qL T) M 0 0 from qm_wp_TT [] 6 (And.intro (lf_62_2 T) (h)))
theorem s_Img_isThere {T : qm_L}  {d : Nat} {K : qm_K} {M : qm_M}  (hp0 : M 62 2 = 0 ∨ M 62 2 = 1) (hK : K (.inl ((M 62 2))) (qL T) M) : qm_Runs qm_P (d + 1) 16 [(.inr (some 62))] (qL T) M K := by
  refine en_Img_isThere   ?_
  exact And.intro hp0 hK
theorem en_Img_take {T : qm_L}  {d : Nat} {K : qm_K} {M : qm_M}  (h :
    (¬ 6 = 65) ∧
    (¬ 8 = 67) ∧
    ∀ (M1 : qm_M), M1 = (cRow (cRow (qm_u M 63 2 (M 4 2)) 65 128 6) 67 128 8) →
    (¬ 58 = 70) ∧
    ∀ (M2 : qm_M), M2 = (cRow M1 70 16 58) →
    ∀ (M3 : qm_M), M3 = (qm_u M2 62 2 1) →
    K (.inl 0) (qL T) M3) : qm_Runs qm_P (d + 4) 17 [(.inr (some 62)), (.inr (some 4)), (.inr (some 56))] (qL T) M K :=
  And.intro (Nat.le_of_ble_eq_true rfl) (show qm_TT qi_17 (qm_Runs qm_P (d + 3)) K 0 [some (.inr (some 62)), some (.inr (some 4)), some (.inr (some 56))] [] (qL T) M 0 0 from qm_wp_TT [] 15 (Exists.intro 63 (And.intro (lf_62_0 T) (And.intro (lo_63 T) (s_Lists_copyFrom (d := d + 0) (lLs_63 T) (lLs_4 T) (h.1) (h.2.1) (Exists.intro 68 (And.intro (lf_62_1 T) (And.intro (lo_68 T) (s_Pair_copyFrom (d := d + 0) (lPr_68 T) (lPr_56 T) ((h.2.2 _ rfl).1) (And.intro (Or.inr rfl) (And.intro (lf_62_2 T) ((((h.2.2 _ rfl).2 _ rfl) _ rfl)))))))))))))
theorem s_Img_take {T : qm_L} {n : Nat} {w p u v : Nat → Nat} {d : Nat} {K : qm_K} {M : qm_M}  (hp0 : qLR M 4 n w p ∧ qPR M 56 n u v) (hK : ∀ (M2 : qm_M), (qLR M2 63 n w p ∧ qPR M2 68 n u v ∧ M2 62 2 = 1 ∧ ∀ c, c ≠ 62 → c ≠ 63 → c ≠ 65 → c ≠ 67 → c ≠ 70 → M2 c = M c) → K (.inl 0) (qL T) M2) : qm_Runs qm_P (d + 4) 17 [(.inr (some 62)), (.inr (some 4)), (.inr (some 56))] (qL T) M K := by
  obtain ⟨hl, hh⟩ := hp0
  have h8 := hl.2.2.2.2.1
  refine en_Img_take (And.intro (by decide) (And.intro (by decide) ?_))
  intro M1 e1
  obtain ⟨l1, c1⟩ := qLR_cp e1 rfl rfl rfl rfl (by decide) hl
  refine And.intro (by decide) ?_
  intro M2 e2
  obtain ⟨p2, c2⟩ := qPR_cp (p := 68) (q := 56) e2 rfl rfl h8 (qPR_mem hh (c1 58 (by decide) (by decide) (by decide)))
  intro M3 e3
  have c3 : ∀ c, c ≠ 62 → M3 c = M2 c := fun c hc => by rw [e3, qu_cf hc]
  exact hK M3 ⟨qLR_mem l1 (by rw [c3 63 (by decide), c2 63 (by decide)]) (by rw [c3 65 (by decide), c2 65 (by decide)]) (by rw [c3 67 (by decide), c2 67 (by decide)]), qPR_mem p2 (c3 70 (by decide)), by rw [e3, qu_s], fun c g1 g2 g3 g4 g5 => by rw [c3 c g1, c2 c g5, c1 c g2 g3 g4]⟩
theorem en_Img_layBack {T : qm_L}  {d : Nat} {K : qm_K} {M : qm_M}  (h :
    (¬ 65 = 6) ∧
    (¬ 67 = 8) ∧
    ∀ (M1 : qm_M), M1 = (cRow (cRow (qm_u M 4 2 (M 63 2)) 6 128 65) 8 128 67) →
    (¬ 70 = 58) ∧
    ∀ (M2 : qm_M), M2 = (cRow M1 58 16 70) →
    K (.inl 0) (qL T) M2) : qm_Runs qm_P (d + 4) 18 [(.inr (some 62)), (.inr (some 4)), (.inr (some 56))] (qL T) M K :=
  And.intro (Nat.le_of_ble_eq_true rfl) (show qm_TT qi_18 (qm_Runs qm_P (d + 3)) K 0 [some (.inr (some 62)), some (.inr (some 4)), some (.inr (some 56))] [] (qL T) M 0 0 from qm_wp_TT [] 12 (Exists.intro 63 (And.intro (lf_62_0 T) (And.intro (lo_4 T) (s_Lists_copyFrom (d := d + 0) (lLs_4 T) (lLs_63 T) (h.1) (h.2.1) (Exists.intro 68 (And.intro (lf_62_1 T) (And.intro (lo_56 T) (s_Pair_copyFrom (d := d + 0) (lPr_56 T) (lPr_68 T) ((h.2.2 _ rfl).1) (((h.2.2 _ rfl).2 _ rfl)))))))))))
theorem s_Img_layBack {T : qm_L} {n : Nat} {w p u v : Nat → Nat} {d : Nat} {K : qm_K} {M : qm_M}  (hp0 : qLR M 63 n w p ∧ qPR M 68 n u v) (hK : ∀ (M2 : qm_M), (qLR M2 4 n w p ∧ qPR M2 56 n u v ∧ ∀ c, c ≠ 4 → c ≠ 6 → c ≠ 8 → c ≠ 58 → M2 c = M c) → K (.inl 0) (qL T) M2) : qm_Runs qm_P (d + 4) 18 [(.inr (some 62)), (.inr (some 4)), (.inr (some 56))] (qL T) M K := by
  obtain ⟨hl, hh⟩ := hp0
  have h8 := hl.2.2.2.2.1
  refine en_Img_layBack (And.intro (by decide) (And.intro (by decide) ?_))
  intro M1 e1
  obtain ⟨l1, c1⟩ := qLR_cp e1 rfl rfl rfl rfl (by decide) hl
  refine And.intro (by decide) ?_
  intro M2 e2
  obtain ⟨p2, c2⟩ := qPR_cp (p := 56) (q := 68) e2 rfl rfl h8 (qPR_mem hh (c1 70 (by decide) (by decide) (by decide)))
  exact hK M2 ⟨qLR_mem l1 (c2 4 (by decide)) (c2 6 (by decide)) (c2 8 (by decide)), p2, fun c g1 g2 g3 g5 => by rw [c2 c g5, c1 c g1 g2 g3]⟩
theorem en_C_image {T : qm_L} {n : Nat} {w p u v : Nat → Nat} {d : Nat} {K : qm_K} {M : qm_M}  (h :
    (qLR M 4 n w p ∧ qPR M 56 n u v) ∧
    (∀ (M2 : qm_M), (qLR M2 63 n w p ∧ qPR M2 68 n u v ∧ M2 62 2 = 1 ∧ ∀ c, c ≠ 62 → c ≠ 63 → c ≠ 65 → c ≠ 67 → c ≠ 70 → M2 c = M c) →
     ∀ (y3 : Int), y3 = (M2 4 2) →
     K (.inl y3) (qL T) M2)) : qm_Runs qm_P (d + 5) 129 [(.inr (some 0))] (qL T) M K :=
  And.intro (Nat.le_of_ble_eq_true rfl) (show qm_TT qi_129 (qm_Runs qm_P (d + 4)) K 0 [some (.inr (some 0))] [] (qL T) M 0 0 from qm_wp_TT [] 14 (Exists.intro 62 (And.intro (lf_0_9 T) (Exists.intro 4 (And.intro (lf_0_1 T) (Exists.intro 56 (And.intro (lf_0_7 T) (And.intro (lo_62 T) (s_Img_take (d := d + 0)  (h.1) (fun M2 p4 => Exists.intro 4 (And.intro (lf_0_1 T) (And.intro (lo_4 T) (s_Lists_each (d := d + 3) (lLs_4 T)  (((h.2 M2 p4) _ rfl)))))))))))))))
theorem s_C_image {T : qm_L} {n b f ln kn : Nat} {H : Nat → Nat → Nat} {p u v tp kw kp ku kv : Nat → Nat} {d : Nat} {K : qm_K} {M : qm_M}  (hp0 : cI M n H b f p u v ln tp kn kw kp ku kv) (hK : ∀ (r : Int) (M2 : qm_M), (r = (n : Int) ∧ cI M2 n H b f p u v ln tp n (H b) p u v ∧ (∀ c, 71 ≤ c → M2 c = M c)) → K (.inl r) (qL T) M2) : qm_Runs qm_P (d + 5) 129 [(.inr (some 0))] (qL T) M K := by
  obtain ⟨hl, hh, hy, ht, hm, hs⟩ := id hp0
  have hI := hl.2.2.2
  have h1 := hI.1
  have h8 := hI.2.1
  
  refine en_C_image (n := n) (w := H b) (p := p) (u := u) (v := v) (And.intro ⟨hl, hh⟩ ?_)
  intro M2 q
  obtain ⟨q1, q2, q3, q4⟩ := q
  have ca : ∀ c, c < 62 ∨ 70 < c → M2 c = M c := fun c hc => q4 c (by omega) (by omega) (by omega) (by omega) (by omega)
  intro y3 e3
  rw [ca 4 (by decide), hl.1] at e3
  refine hK _ M2 ⟨e3, ⟨qLR_mem hl (ca _ (by decide)) (ca _ (by decide)) (ca _ (by decide)), qPR_mem hh (ca _ (by decide)), qY_mem hy (ca _ (by decide)) (ca _ (by decide)), cTp_mem ht (ca _ (by decide)) (ca _ (by decide)), ⟨fun z => absurd z (by omega), fun _ => ⟨q3, q1, q2⟩⟩, fun z => ?_⟩, fun c hc => ca c (by omega)⟩
  rw [ca 0 (by decide)] at z
  have := hs z
  exact ⟨qTn_mem this.1 (ca _ (by decide)) (ca _ (by decide)) (ca _ (by decide)) (ca _ (by decide)) (ca _ (by decide)) (ca _ (by decide)) (ca _ (by decide)), qMs_mem this.2 (ca _ (by decide)) (ca _ (by decide)) (ca _ (by decide))⟩
theorem en_C_back {T : qm_L} {n : Nat} {w p u v : Nat → Nat} {d : Nat} {K : qm_K} {M : qm_M}  (h :
    (M 62 2 = 0 ∨ M 62 2 = 1) ∧
    ∀ (y1 : Int), y1 = (M 62 2) →
    (y1 ≠ 0 →
     (qLR M 63 n w p ∧ qPR M 68 n u v) ∧
     (∀ (M3 : qm_M), (qLR M3 4 n w p ∧ qPR M3 56 n u v ∧ ∀ c, c ≠ 4 → c ≠ 6 → c ≠ 8 → c ≠ 58 → M3 c = M c) →
      (qLR M3 4 n w p) ∧
      (∃ ol : Nat, ol < 13 ∧ M3 14 1 = (ol : Int)) ∧
      (∀ (M5 : qm_M), (qY M5 n (fun _ => w) 0 0 ∧ (∀ c, c ≠ 14 → c ≠ 16 → M5 c = M3 c)) →
       ∀ (M6 : qm_M), M6 = (qm_u M5 0 10 0) →
       ∀ (y7 : Int), y7 = (M6 4 2) →
       K (.inl y7) (qL T) M6))) ∧
    (¬ y1 ≠ 0 →
     K (.inl ((-5))) (qL T) M)) : qm_Runs qm_P (d + 5) 130 [(.inr (some 0))] (qL T) M K :=
  And.intro (Nat.le_of_ble_eq_true rfl) (show qm_TT qi_130 (qm_Runs qm_P (d + 4)) K 0 [some (.inr (some 0))] [] (qL T) M 0 0 from qm_wp_TT [] 26 (Exists.intro 62 (And.intro (lf_0_9 T) (And.intro (lo_62 T) (s_Img_isThere (d := d + 3)  (h.1) (And.intro (fun q8 => Exists.intro 62 (And.intro (lf_0_9 T) (Exists.intro 4 (And.intro (lf_0_1 T) (Exists.intro 56 (And.intro (lf_0_7 T) (And.intro (lo_62 T) (s_Img_layBack (d := d + 0)  (((h.2 _ rfl).1 q8).1) (fun M3 p10 => Exists.intro 14 (And.intro (lf_0_3 T) (Exists.intro 4 (And.intro (lf_0_1 T) (And.intro (lo_14 T) (s_Hist_forget (d := d + 1)  ((((h.2 _ rfl).1 q8).2 M3 p10).1) ((((h.2 _ rfl).1 q8).2 M3 p10).2.1) (fun M5 p11 => And.intro (Or.inl rfl) (And.intro (lf_0_10 T) (Exists.intro 4 (And.intro (lf_0_1 T) (And.intro (lo_4 T) (s_Lists_each (d := d + 3) (lLs_4 T)  (((((((h.2 _ rfl).1 q8).2 M3 p10).2.2 M5 p11) _ rfl) _ rfl)))))))))))))))))))))) (fun q9 => ((h.2 _ rfl).2 q9))))))))
theorem s_C_back {T : qm_L} {n b f ln kn : Nat} {H : Nat → Nat → Nat} {p u v tp kw kp ku kv : Nat → Nat} {d : Nat} {K : qm_K} {M : qm_M}  (hp0 : cI M n H b f p u v ln tp kn kw kp ku kv) (hK : ∀ (r : Int) (M2 : qm_M), ((kn = 0 → r = -5 ∧ cI M2 n H b f p u v ln tp kn kw kp ku kv) ∧ (0 < kn → r = (kn : Int) ∧ cI M2 kn (fun _ => kw) 0 0 kp ku kv ln tp kn kw kp ku kv) ∧ (∀ c, 71 ≤ c → M2 c = M c)) → K (.inl r) (qL T) M2) : qm_Runs qm_P (d + 5) 130 [(.inr (some 0))] (qL T) M K := by
  obtain ⟨hl, hh, hy, ht, hm, hs⟩ := id hp0
  have hI := hl.2.2.2
  have h1 := hI.1
  have h8 := hI.2.1
  
  refine en_C_back (n := kn) (w := kw) (p := kp) (u := ku) (v := kv) (And.intro (by
    rcases Nat.eq_zero_or_pos kn with q | q
    · exact Or.inl (hm.1 q)
    · exact Or.inr (hm.2 q).1) ?_)
  intro y1 e1
  refine And.intro (fun h => ?_) (fun h => hK _ M ⟨fun _ => ⟨rfl, hp0⟩, fun q => absurd (hm.2 q).1 (by omega), fun _ _ => rfl⟩)
  have h0 : 0 < kn := by
    rcases Nat.eq_zero_or_pos kn with q | q
    · exact absurd (by rw [e1]; exact hm.1 q) h
    · exact q
  obtain ⟨k1, k2, k3⟩ := hm.2 h0
  refine And.intro ⟨k2, k3⟩ ?_
  intro M3 q3
  obtain ⟨l3, p3, c3⟩ := q3
  refine And.intro l3 (And.intro (by rw [c3 14 (by decide) (by decide) (by decide) (by decide)]; exact (qY_ol hy).1) ?_)
  intro M5 q5 M6 e6
  have c6 : ∀ c, c ≠ 0 → M6 c = M5 c := fun c hc => by rw [e6, qu_cf hc]
  have l6 := qLR_mem l3 (M2 := M6) (by rw [c6 4 (by decide), q5.2 4 (by decide) (by decide)]) (by rw [c6 6 (by decide), q5.2 6 (by decide) (by decide)]) (by rw [c6 8 (by decide), q5.2 8 (by decide) (by decide)])
  have ca : ∀ c, c ≠ 0 → c ≠ 14 → c ≠ 16 → c ≠ 4 → c ≠ 6 → c ≠ 8 → c ≠ 58 → M6 c = M c := fun c g0 g1 g2 g3 g4 g5 g6 => by rw [c6 c g0, q5.2 c g1 g2, c3 c g3 g4 g5 g6]
  intro y7 e7
  rw [l6.1] at e7
  exact hK _ M6 ⟨fun z => absurd z (by omega), fun _ => ⟨e7, cI_new hp0 l6 (qPR_mem p3 (by rw [c6 58 (by decide), q5.2 58 (by decide) (by decide)])) (qY_mem q5.1 (c6 14 (by decide)) (c6 16 (by decide))) (by rw [e6, qu_s]) (fun c hc => ca c (by omega) (by omega) (by omega) (by omega) (by omega) (by omega) (by omega))⟩, fun c hc => ca c (by omega) (by omega) (by omega) (by omega) (by omega) (by omega) (by omega)⟩
theorem en_C_count {T : qm_L} {n : Nat} {u v : Nat → Nat} {d : Nat} {K : qm_K} {M : qm_M} {x : Int} (h :
    (x = 0 →
     ∀ (y6 : Int), y6 = (M 4 2) →
     K (.inl y6) (qL T) M) ∧
    (x ≠ 0 →
     (x = 1 →
      ∀ (y5 : Int), y5 = (M 1 1) →
      K (.inl y5) (qL T) M) ∧
     (x ≠ 1 →
      (x = 2 →
       ∀ (y4 : Int), y4 = (M 14 2) →
       K (.inl y4) (qL T) M) ∧
      (x ≠ 2 →
       (x = 3 →
        ∀ (y3 : Int), y3 = (M 14 3) →
        K (.inl y3) (qL T) M) ∧
       (x ≠ 3 →
        (x = 4 →
         (M 4 2 = (n : Int) ∧ n ≤ 8) ∧
         (qPR M 56 n u v) ∧
         (∀ (r1 : Int), (r1 = (cnt (fun l => u l = 9) n : Int)) →
          K (.inl r1) (qL T) M)) ∧
        (x ≠ 4 →
         K (.inl ((-1))) (qL T) M)))))) : qm_Runs qm_P (d + 4) 131 [(.inr (some 0)), (.inl x)] (qL T) M K :=
  And.intro (Nat.le_of_ble_eq_true rfl) (show qm_TT qi_131 (qm_Runs qm_P (d + 3)) K 0 [some (.inr (some 0)), some (.inl x)] [] (qL T) M 0 0 from qm_wp_TT [] 9 (And.intro (fun q7 => Exists.intro 4 (And.intro (lf_0_1 T) (And.intro (lo_4 T) (s_Lists_each (d := d + 2) (lLs_4 T)  (((h.1 q7) _ rfl)))))) (fun q8 => And.intro (fun q9 => Exists.intro 1 (And.intro (lf_0_0 T) (And.intro (lo_1 T) (s_Tape_length (d := d + 2)   ((((h.2 q8).1 q9) _ rfl)))))) (fun q10 => And.intro (fun q11 => Exists.intro 14 (And.intro (lf_0_3 T) (And.intro (lo_14 T) (s_Hist_behind (d := d + 2)   (((((h.2 q8).2 q10).1 q11) _ rfl)))))) (fun q12 => And.intro (fun q13 => Exists.intro 14 (And.intro (lf_0_3 T) (And.intro (lo_14 T) (s_Hist_before (d := d + 2)   ((((((h.2 q8).2 q10).2 q12).1 q13) _ rfl)))))) (fun q14 => And.intro (fun q15 => And.intro (lo_0 T) (s_C_leftsAlone (d := d + 0)  ((((((h.2 q8).2 q10).2 q12).2 q14).1 q15).1) ((((((h.2 q8).2 q10).2 q12).2 q14).1 q15).2.1) (fun r1 p17 => ((((((h.2 q8).2 q10).2 q12).2 q14).1 q15).2.2 r1 p17)))) (fun q16 => (((((h.2 q8).2 q10).2 q12).2 q14).2 q16))))))))
theorem s_C_count {T : qm_L} {n b f ln kn : Nat} {H : Nat → Nat → Nat} {p u v tp kw kp ku kv : Nat → Nat} {d : Nat} {K : qm_K} {M : qm_M} {x : Int} (hp0 : cI M n H b f p u v ln tp kn kw kp ku kv) (hK : ∀ (r : Int), (r = anCount n ln b f u x) → K (.inl r) (qL T) M) : qm_Runs qm_P (d + 4) 131 [(.inr (some 0)), (.inl x)] (qL T) M K := by
  obtain ⟨hl, hh, hy, ht, hm, hs⟩ := id hp0
  have hI := hl.2.2.2
  have h1 := hI.1
  have h8 := hI.2.1
  
  obtain ⟨y1, y2, y3, y4⟩ := qY_ol hy
  have fin : ∀ r, r = anCount n ln b f u x → K (.inl r) (qL T) M := fun r hr => hK r hr
  unfold anCount at fin
  refine en_C_count (n := n) (u := u) (v := v) (And.intro (fun h => ?_) (fun h => And.intro (fun g1 => ?_) (fun g1 => And.intro (fun h2 => ?_) (fun h2 => And.intro (fun h3 => ?_) (fun h3 => And.intro (fun h4 => And.intro ⟨hl.1, h8⟩ (And.intro hh ?_)) (fun h4 => fin _ ?_))))))
  · intro z e; exact fin _ (by rw [if_pos h, e, hl.1])
  · intro z e; exact fin _ (by rw [if_neg h, if_pos g1, e, ht.1])
  · intro z e; exact fin _ (by rw [if_neg h, if_neg g1, if_pos h2, e, y2])
  · intro z e; exact fin _ (by rw [if_neg h, if_neg g1, if_neg h2, if_pos h3, e, y3])
  · intro z e; exact fin _ (by rw [if_neg h, if_neg g1, if_neg h2, if_neg h3, if_pos h4, e])
  · rw [if_neg h, if_neg g1, if_neg h2, if_neg h3, if_neg h4]
theorem or_cz {x : Nat} {y : Int} (h : y = cz x) : (if y = -1 then -2 else y) = mz x := by
  rw [h]
  by_cases q : x = 9
  · rw [q]; rfl
  · rw [if_neg (fun z => q (cz_iff.mp z)), cz_n q, mz_n q]
theorem en_C_handed {T : qm_L}  {d : Nat} {K : qm_K} {M : qm_M} {l : Int} (h :
    ((0 ≤ l ∧ l < M 4 2) →
     ∀ (y1 : Int), y1 = (gPar M 56 0 l) →
     ∀ (y2 : Int), y2 = (if y1 = -1 then -2 else y1) →
     K (.inl y2) (qL T) M) ∧
    (¬ (0 ≤ l ∧ l < M 4 2) →
     K (.inl ((-1))) (qL T) M)) : qm_Runs qm_P (d + 3) 124 [(.inr (some 0)), (.inl l)] (qL T) M K :=
  And.intro (Nat.le_of_ble_eq_true rfl) (show qm_TT qi_124 (qm_Runs qm_P (d + 2)) K 0 [some (.inr (some 0)), some (.inl l)] [] (qL T) M 0 0 from qm_wp_TT [] 14 (And.intro (lo_0 T) (s_C_isOne (d := d + 0)   (And.intro (fun q3 => Exists.intro 56 (And.intro (lf_0_7 T) (And.intro (lo_56 T) (s_Pair_partner (d := d + 0) (lPr_56 T)  (And.intro True.intro (s_C_orNot (d := d + 1)   ((((h.1 (qm_b1 q3)) _ rfl) _ rfl)))))))) (fun q4 => (h.2 (qm_b2 q4)))))))
theorem s_C_handed {T : qm_L} {n b f ln kn : Nat} {H : Nat → Nat → Nat} {p u v tp kw kp ku kv : Nat → Nat} {d : Nat} {K : qm_K} {M : qm_M} {l : Int} (hp0 : cI M n H b f p u v ln tp kn kw kp ku kv) (hK : ∀ (r : Int), (r = anHanded n u l) → K (.inl r) (qL T) M) : qm_Runs qm_P (d + 3) 124 [(.inr (some 0)), (.inl l)] (qL T) M K := by
  obtain ⟨hl, hh, hy, ht, hm, hs⟩ := id hp0
  have hI := hl.2.2.2
  have h1 := hI.1
  have h8 := hI.2.1
  
  refine en_C_handed ?_
  rw [hl.1]
  refine And.intro (fun h => ?_) (fun h => hK _ (by unfold anHanded; rw [if_pos (by omega)]))
  intro y1 e1 y2 e2
  obtain ⟨l, rfl⟩ : ∃ b : Nat, l = (b : Int) := ⟨l.toNat, by omega⟩
  rw [gPar_l hh h8 (by omega)] at e1
  refine hK _ ?_
  unfold anHanded
  rw [if_neg (by omega), e2, or_cz e1, Int.toNat_natCast]
theorem en_C_hand {T : qm_L}  {d : Nat} {K : qm_K} {M : qm_M} {l : Int} {g : Int} (h :
    ((0 ≤ l ∧ l < M 4 2) →
     (g = (-1) →
      ∀ (y1 : Int), y1 = (gPar M 56 0 l) →
      (g ≠ (-1) →
       (0 ≤ (0 : Int) ∧ (0 : Int) ≤ 1) ∧
       ∀ (M2 : qm_M), M2 = (sJoin M 56 0 l g) →
       ∀ (y3 : Int), y3 = (if y1 = -1 then -2 else y1) →
       K (.inl y3) (qL T) M2) ∧
      (¬ g ≠ (-1) →
       (0 ≤ (0 : Int) ∧ (0 : Int) ≤ 1) ∧
       ∀ (M4 : qm_M), M4 = (sPart M 56 0 l) →
       ∀ (y5 : Int), y5 = (if y1 = -1 then -2 else y1) →
       K (.inl y5) (qL T) M4)) ∧
     (¬ g = (-1) →
      ((0 ≤ g ∧ g < M 4 2) →
       ∀ (y6 : Int), y6 = (gPar M 56 0 l) →
       (g ≠ (-1) →
        (0 ≤ (0 : Int) ∧ (0 : Int) ≤ 1) ∧
        ∀ (M7 : qm_M), M7 = (sJoin M 56 0 l g) →
        ∀ (y8 : Int), y8 = (if y6 = -1 then -2 else y6) →
        K (.inl y8) (qL T) M7) ∧
       (¬ g ≠ (-1) →
        (0 ≤ (0 : Int) ∧ (0 : Int) ≤ 1) ∧
        ∀ (M9 : qm_M), M9 = (sPart M 56 0 l) →
        ∀ (y10 : Int), y10 = (if y6 = -1 then -2 else y6) →
        K (.inl y10) (qL T) M9)) ∧
      (¬ (0 ≤ g ∧ g < M 4 2) →
       K (.inl ((-1))) (qL T) M))) ∧
    (¬ (0 ≤ l ∧ l < M 4 2) →
     K (.inl ((-1))) (qL T) M)) : qm_Runs qm_P (d + 4) 123 [(.inr (some 0)), (.inl l), (.inl g)] (qL T) M K :=
  And.intro (Nat.le_of_ble_eq_true rfl) (show qm_TT qi_123 (qm_Runs qm_P (d + 3)) K 0 [some (.inr (some 0)), some (.inl l), some (.inl g), none] [] (qL T) M 0 0 from qm_wp_TT [] 32 (And.intro (lo_0 T) (s_C_isOne (d := d + 1)   (And.intro (fun q11 => (h.2 (qm_b0 q11))) (fun q12 => And.intro (fun q13 => Exists.intro 56 (And.intro (lf_0_7 T) (And.intro (lo_56 T) (s_Pair_partner (d := d + 1) (lPr_56 T)  (And.intro (fun q15 => Exists.intro 56 (And.intro (lf_0_7 T) (And.intro (lo_56 T) (s_Pair_join (d := d + 0) (lPr_56 T) (((((h.1 (qm_b1 q12)).1 q13) _ rfl).1 q15).1) (And.intro True.intro (s_C_orNot (d := d + 2)   (((((((h.1 (qm_b1 q12)).1 q13) _ rfl).1 q15).2 _ rfl) _ rfl)))))))) (fun q16 => Exists.intro 56 (And.intro (lf_0_7 T) (And.intro (lo_56 T) (s_Pair_part (d := d + 1) (lPr_56 T) (((((h.1 (qm_b1 q12)).1 q13) _ rfl).2 q16).1) (And.intro True.intro (s_C_orNot (d := d + 2)   (((((((h.1 (qm_b1 q12)).1 q13) _ rfl).2 q16).2 _ rfl) _ rfl))))))))))))) (fun q14 => And.intro (lo_0 T) (s_C_isOne (d := d + 1)   (And.intro (fun q17 => Exists.intro 56 (And.intro (lf_0_7 T) (And.intro (lo_56 T) (s_Pair_partner (d := d + 1) (lPr_56 T)  (And.intro (fun q19 => Exists.intro 56 (And.intro (lf_0_7 T) (And.intro (lo_56 T) (s_Pair_join (d := d + 0) (lPr_56 T) ((((((h.1 (qm_b1 q12)).2 q14).1 (qm_b1 q17)) _ rfl).1 q19).1) (And.intro True.intro (s_C_orNot (d := d + 2)   ((((((((h.1 (qm_b1 q12)).2 q14).1 (qm_b1 q17)) _ rfl).1 q19).2 _ rfl) _ rfl)))))))) (fun q20 => Exists.intro 56 (And.intro (lf_0_7 T) (And.intro (lo_56 T) (s_Pair_part (d := d + 1) (lPr_56 T) ((((((h.1 (qm_b1 q12)).2 q14).1 (qm_b1 q17)) _ rfl).2 q20).1) (And.intro True.intro (s_C_orNot (d := d + 2)   ((((((((h.1 (qm_b1 q12)).2 q14).1 (qm_b1 q17)) _ rfl).2 q20).2 _ rfl) _ rfl))))))))))))) (fun q18 => (((h.1 (qm_b1 q12)).2 q14).2 (qm_b2 q18)))))))))))
theorem s_C_hand {T : qm_L} {n b f ln kn : Nat} {H : Nat → Nat → Nat} {p u v tp kw kp ku kv : Nat → Nat} {d : Nat} {K : qm_K} {M : qm_M} {l : Int} {g : Int} (hp0 : cI M n H b f p u v ln tp kn kw kp ku kv) (hK : ∀ (r : Int) (M2 : qm_M), (r = anHand n u l g ∧ cI M2 n H b f p (hnP n u v l g).1 (hnP n u v l g).2 ln tp kn kw kp ku kv ∧ (∀ c, 71 ≤ c → M2 c = M c)) → K (.inl r) (qL T) M2) : qm_Runs qm_P (d + 4) 123 [(.inr (some 0)), (.inl l), (.inl g)] (qL T) M K := by
  obtain ⟨hl, hh, hy, ht, hm, hs⟩ := id hp0
  have hI := hl.2.2.2
  have h1 := hI.1
  have h8 := hI.2.1
  
  have bad : hnBad n l g → K (.inl (-1)) (qL T) M := fun h => hK _ M ⟨by unfold anHand; rw [if_pos h], by unfold hnP; rw [if_pos h]; exact hp0, fun _ _ => rfl⟩
  have good : ¬ hnBad n l g → ∀ M2 : qm_M, qPR M2 56 n (hnP n u v l g).1 (hnP n u v l g).2 → (∀ c, c ≠ 58 → M2 c = M c) → ∀ y1, y1 = gPar M 56 0 l → ∀ y3, y3 = (if y1 = -1 then -2 else y1) → K (.inl y3) (qL T) M2 := fun h M2 p2 c2 y1 e1 y3 e3 => by
    obtain ⟨l, rfl⟩ : ∃ b : Nat, l = (b : Int) := ⟨l.toNat, by unfold hnBad at h; omega⟩
    rw [gPar_l hh h8 (by unfold hnBad at h; omega)] at e1
    refine hK _ M2 ⟨by unfold anHand; rw [if_neg h, e3, or_cz e1, Int.toNat_natCast], ⟨qLR_mem hl (c2 _ (by decide)) (c2 _ (by decide)) (c2 _ (by decide)), p2, qY_mem hy (c2 _ (by decide)) (c2 _ (by decide)), cTp_mem ht (c2 _ (by decide)) (c2 _ (by decide)), cIm_mem hm (c2 _ (by decide)) (c2 _ (by decide)) (c2 _ (by decide)) (c2 _ (by decide)) (c2 _ (by decide)), fun z => ?_⟩, fun c hc => c2 c (by omega)⟩
    rw [c2 0 (by decide)] at z
    have := hs z
    exact ⟨qTn_mem this.1 (c2 _ (by decide)) (c2 _ (by decide)) (c2 _ (by decide)) (c2 _ (by decide)) (c2 _ (by decide)) (c2 _ (by decide)) (c2 _ (by decide)), qMs_mem this.2 (c2 _ (by decide)) (c2 _ (by decide)) (c2 _ (by decide))⟩
  refine en_C_hand ?_
  rw [hl.1]
  refine And.intro (fun h => And.intro (fun h2 => ?_) (fun h2 => And.intro (fun h3 => ?_) (fun h3 => bad (by unfold hnBad; omega)))) (fun h => bad (by unfold hnBad; omega))
  · intro y1 e1
    refine And.intro (fun z => absurd h2 z) (fun _ => And.intro (by decide) ?_)
    intro M4 e4
    have hb : ¬ hnBad n l g := by unfold hnBad; omega
    refine good hb M4 ?_ (fun c hc => by rw [e4, sPart_c hc]) y1 e1
    unfold hnP
    rw [if_neg hb, if_pos (by omega), e4]
    obtain ⟨l, rfl⟩ : ∃ b : Nat, l = (b : Int) := ⟨l.toNat, by omega⟩
    rw [Int.toNat_natCast]
    exact sPart_l hh h8 (by omega)
  · intro y1 e1
    refine And.intro (fun _ => And.intro (by decide) ?_) (fun z => absurd z (by omega))
    intro M4 e4
    have hb : ¬ hnBad n l g := by unfold hnBad; omega
    refine good hb M4 ?_ (fun c hc => by rw [e4, sJoin_c hc]) y1 e1
    unfold hnP
    rw [if_neg hb, if_neg (by omega), e4]
    obtain ⟨l, rfl⟩ : ∃ b : Nat, l = (b : Int) := ⟨l.toNat, by omega⟩
    obtain ⟨g, rfl⟩ : ∃ b : Nat, g = (b : Int) := ⟨g.toNat, by omega⟩
    rw [Int.toNat_natCast, Int.toNat_natCast]
    exact sJoin_l hh h8 (by omega) (by omega)
theorem fb_y {n : Nat} {p u v : Nat → Nat} {y : Int} (h : y = (cz (if fbk n p u v = 99 then 9 else fbk n p u v + 10) - (if fbk n p u v = 99 then 0 else 10))) : (fbk n p u v = 99 ∧ y = -1) ∨ (fbk n p u v ≠ 99 ∧ y = (fbk n p u v : Int)) := by
  by_cases q : fbk n p u v = 99
  · rw [if_pos q, if_pos q] at h
    exact Or.inl ⟨q, h⟩
  · rw [if_neg q, if_neg q, cz_n (by omega)] at h
    exact Or.inr ⟨q, by omega⟩
theorem en_C_blocks {T : qm_L} {n : Nat} {w p u v : Nat → Nat} {d : Nat} {K : qm_K} {M : qm_M}  (h :
    (qLR M 4 n w p) ∧
    (qPR M 56 n u v) ∧
    ∀ (y1 : Int), y1 = (cz (if fbk n p u v = 99 then 9 else fbk n p u v + 10) - (if fbk n p u v = 99 then 0 else 10)) →
    ∀ (y2 : Int), y2 = (if y1 = -1 then -2 else y1) →
    K (.inl y2) (qL T) M) : qm_Runs qm_P (d + 6) 125 [(.inr (some 0))] (qL T) M K :=
  And.intro (Nat.le_of_ble_eq_true rfl) (show qm_TT qi_125 (qm_Runs qm_P (d + 5)) K 0 [some (.inr (some 0))] [] (qL T) M 0 0 from qm_wp_TT [] 10 (Exists.intro 4 (And.intro (lf_0_1 T) (Exists.intro 56 (And.intro (lf_0_7 T) (And.intro (lo_4 T) (s_Lists_firstBlock (d := d + 0) (lLs_4 T) (lPr_56 T) (h.1) (h.2.1) (And.intro True.intro (s_C_orNot (d := d + 4)   (((h.2.2 _ rfl) _ rfl)))))))))))
theorem s_C_blocks {T : qm_L} {n b f ln kn : Nat} {H : Nat → Nat → Nat} {p u v tp kw kp ku kv : Nat → Nat} {d : Nat} {K : qm_K} {M : qm_M}  (hp0 : cI M n H b f p u v ln tp kn kw kp ku kv) (hK : ∀ (r : Int), (r = fbz n p u v) → K (.inl r) (qL T) M) : qm_Runs qm_P (d + 6) 125 [(.inr (some 0))] (qL T) M K := by
  obtain ⟨hl, hh, hy, ht, hm, hs⟩ := id hp0
  have hI := hl.2.2.2
  have h1 := hI.1
  have h8 := hI.2.1
  
  refine en_C_blocks (n := n) (w := H b) (p := p) (u := u) (v := v) (And.intro hl (And.intro hh ?_))
  intro y1 e1 y2 e2
  refine hK _ ?_
  unfold fbz
  rcases fb_y e1 with q | q
  · rw [if_pos q.1, e2, if_pos q.2]
  · rw [if_neg q.1, e2, if_neg (by omega), q.2]
theorem en_C_blocking {T : qm_L} {n : Nat} {w p u v : Nat → Nat} {d : Nat} {K : qm_K} {M : qm_M}  (h :
    (qLR M 4 n w p) ∧
    (qPR M 56 n u v) ∧
    ∀ (y1 : Int), y1 = (nbk n p u v : Int) →
    K (.inl y1) (qL T) M) : qm_Runs qm_P (d + 6) 126 [(.inr (some 0))] (qL T) M K :=
  And.intro (Nat.le_of_ble_eq_true rfl) (show qm_TT qi_126 (qm_Runs qm_P (d + 5)) K 0 [some (.inr (some 0))] [] (qL T) M 0 0 from qm_wp_TT [] 9 (Exists.intro 4 (And.intro (lf_0_1 T) (Exists.intro 56 (And.intro (lf_0_7 T) (And.intro (lo_4 T) (s_Lists_howManyBlock (d := d + 0) (lLs_4 T) (lPr_56 T) (h.1) (h.2.1) ((h.2.2 _ rfl)))))))))
theorem s_C_blocking {T : qm_L} {n b f ln kn : Nat} {H : Nat → Nat → Nat} {p u v tp kw kp ku kv : Nat → Nat} {d : Nat} {K : qm_K} {M : qm_M}  (hp0 : cI M n H b f p u v ln tp kn kw kp ku kv) (hK : ∀ (r : Int), (r = (nbk n p u v : Int)) → K (.inl r) (qL T) M) : qm_Runs qm_P (d + 6) 126 [(.inr (some 0))] (qL T) M K := by
  obtain ⟨hl, hh, hy, ht, hm, hs⟩ := id hp0
  have hI := hl.2.2.2
  have h1 := hI.1
  have h8 := hI.2.1
  
  refine en_C_blocking (n := n) (w := H b) (p := p) (u := u) (v := v) (And.intro hl (And.intro hh ?_))
  intro y1 e1
  exact hK _ e1
theorem en_C_mended {T : qm_L} {n : Nat} {w p u v : Nat → Nat} {d : Nat} {K : qm_K} {M : qm_M} {x : Int} (h :
    (x = (-1) →
     (qLR M 4 n w p) ∧
     (qPR M 56 n u v) ∧
     (∀ (r1 : Int) (M2 : qm_M), ((mdT n p u v = 201 → r1 = -7) ∧ (mdT n p u v < 201 → r1 = (mdT n p u v : Int) ∧ qPR M2 59 n (mds n p (u, v) (mdT n p u v)).1 (mds n p (u, v) (mdT n p u v)).2) ∧ ∀ c, c ≠ 61 → M2 c = M c) →
      (r1 = (-7) →
       K (.inl r1) (qL T) M2) ∧
      (¬ r1 = (-7) →
       (x ≠ (-1) →
        ∀ (y3 : Int), y3 = (gPar M2 59 0 x) →
        ∀ (y4 : Int), y4 = (if y3 = -1 then -2 else y3) →
        K (.inl y4) (qL T) M2) ∧
       (¬ x ≠ (-1) →
        K (.inl r1) (qL T) M2)))) ∧
    (¬ x = (-1) →
     ((0 ≤ x ∧ x < M 4 2) →
      (qLR M 4 n w p) ∧
      (qPR M 56 n u v) ∧
      (∀ (r5 : Int) (M6 : qm_M), ((mdT n p u v = 201 → r5 = -7) ∧ (mdT n p u v < 201 → r5 = (mdT n p u v : Int) ∧ qPR M6 59 n (mds n p (u, v) (mdT n p u v)).1 (mds n p (u, v) (mdT n p u v)).2) ∧ ∀ c, c ≠ 61 → M6 c = M c) →
       (r5 = (-7) →
        K (.inl r5) (qL T) M6) ∧
       (¬ r5 = (-7) →
        (x ≠ (-1) →
         ∀ (y7 : Int), y7 = (gPar M6 59 0 x) →
         ∀ (y8 : Int), y8 = (if y7 = -1 then -2 else y7) →
         K (.inl y8) (qL T) M6) ∧
        (¬ x ≠ (-1) →
         K (.inl r5) (qL T) M6)))) ∧
     (¬ (0 ≤ x ∧ x < M 4 2) →
      K (.inl ((-1))) (qL T) M))) : qm_Runs qm_P (d + 7) 127 [(.inr (some 0)), (.inl x)] (qL T) M K :=
  And.intro (Nat.le_of_ble_eq_true rfl) (show qm_TT qi_127 (qm_Runs qm_P (d + 6)) K 0 [some (.inr (some 0)), some (.inl x), none] [] (qL T) M 0 0 from qm_wp_TT [] 26 (And.intro (fun q9 => And.intro (lo_0 T) (s_C_mend (d := d + 0)  ((h.1 q9).1) ((h.1 q9).2.1) (fun r1 M2 p11 => And.intro (fun q12 => (((h.1 q9).2.2 r1 M2 p11).1 q12)) (fun q13 => And.intro (fun q14 => Exists.intro 59 (And.intro (lf_0_8 T) (And.intro (lo_59 T) (s_Pair_partner (d := d + 4) (lPr_59 T)  (And.intro True.intro (s_C_orNot (d := d + 5)   (((((((h.1 q9).2.2 r1 M2 p11).2 q13).1 q14) _ rfl) _ rfl)))))))) (fun q15 => ((((h.1 q9).2.2 r1 M2 p11).2 q13).2 q15)))))) (fun q10 => And.intro (lo_0 T) (s_C_isOne (d := d + 4)   (And.intro (fun q16 => And.intro (lo_0 T) (s_C_mend (d := d + 0)  (((h.2 q10).1 (qm_b1 q16)).1) (((h.2 q10).1 (qm_b1 q16)).2.1) (fun r5 M6 p18 => And.intro (fun q19 => ((((h.2 q10).1 (qm_b1 q16)).2.2 r5 M6 p18).1 q19)) (fun q20 => And.intro (fun q21 => Exists.intro 59 (And.intro (lf_0_8 T) (And.intro (lo_59 T) (s_Pair_partner (d := d + 4) (lPr_59 T)  (And.intro True.intro (s_C_orNot (d := d + 5)   ((((((((h.2 q10).1 (qm_b1 q16)).2.2 r5 M6 p18).2 q20).1 q21) _ rfl) _ rfl)))))))) (fun q22 => (((((h.2 q10).1 (qm_b1 q16)).2.2 r5 M6 p18).2 q20).2 q22)))))) (fun q17 => ((h.2 q10).2 (qm_b2 q17))))))))
theorem s_C_mended {T : qm_L} {n b f ln kn : Nat} {H : Nat → Nat → Nat} {p u v tp kw kp ku kv : Nat → Nat} {d : Nat} {K : qm_K} {M : qm_M} {x : Int} (hp0 : cI M n H b f p u v ln tp kn kw kp ku kv) (hK : ∀ (r : Int) (M2 : qm_M), (r = anMended n p u v x ∧ ∀ c, c ≠ 61 → M2 c = M c) → K (.inl r) (qL T) M2) : qm_Runs qm_P (d + 7) 127 [(.inr (some 0)), (.inl x)] (qL T) M K := by
  obtain ⟨hl, hh, hy, ht, hm, hs⟩ := id hp0
  have hI := hl.2.2.2
  have h1 := hI.1
  have h8 := hI.2.1
  
  have go : (x = -1 ∨ (0 ≤ x ∧ x < (n : Int))) → ∀ (r1 : Int) (M2 : qm_M), ((mdT n p u v = 201 → r1 = -7) ∧ (mdT n p u v < 201 → r1 = (mdT n p u v : Int) ∧ qPR M2 59 n (mds n p (u, v) (mdT n p u v)).1 (mds n p (u, v) (mdT n p u v)).2) ∧ ∀ c, c ≠ 61 → M2 c = M c) → (r1 = (-7) → K (.inl r1) (qL T) M2) ∧ (¬ r1 = (-7) → (x ≠ (-1) → ∀ (y3 : Int), y3 = (gPar M2 59 0 x) → ∀ (y4 : Int), y4 = (if y3 = -1 then -2 else y3) → K (.inl y4) (qL T) M2) ∧ (¬ x ≠ (-1) → K (.inl r1) (qL T) M2)) := fun hx r1 M2 q => by
    have hle : mdT n p u v ≤ 201 := lst_le _ _
    have fin : ∀ r, r = anMended n p u v x → K (.inl r) (qL T) M2 := fun r hr => hK r M2 ⟨hr, q.2.2⟩
    unfold anMended at fin
    rw [if_neg (by omega)] at fin
    refine And.intro (fun h => fin _ ?_) (fun h => And.intro (fun h3 => ?_) (fun h3 => fin _ ?_))
    · rcases Nat.lt_or_ge (mdT n p u v) 201 with z | z
      · have := (q.2.1 z).1; omega
      · rw [if_pos (by omega), h]
    · have z : mdT n p u v < 201 := by
        rcases Nat.lt_or_ge (mdT n p u v) 201 with z | z
        · exact z
        · exact absurd (q.1 (by omega)) h
      intro y3 e3 y4 e4
      obtain ⟨x, rfl⟩ : ∃ b : Nat, x = (b : Int) := ⟨x.toNat, by omega⟩
      rw [gPar_l (q.2.1 z).2 h8 (by omega)] at e3
      refine fin _ ?_
      rw [if_neg (by omega), if_neg (by omega), e4, or_cz e3, Int.toNat_natCast]
    · have z : mdT n p u v < 201 := by
        rcases Nat.lt_or_ge (mdT n p u v) 201 with z | z
        · exact z
        · exact absurd (q.1 (by omega)) h
      rw [if_neg (by omega), if_pos (by omega), (q.2.1 z).1]
  refine en_C_mended (n := n) (w := H b) (p := p) (u := u) (v := v) ?_
  rw [hl.1]
  refine And.intro (fun h => And.intro hl (And.intro hh (go (Or.inl h)))) (fun h => And.intro (fun h2 => And.intro hl (And.intro hh (go (Or.inr h2)))) (fun h2 => hK _ M ⟨?_, fun _ _ => rfl⟩))
  unfold anMended
  rw [if_pos (by omega)]
theorem en_C_lists {T : qm_L} {n ln b f : Nat} {tp : Nat → Nat} {H : Nat → Nat → Nat} {w p w2 p2 : Nat → Nat} {d : Nat} {K : qm_K} {M : qm_M}  (h :
    (¬ 6 = 11) ∧
    (¬ 8 = 13) ∧
    ∀ (M1 : qm_M), M1 = (cRow (cRow (qm_u M 9 2 (M 4 2)) 11 128 6) 13 128 8) →
    (cTp M1 ln tp ∧ qLR M1 9 n w p) ∧
    (∀ (r2 : Int) (M3 : qm_M), (r2 = lsE n ln tp ∧ (0 ≤ lsE n ln tp → qLR M3 9 n (wL n ln tp w (lsI n ln tp + 1)) (pL n ln tp p (lsI n ln tp + 1))) ∧ ∀ c, c ≠ 11 → c ≠ 13 → M3 c = M1 c) →
     ∀ (M4 : qm_M), M4 = (qm_u M3 1 1 0) →
     (0 ≤ r2 →
      (¬ 11 = 6) ∧
      (¬ 13 = 8) ∧
      ∀ (M5 : qm_M), M5 = (cRow (cRow (qm_u M4 4 2 (M4 9 2)) 6 128 11) 8 128 13) →
      (qLR M5 4 n w2 p2) ∧
      (qY M5 n H b f) ∧
      (∀ (M7 : qm_M), (qY M7 n (if b < 12 then (fun i => if i < b + 1 then H i else w2) else (fun i => if i < 12 then H (i + 1) else w2)) (if b < 12 then b + 1 else 12) 0 ∧ (∀ c, c ≠ 14 → c ≠ 16 → M7 c = M5 c)) →
       ∀ (M8 : qm_M), M8 = (qm_u M7 0 10 0) →
       K (.inl r2) (qL T) M8)) ∧
     (¬ 0 ≤ r2 →
      K (.inl r2) (qL T) M4))) : qm_Runs qm_P (d + 7) 99 [(.inr (some 0))] (qL T) M K :=
  And.intro (Nat.le_of_ble_eq_true rfl) (show qm_TT qi_99 (qm_Runs qm_P (d + 6)) K 0 [some (.inr (some 0)), none] [] (qL T) M 0 0 from qm_wp_TT [] 34 (Exists.intro 9 (And.intro (lf_0_2 T) (Exists.intro 4 (And.intro (lf_0_1 T) (And.intro (lo_9 T) (s_Lists_copyFrom (d := d + 3) (lLs_9 T) (lLs_4 T) (h.1) (h.2.1) (Exists.intro 1 (And.intro (lf_0_0 T) (Exists.intro 9 (And.intro (lf_0_2 T) (And.intro (lo_1 T) (s_Tape_readInto (d := d + 0)  ((h.2.2 _ rfl).1) (fun r2 M3 p9 => Exists.intro 1 (And.intro (lf_0_0 T) (And.intro (lo_1 T) (s_Tape_clear (d := d + 5)   (And.intro (fun q10 => Exists.intro 4 (And.intro (lf_0_1 T) (Exists.intro 9 (And.intro (lf_0_2 T) (And.intro (lo_4 T) (s_Lists_copyFrom (d := d + 3) (lLs_4 T) (lLs_9 T) (((((h.2.2 _ rfl).2 r2 M3 p9) _ rfl).1 q10).1) (((((h.2.2 _ rfl).2 r2 M3 p9) _ rfl).1 q10).2.1) (Exists.intro 14 (And.intro (lf_0_3 T) (Exists.intro 4 (And.intro (lf_0_1 T) (And.intro (lo_14 T) (s_Hist_note (d := d + 3)  ((((((h.2.2 _ rfl).2 r2 M3 p9) _ rfl).1 q10).2.2 _ rfl).1) ((((((h.2.2 _ rfl).2 r2 M3 p9) _ rfl).1 q10).2.2 _ rfl).2.1) (fun M7 p12 => And.intro (Or.inl rfl) (And.intro (lf_0_10 T) ((((((((h.2.2 _ rfl).2 r2 M3 p9) _ rfl).1 q10).2.2 _ rfl).2.2 M7 p12) _ rfl)))))))))))))))) (fun q11 => ((((h.2.2 _ rfl).2 r2 M3 p9) _ rfl).2 q11))))))))))))))))))))
theorem s_C_lists {T : qm_L} {n b f ln kn : Nat} {H : Nat → Nat → Nat} {p u v tp kw kp ku kv : Nat → Nat} {d : Nat} {K : qm_K} {M : qm_M}  (hp0 : cI M n H b f p u v ln tp kn kw kp ku kv) (hK : ∀ (r : Int) (M2 : qm_M), (r = lsE n ln tp ∧ (lsE n ln tp < 0 → cI M2 n H b f p u v 0 tp kn kw kp ku kv) ∧ (0 ≤ lsE n ln tp → cI M2 n (nH H b (wL n ln tp (H b) (lsI n ln tp + 1))) (nB b) 0 (pL n ln tp p (lsI n ln tp + 1)) u v 0 tp kn kw kp ku kv) ∧ (∀ c, 71 ≤ c → M2 c = M c)) → K (.inl r) (qL T) M2) : qm_Runs qm_P (d + 7) 99 [(.inr (some 0))] (qL T) M K := by
  obtain ⟨hl, hh, hy, ht, hm, hs⟩ := id hp0
  have hI := hl.2.2.2
  have h1 := hI.1
  have h8 := hI.2.1
  
  refine en_C_lists (n := n) (ln := ln) (b := b) (f := f) (tp := tp) (H := H) (w := H b) (p := p) (w2 := wL n ln tp (H b) (lsI n ln tp + 1)) (p2 := pL n ln tp p (lsI n ln tp + 1)) (And.intro (by decide) (And.intro (by decide) ?_))
  intro M1 e1
  obtain ⟨l1, c1⟩ := qLR_cp e1 rfl rfl rfl rfl (by decide) hl
  refine And.intro ⟨cTp_mem ht (c1 1 (by decide) (by decide) (by decide)) (c1 3 (by decide) (by decide) (by decide)), l1⟩ ?_
  intro r2 M3 q
  obtain ⟨q1, q2, q3⟩ := q
  intro M4 e4
  have c4 : ∀ c, c ≠ 1 → c ≠ 9 → c ≠ 11 → c ≠ 13 → M4 c = M c := fun c g0 g1 g2 g3 => by rw [e4, qu_cf g0, q3 c g2 g3, c1 c g1 g2 g3]
  have t4 : cTp M4 0 tp := ⟨by rw [e4, qu_s]; rfl, by omega, fun i hi => absurd hi (Nat.not_lt_zero _)⟩
  refine And.intro (fun h => And.intro (by decide) (And.intro (by decide) ?_)) (fun h => hK _ M4 ⟨q1, fun _ => ?_, fun z => absurd z (by omega), fun c hc => c4 c (by omega) (by omega) (by omega) (by omega)⟩)
  · intro M5 e5
    have hge : 0 ≤ lsE n ln tp := by omega
    have l4 := qLR_mem (q2 hge) (M2 := M4) (by rw [e4, qu_cf (by decide)]) (by rw [e4, qu_cf (by decide)]) (by rw [e4, qu_cf (by decide)])
    obtain ⟨l5, c5⟩ := qLR_cp e5 rfl rfl rfl rfl (by decide) l4
    refine And.intro l5 (And.intro (qY_mem hy (by rw [c5 14 (by decide) (by decide) (by decide), c4 14 (by decide) (by decide) (by decide) (by decide)]) (by rw [c5 16 (by decide) (by decide) (by decide), c4 16 (by decide) (by decide) (by decide) (by decide)])) ?_)
    intro M7 q7 M8 e8
    have c8 : ∀ c, c ≠ 0 → M8 c = M7 c := fun c hc => by rw [e8, qu_cf hc]
    have l8 := qLR_mem l5 (M2 := M8) (by rw [c8 4 (by decide), q7.2 4 (by decide) (by decide)]) (by rw [c8 6 (by decide), q7.2 6 (by decide) (by decide)]) (by rw [c8 8 (by decide), q7.2 8 (by decide) (by decide)])
    have cb : ∀ c, c ≠ 0 → c ≠ 14 → c ≠ 16 → c ≠ 4 → c ≠ 6 → c ≠ 8 → M8 c = M4 c := fun c g0 g1 g2 g3 g4 g5 => by rw [c8 c g0, q7.2 c g1 g2, c5 c g3 g4 g5]
    have ca : ∀ c, c ≠ 0 → c ≠ 14 → c ≠ 16 → c ≠ 4 → c ≠ 6 → c ≠ 8 → c ≠ 1 → c ≠ 9 → c ≠ 11 → c ≠ 13 → M8 c = M c := fun c g0 g1 g2 g3 g4 g5 g6 g7 g8 g9 => by rw [cb c g0 g1 g2 g3 g4 g5, c4 c g6 g7 g8 g9]
    refine hK _ M8 ⟨q1, fun z => absurd z (by omega), fun _ => ⟨by rw [nH_top]; exact l8, qPR_mem hh (ca 58 (by decide) (by decide) (by decide) (by decide) (by decide) (by decide) (by decide) (by decide) (by decide) (by decide)), qY_mem q7.1 (c8 14 (by decide)) (c8 16 (by decide)), cTp_mem t4 (cb 1 (by decide) (by decide) (by decide) (by decide) (by decide) (by decide)) (cb 3 (by decide) (by decide) (by decide) (by decide) (by decide) (by decide)), cIm_mem hm (ca _ (by decide) (by decide) (by decide) (by decide) (by decide) (by decide) (by decide) (by decide) (by decide) (by decide)) (ca _ (by decide) (by decide) (by decide) (by decide) (by decide) (by decide) (by decide) (by decide) (by decide) (by decide)) (ca _ (by decide) (by decide) (by decide) (by decide) (by decide) (by decide) (by decide) (by decide) (by decide) (by decide)) (ca _ (by decide) (by decide) (by decide) (by decide) (by decide) (by decide) (by decide) (by decide) (by decide) (by decide)) (ca _ (by decide) (by decide) (by decide) (by decide) (by decide) (by decide) (by decide) (by decide) (by decide) (by decide)), fun z => absurd (by rw [e8, qu_s]) z⟩, fun c hc => ca c (by omega) (by omega) (by omega) (by omega) (by omega) (by omega) (by omega) (by omega) (by omega) (by omega)⟩
  · have cc : ∀ c, 13 < c → M4 c = M c := fun c hc => c4 c (by omega) (by omega) (by omega) (by omega)
    refine ⟨qLR_mem hl (c4 _ (by decide) (by decide) (by decide) (by decide)) (c4 _ (by decide) (by decide) (by decide) (by decide)) (c4 _ (by decide) (by decide) (by decide) (by decide)), qPR_mem hh (cc _ (by decide)), qY_mem hy (cc _ (by decide)) (cc _ (by decide)), t4, cIm_mem hm (cc _ (by decide)) (cc _ (by decide)) (cc _ (by decide)) (cc _ (by decide)) (cc _ (by decide)), fun z => ?_⟩
    rw [c4 0 (by decide) (by decide) (by decide) (by decide)] at z
    have := hs z
    exact ⟨qTn_mem this.1 (cc _ (by decide)) (cc _ (by decide)) (cc _ (by decide)) (cc _ (by decide)) (cc _ (by decide)) (cc _ (by decide)) (cc _ (by decide)), qMs_mem this.2 (cc _ (by decide)) (cc _ (by decide)) (cc _ (by decide))⟩
