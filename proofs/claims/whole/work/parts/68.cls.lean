/-! the class: what changes its state -/
theorem qLR_cp {M M1 : qm_M} {o o2 o4 q q2 q4 n : Nat} {w p : Nat → Nat} (e : M1 = cRow (cRow (qm_u M o 2 (M q 2)) o2 128 q2) o4 128 q4) (h2 : o2 = o + 2) (h4 : o4 = o + 4) (g2 : q2 = q + 2) (g4 : q4 = q + 4) (hn : q2 ≠ o ∧ q4 ≠ o ∧ q4 ≠ o2) (h : qLR M q n w p) : qLR M1 o n w p ∧ ∀ c, c ≠ o → c ≠ o2 → c ≠ o4 → M1 c = M c := by
  subst h2 h4 g2 g4
  have h8 := h.2.2.2.2.1
  refine ⟨⟨?_, fun s a k hs ha hk => ?_, fun s a k hs ha hk => ?_, h.2.2.2⟩, fun c h1 h2 h3 => ?_⟩
  · rw [e]
    unfold cRow
    rw [if_neg (by omega), if_neg (by omega), qu_s]
    exact h.1
  · rw [e]
    unfold cRow
    rw [if_neg (by omega), if_pos rfl, if_pos (ix_lt hs (by omega) (by omega)), qu_c hn.1]
    exact h.2.1 s a k hs ha hk
  · rw [e]
    unfold cRow
    rw [if_pos rfl, if_pos (ix_lt hs (by omega) (by omega)), if_neg hn.2.2, qu_c hn.2.1]
    exact h.2.2.1 s a k hs ha hk
  · rw [e]
    funext y
    unfold cRow
    rw [if_neg h3, if_neg h2, qu_c h1]
theorem qPR_cp {M M1 : qm_M} {p c q c2 n : Nat} {u v : Nat → Nat} (e : M1 = cRow M c 16 c2) (h : c = p + 2) (h2 : c2 = q + 2) (h8 : n ≤ 8) (hp : qPR M q n u v) : qPR M1 p n u v ∧ ∀ d, d ≠ c → M1 d = M d := by
  subst h h2
  have g : ∀ x, x < 16 → M1 (p + 2) x = M (q + 2) x := fun x hx => by rw [e]; unfold cRow; rw [if_pos rfl, if_pos hx]
  exact ⟨⟨fun a ha => by rw [g a (by omega)]; exact hp.1 a ha, fun a ha => by rw [g (8 + a) (by omega)]; exact hp.2.1 a ha, hp.2.2⟩, fun d hd => by rw [e]; funext y; unfold cRow; rw [if_neg hd]⟩
theorem qLR_x {M M1 : qm_M} {o n s a k : Nat} {w p : Nat → Nat} (h : qLR M o n w p) (hs : s < 2) (ha : a < n) (hk : k + 1 < n) (e : M1 = sPut (sPut M o (s : Int) (a : Int) (k : Int) (gWho M o (s : Int) (a : Int) ((k : Int) + 1))) o (s : Int) (a : Int) ((k : Int) + 1) (gWho M o (s : Int) (a : Int) (k : Int))) : qLR M1 o n (xW w s a k (k + 1)) (xP w p s a k (k + 1)) ∧ ∀ c, c ≠ o + 2 → c ≠ o + 4 → M1 c = M c := by
  have hI := h.2.2.2
  have h8 := hI.2.1
  have gk := (hI.2.2 s a hs ha k (by omega)).1
  have gj := (hI.2.2 s a hs ha (k + 1) hk).1
  rw [show (k : Int) + 1 = ((k + 1 : Nat) : Int) by omega, gWho_n h hs ha hk, gWho_n h hs ha (by omega), sPut_n hs (by omega) (by omega) (by omega), sPut_n hs (by omega) (by omega) (by omega)] at e
  refine ⟨⟨?_, fun s1 a1 k1 q1 q2 q3 => ?_, fun s1 a1 k1 q1 q2 q3 => ?_, qInv_x hI hs ha (by omega) hk⟩, fun c h1 h2 => by rw [e, qu_cf h2, qu_cf h1, qu_cf h2, qu_cf h1]⟩
  · rw [e, qu_c (by omega), qu_c (by omega), qu_c (by omega), qu_c (by omega)]
    exact h.1
  · rw [e, qu_c (by omega)]
    by_cases z : ix s1 a1 k1 = ix s a (k + 1)
    · rw [z, qu_s, xW_i]
    · rw [qu_k z, qu_c (by omega)]
      by_cases y : ix s1 a1 k1 = ix s a k
      · rw [y, qu_s, xW_k]
      · rw [qu_k y, xW_o y z]
        exact h.2.1 s1 a1 k1 q1 q2 q3
  · rw [e]
    unfold xP
    by_cases z : ix s1 a1 k1 = ix s a (w (ix s a k))
    · rw [z, qu_s, uF_s]
    · rw [qu_k z, qu_c (by omega), uF_k z]
      by_cases y : ix s1 a1 k1 = ix s a (w (ix s a (k + 1)))
      · rw [y, qu_s, uF_s]
      · rw [qu_k y, qu_c (by omega), uF_k y]
        exact h.2.2.1 s1 a1 k1 q1 q2 q3
theorem qInv_uq {n : Nat} {w p p2 : Nat → Nat} (h : qInv n w p) (h2 : qInv n w p2) {s a k : Nat} (hs : s < 2) (ha : a < n) (hk : k < n) : p2 (ix s a k) = p (ix s a k) := by
  have g := h.2.2 s a hs ha k hk
  have := (h2.2.2 s a hs ha _ g.2.2.1).2.1
  rw [g.2.2.2] at this
  exact this
theorem cI_new {M M2 : qm_M} {n b f ln kn : Nat} {H : Nat → Nat → Nat} {p u v tp kw kp ku kv : Nat → Nat} {n2 b2 f2 : Nat} {H2 : Nat → Nat → Nat} {p2 u2 v2 : Nat → Nat} (h : cI M n H b f p u v ln tp kn kw kp ku kv) (hl : qLR M2 4 n2 (H2 b2) p2) (hh : qPR M2 56 n2 u2 v2) (hy : qY M2 n2 H2 b2 f2) (hs : M2 0 10 = 0) (hc : ∀ c, c = 1 ∨ c = 3 ∨ c = 62 ∨ c = 63 ∨ c = 65 ∨ c = 67 ∨ c = 70 → M2 c = M c) : cI M2 n2 H2 b2 f2 p2 u2 v2 ln tp kn kw kp ku kv :=
  ⟨hl, hh, hy, cTp_mem h.2.2.2.1 (hc _ (by decide)) (hc _ (by decide)), cIm_mem h.2.2.2.2.1 (hc _ (by decide)) (hc _ (by decide)) (hc _ (by decide)) (hc _ (by decide)) (hc _ (by decide)), fun z => absurd hs z⟩
theorem qY_ol {M : qm_M} {n b f : Nat} {H : Nat → Nat → Nat} (h : qY M n H b f) : (∃ ol : Nat, ol < 13 ∧ M 14 1 = (ol : Int)) ∧ M 14 2 = (b : Int) ∧ M 14 3 = (f : Int) ∧ b + f ≤ 12 := by
  obtain ⟨ol, h1, h2, h3, h4, h5, h6⟩ := h
  exact ⟨⟨ol, h1, h2⟩, h3, h4, h5⟩
theorem en_C_size {T : qm_L} {n : Nat} {w p : Nat → Nat} {d : Nat} {K : qm_K} {M : qm_M} {x : Int} (h :
    (x < 1 →
     K (.inl ((-1))) (qL T) M) ∧
    (¬ x < 1 →
     (x ≤ 8 →
      ∀ (y1 : Int), y1 = (M 4 2) →
      (1 ≤ x ∧ x ≤ 8) ∧
      (∀ (M3 : qm_M), (M3 4 2 = x ∧ (∀ s a k : Nat, s < 2 → (a : Int) < x → (k : Int) < x → M3 6 (ix s a k) = (k : Int) ∧ M3 8 (ix s a k) = (k : Int)) ∧ ∀ c b : Nat, c ≠ 4 → c ≠ 6 → c ≠ 8 → M3 c b = M c b) →
       ∀ (M4 : qm_M), M4 = (fRow M3 58 16 (-1)) →
       (qLR M4 4 n w p) ∧
       (∃ ol : Nat, ol < 13 ∧ M4 14 1 = (ol : Int)) ∧
       (∀ (M6 : qm_M), (qY M6 n (fun _ => w) 0 0 ∧ (∀ c, c ≠ 14 → c ≠ 16 → M6 c = M4 c)) →
        ∀ (M7 : qm_M), M7 = (qm_u M6 0 10 0) →
        K (.inl y1) (qL T) M7))) ∧
     (¬ x ≤ 8 →
      K (.inl ((-1))) (qL T) M))) : qm_Runs qm_P (d + 4) 97 [(.inr (some 0)), (.inl x)] (qL T) M K :=
  And.intro (Nat.le_of_ble_eq_true rfl) (show qm_TT qi_97 (qm_Runs qm_P (d + 3)) K 0 [some (.inr (some 0)), some (.inl x), none] [] (qL T) M 0 0 from qm_wp_TT [] 30 (And.intro (fun q8 => (h.1 q8)) (fun q9 => And.intro (fun q10 => Exists.intro 4 (And.intro (lf_0_1 T) (And.intro (lo_4 T) (s_Lists_each (d := d + 2) (lLs_4 T)  (Exists.intro 4 (And.intro (lf_0_1 T) (And.intro (lo_4 T) (s_Lists_begin (d := d + 0) (lLs_4 T) ((((h.2 q9).1 q10) _ rfl).1) (fun M3 p12 => Exists.intro 56 (And.intro (lf_0_7 T) (And.intro (lo_56 T) (s_Pair_clear (d := d + 1) (lPr_56 T)  (Exists.intro 14 (And.intro (lf_0_3 T) (Exists.intro 4 (And.intro (lf_0_1 T) (And.intro (lo_14 T) (s_Hist_forget (d := d + 0)  ((((((h.2 q9).1 q10) _ rfl).2 M3 p12) _ rfl).1) ((((((h.2 q9).1 q10) _ rfl).2 M3 p12) _ rfl).2.1) (fun M6 p13 => And.intro (Or.inl rfl) (And.intro (lf_0_10 T) ((((((((h.2 q9).1 q10) _ rfl).2 M3 p12) _ rfl).2.2 M6 p13) _ rfl)))))))))))))))))))))) (fun q11 => ((h.2 q9).2 q11)))))
theorem s_C_size {T : qm_L} {n b f ln kn : Nat} {H : Nat → Nat → Nat} {p u v tp kw kp ku kv : Nat → Nat} {d : Nat} {K : qm_K} {M : qm_M} {x : Int} (hp0 : cI M n H b f p u v ln tp kn kw kp ku kv) (hK : ∀ (r : Int) (M2 : qm_M), ((1 ≤ x ∧ x ≤ 8 → r = (n : Int) ∧ cI M2 (Int.toNat x) (fun _ => idw) 0 0 idw nn9 nn9 ln tp kn kw kp ku kv) ∧ (¬ (1 ≤ x ∧ x ≤ 8) → r = -1 ∧ cI M2 n H b f p u v ln tp kn kw kp ku kv) ∧ (∀ c, 71 ≤ c → M2 c = M c)) → K (.inl r) (qL T) M2) : qm_Runs qm_P (d + 4) 97 [(.inr (some 0)), (.inl x)] (qL T) M K := by
  obtain ⟨hl, hh, hy, ht, hm, hs⟩ := id hp0
  have hI := hl.2.2.2
  have h1 := hI.1
  have h8 := hI.2.1
  
  have bad : ¬ (1 ≤ x ∧ x ≤ 8) → K (.inl (-1)) (qL T) M := fun h => hK _ M ⟨fun q => absurd q h, fun _ => ⟨rfl, hp0⟩, fun _ _ => rfl⟩
  refine en_C_size (n := Int.toNat x) (w := idw) (p := idw) (And.intro (fun h => bad (by omega)) (fun h => And.intro (fun h2 => ?_) (fun h2 => bad (by omega))))
  intro y1 e1
  refine And.intro (by omega) ?_
  intro M3 q3 M4 e4
  have e58 : ∀ x, x < 16 → M4 58 x = -1 := fun x hx => by rw [e4]; unfold fRow; rw [if_pos rfl, if_pos hx]
  have c4 : ∀ c, c ≠ 58 → M4 c = M3 c := fun c hc => by rw [e4]; funext y; unfold fRow; rw [if_neg hc]
  have l4 : qLR M4 4 (Int.toNat x) idw idw := ⟨by rw [c4 4 (by decide), q3.1]; omega, fun s a k h1 h2 h3 => by rw [c4 6 (by decide), (q3.2.1 s a k h1 (by omega) (by omega)).1, ix_idw (by omega)], fun s a k h1 h2 h3 => by rw [c4 8 (by decide), (q3.2.1 s a k h1 (by omega) (by omega)).2, ix_idw (by omega)], qInv_id (by omega)⟩
  have c3 : ∀ c, c ≠ 4 → c ≠ 6 → c ≠ 8 → M3 c = M c := fun c g1 g2 g3 => funext fun y => q3.2.2 c y g1 g2 g3
  refine And.intro l4 (And.intro (by rw [c4 14 (by decide), c3 14 (by decide) (by decide) (by decide)]; exact (qY_ol hy).1) ?_)
  intro M6 q6 M7 e7
  have c7 : ∀ c, c ≠ 0 → M7 c = M6 c := fun c hc => by rw [e7, qu_cf hc]
  have c6 : ∀ c, c ≠ 0 → c ≠ 14 → c ≠ 16 → c ≠ 58 → c ≠ 4 → c ≠ 6 → c ≠ 8 → M7 c = M c := fun c g0 g1 g2 g3 g4 g5 g6 => by rw [c7 c g0, q6.2 c g1 g2, c4 c g3, c3 c g4 g5 g6]
  refine hK _ M7 ⟨fun _ => ⟨by rw [e1]; exact hl.1, cI_new hp0 (qLR_mem l4 (by rw [c7 4 (by decide), q6.2 4 (by decide) (by decide)]) (by rw [c7 6 (by decide), q6.2 6 (by decide) (by decide)]) (by rw [c7 8 (by decide), q6.2 8 (by decide) (by decide)])) ⟨fun a ha => by rw [c7 58 (by decide), q6.2 58 (by decide) (by decide), e58 a (by omega)]; rfl, fun a ha => by rw [c7 58 (by decide), q6.2 58 (by decide) (by decide), e58 (8 + a) (by omega)]; rfl, qPm_nn⟩ (qY_mem q6.1 (c7 14 (by decide)) (c7 16 (by decide))) (by rw [e7, qu_s]) (fun c hc => c6 c (by omega) (by omega) (by omega) (by omega) (by omega) (by omega) (by omega))⟩, fun q => absurd (show 1 ≤ x ∧ x ≤ 8 by omega) q, fun c hc => c6 c (by omega) (by omega) (by omega) (by omega) (by omega) (by omega) (by omega)⟩
theorem en_C_feed {T : qm_L} {ln : Nat} {tp : Nat → Nat} {d : Nat} {K : qm_K} {M : qm_M} {x : Int} (h :
    (x < 32 →
     K (.inl ((-1))) (qL T) M) ∧
    (¬ x < 32 →
     (x ≤ 126 →
      (cTp M ln tp) ∧
      (32 ≤ (x : Int) ∧ (x : Int) ≤ 126) ∧
      (∀ (r1 : Int) (M2 : qm_M), ((ln = 120 → r1 = 0 ∧ M2 = M) ∧ (ln < 120 → r1 = 1 ∧ cTp M2 (ln + 1) (updF tp ln (Int.toNat x)) ∧ ∀ c, c ≠ 1 → c ≠ 3 → M2 c = M c)) →
       (r1 = 0 →
        K (.inl ((-3))) (qL T) M2) ∧
       (¬ r1 = 0 →
        ∀ (y3 : Int), y3 = (M2 1 1) →
        K (.inl y3) (qL T) M2))) ∧
     (¬ x ≤ 126 →
      K (.inl ((-1))) (qL T) M))) : qm_Runs qm_P (d + 3) 98 [(.inr (some 0)), (.inl x)] (qL T) M K :=
  And.intro (Nat.le_of_ble_eq_true rfl) (show qm_TT qi_98 (qm_Runs qm_P (d + 2)) K 0 [some (.inr (some 0)), some (.inl x)] [] (qL T) M 0 0 from qm_wp_TT [] 19 (And.intro (fun q4 => (h.1 q4)) (fun q5 => And.intro (fun q6 => Exists.intro 1 (And.intro (lf_0_0 T) (And.intro (lo_1 T) (s_Tape_add (d := d + 0)  (((h.2 q5).1 q6).1) (((h.2 q5).1 q6).2.1) (fun r1 M2 p8 => And.intro (fun q9 => ((((h.2 q5).1 q6).2.2 r1 M2 p8).1 q9)) (fun q10 => Exists.intro 1 (And.intro (lf_0_0 T) (And.intro (lo_1 T) (s_Tape_length (d := d + 1)   ((((((h.2 q5).1 q6).2.2 r1 M2 p8).2 q10) _ rfl))))))))))) (fun q7 => ((h.2 q5).2 q7)))))
theorem s_C_feed {T : qm_L} {n b f ln kn : Nat} {H : Nat → Nat → Nat} {p u v tp kw kp ku kv : Nat → Nat} {d : Nat} {K : qm_K} {M : qm_M} {x : Int} (hp0 : cI M n H b f p u v ln tp kn kw kp ku kv) (hK : ∀ (r : Int) (M2 : qm_M), ((¬ (32 ≤ x ∧ x ≤ 126) → r = -1 ∧ cI M2 n H b f p u v ln tp kn kw kp ku kv) ∧ (32 ≤ x ∧ x ≤ 126 → (ln = 120 → r = -3 ∧ cI M2 n H b f p u v ln tp kn kw kp ku kv) ∧ (ln < 120 → r = ((ln + 1 : Nat) : Int) ∧ cI M2 n H b f p u v (ln + 1) (updF tp ln (Int.toNat x)) kn kw kp ku kv)) ∧ (∀ c, 71 ≤ c → M2 c = M c)) → K (.inl r) (qL T) M2) : qm_Runs qm_P (d + 3) 98 [(.inr (some 0)), (.inl x)] (qL T) M K := by
  obtain ⟨hl, hh, hy, ht, hm, hs⟩ := id hp0
  have hI := hl.2.2.2
  have h1 := hI.1
  have h8 := hI.2.1
  
  have bad : ¬ (32 ≤ x ∧ x ≤ 126) → K (.inl (-1)) (qL T) M := fun h => hK _ M ⟨fun _ => ⟨rfl, hp0⟩, fun q => absurd q h, fun _ _ => rfl⟩
  have h120 := ht.2.1
  refine en_C_feed (ln := ln) (tp := tp) (And.intro (fun h => bad (by omega)) (fun h => And.intro (fun h2 => And.intro ht (And.intro (by omega) ?_)) (fun h2 => bad (by omega))))
  intro r1 M2 q
  refine And.intro (fun h3 => ?_) (fun h3 => ?_)
  · have h4 : ln = 120 := by
      rcases Nat.lt_or_ge ln 120 with z | z
      · have := (q.2 z).1; omega
      · omega
    have e := (q.1 h4).2
    rw [e]
    exact hK _ M ⟨fun z => absurd (by omega) z, fun _ => ⟨fun _ => ⟨rfl, hp0⟩, fun z => absurd z (by omega)⟩, fun _ _ => rfl⟩
  · have h4 : ln < 120 := by
      rcases Nat.lt_or_ge ln 120 with z | z
      · exact z
      · have := (q.1 (by omega)).1; omega
    obtain ⟨g1, g2, g3⟩ := q.2 h4
    intro y3 e3
    refine hK _ M2 ⟨fun z => absurd (by omega) z, fun _ => ⟨fun z => absurd z (by omega), fun _ => ⟨by rw [e3, g2.1], qLR_mem hl (g3 _ (by decide) (by decide)) (g3 _ (by decide) (by decide)) (g3 _ (by decide) (by decide)), qPR_mem hh (g3 _ (by decide) (by decide)), qY_mem hy (g3 _ (by decide) (by decide)) (g3 _ (by decide) (by decide)), g2, cIm_mem hm (g3 _ (by decide) (by decide)) (g3 _ (by decide) (by decide)) (g3 _ (by decide) (by decide)) (g3 _ (by decide) (by decide)) (g3 _ (by decide) (by decide)), fun z => ?_⟩⟩, fun c hc => g3 c (by omega) (by omega)⟩
    rw [g3 0 (by decide) (by decide)] at z
    have := hs z
    exact ⟨qTn_mem this.1 (g3 _ (by decide) (by decide)) (g3 _ (by decide) (by decide)) (g3 _ (by decide) (by decide)) (g3 _ (by decide) (by decide)) (g3 _ (by decide) (by decide)) (g3 _ (by decide) (by decide)) (g3 _ (by decide) (by decide)), qMs_mem this.2 (g3 _ (by decide) (by decide)) (g3 _ (by decide) (by decide)) (g3 _ (by decide) (by decide))⟩
theorem en_C_list {T : qm_L}  {d : Nat} {K : qm_K} {M : qm_M} {s : Int} {a : Int} {k : Int} (h :
    ((0 ≤ s ∧ s ≤ 1) →
     ((0 ≤ a ∧ a < M 4 2) →
      ((0 ≤ k ∧ k < M 4 2) →
       ∀ (y1 : Int), y1 = (gWho M 4 s a k) →
       K (.inl y1) (qL T) M) ∧
      (¬ (0 ≤ k ∧ k < M 4 2) →
       K (.inl ((-1))) (qL T) M)) ∧
     (¬ (0 ≤ a ∧ a < M 4 2) →
      K (.inl ((-1))) (qL T) M)) ∧
    (¬ (0 ≤ s ∧ s ≤ 1) →
     K (.inl ((-1))) (qL T) M)) : qm_Runs qm_P (d + 3) 100 [(.inr (some 0)), (.inl s), (.inl a), (.inl k)] (qL T) M K :=
  And.intro (Nat.le_of_ble_eq_true rfl) (show qm_TT qi_100 (qm_Runs qm_P (d + 2)) K 0 [some (.inr (some 0)), some (.inl s), some (.inl a), some (.inl k)] [] (qL T) M 0 0 from qm_wp_TT [] 21 (And.intro True.intro (s_C_isSide (d := d + 1)   (And.intro (fun q2 => (h.2 (qm_b0 q2))) (fun q3 => And.intro (lo_0 T) (s_C_isOne (d := d + 0)   (And.intro (fun q4 => ((h.1 (qm_b1 q3)).2 (qm_b0 q4))) (fun q5 => And.intro (lo_0 T) (s_C_isOne (d := d + 0)   (And.intro (fun q6 => Exists.intro 4 (And.intro (lf_0_1 T) (And.intro (lo_4 T) (s_Lists_who (d := d + 0) (lLs_4 T)  (((((h.1 (qm_b1 q3)).1 (qm_b1 q5)).1 (qm_b1 q6)) _ rfl)))))) (fun q7 => (((h.1 (qm_b1 q3)).1 (qm_b1 q5)).2 (qm_b2 q7)))))))))))))
theorem s_C_list {T : qm_L} {n b f ln kn : Nat} {H : Nat → Nat → Nat} {p u v tp kw kp ku kv : Nat → Nat} {d : Nat} {K : qm_K} {M : qm_M} {s : Int} {a : Int} {k : Int} (hp0 : cI M n H b f p u v ln tp kn kw kp ku kv) (hK : ∀ (r : Int), (r = anList n (H b) s a k) → K (.inl r) (qL T) M) : qm_Runs qm_P (d + 3) 100 [(.inr (some 0)), (.inl s), (.inl a), (.inl k)] (qL T) M K := by
  obtain ⟨hl, hh, hy, ht, hm, hs⟩ := id hp0
  have hI := hl.2.2.2
  have h1 := hI.1
  have h8 := hI.2.1
  
  have bad : (s < 0 ∨ 1 < s ∨ a < 0 ∨ (n : Int) ≤ a ∨ k < 0 ∨ (n : Int) ≤ k) → K (.inl (-1)) (qL T) M := fun h => hK _ (by unfold anList; rw [if_pos h])
  refine en_C_list ?_
  rw [hl.1]
  refine And.intro (fun h => And.intro (fun h2 => And.intro (fun h3 => ?_) (fun h3 => bad (by omega))) (fun h2 => bad (by omega))) (fun h => bad (by omega))
  intro y1 e1
  obtain ⟨s, rfl⟩ : ∃ b : Nat, s = (b : Int) := ⟨s.toNat, by omega⟩
  obtain ⟨a, rfl⟩ : ∃ b : Nat, a = (b : Int) := ⟨a.toNat, by omega⟩
  obtain ⟨k, rfl⟩ : ∃ b : Nat, k = (b : Int) := ⟨k.toNat, by omega⟩
  refine hK _ ?_
  rw [e1, gWho_n hl (by omega) (by omega) (by omega)]
  unfold anList
  rw [if_neg (by omega), Int.toNat_natCast, Int.toNat_natCast, Int.toNat_natCast]
theorem en_C_stir {T : qm_L} {n b f : Nat} {H : Nat → Nat → Nat} {w p : Nat → Nat} {d : Nat} {K : qm_K} {M : qm_M} {s : Int} {a : Int} {k : Int} (h :
    (1 ≤ M 4 2 ∧ M 4 2 ≤ 8) ∧
    ((0 ≤ s ∧ s ≤ 1 ∧ 0 ≤ a ∧ a < M 4 2 ∧ 0 ≤ k ∧ k + 1 < M 4 2) →
     (0 ≤ k ∧ k ≤ 100) ∧
     ∀ (M1 : qm_M), M1 = (sPut (sPut M 4 s a k (gWho M 4 s a (k + 1))) 4 s a (k + 1) (gWho M 4 s a k)) →
     (qLR M1 4 n w p) ∧
     (qY M1 n H b f) ∧
     (∀ (M3 : qm_M), (qY M3 n (if b < 12 then (fun i => if i < b + 1 then H i else w) else (fun i => if i < 12 then H (i + 1) else w)) (if b < 12 then b + 1 else 12) 0 ∧ (∀ c, c ≠ 14 → c ≠ 16 → M3 c = M1 c)) →
      ∀ (M4 : qm_M), M4 = (qm_u M3 0 10 0) →
      ∀ (y5 : Int), y5 = (gWho M4 4 s a k) →
      K (.inl y5) (qL T) M4)) ∧
    (¬ (0 ≤ s ∧ s ≤ 1 ∧ 0 ≤ a ∧ a < M 4 2 ∧ 0 ≤ k ∧ k + 1 < M 4 2) →
     K (.inl ((-1))) (qL T) M)) : qm_Runs qm_P (d + 4) 101 [(.inr (some 0)), (.inl s), (.inl a), (.inl k)] (qL T) M K :=
  And.intro (Nat.le_of_ble_eq_true rfl) (show qm_TT qi_101 (qm_Runs qm_P (d + 3)) K 0 [some (.inr (some 0)), some (.inl s), some (.inl a), some (.inl k)] [] (qL T) M 0 0 from qm_wp_TT [] 30 (And.intro (lo_0 T) (s_C_canStir (d := d + 0)  (h.1) (And.intro (fun q6 => Exists.intro 4 (And.intro (lf_0_1 T) (And.intro (lo_4 T) (s_Lists_exchange (d := d + 0) (lLs_4 T) ((h.2.1 (qm_b1 q6)).1) (Exists.intro 14 (And.intro (lf_0_3 T) (Exists.intro 4 (And.intro (lf_0_1 T) (And.intro (lo_14 T) (s_Hist_note (d := d + 0)  (((h.2.1 (qm_b1 q6)).2 _ rfl).1) (((h.2.1 (qm_b1 q6)).2 _ rfl).2.1) (fun M3 p8 => And.intro (Or.inl rfl) (And.intro (lf_0_10 T) (Exists.intro 4 (And.intro (lf_0_1 T) (And.intro (lo_4 T) (s_Lists_who (d := d + 1) (lLs_4 T)  ((((((h.2.1 (qm_b1 q6)).2 _ rfl).2.2 M3 p8) _ rfl) _ rfl)))))))))))))))))) (fun q7 => (h.2.2 (qm_b2 q7)))))))
theorem s_C_stir {T : qm_L} {n b f ln kn : Nat} {H : Nat → Nat → Nat} {p u v tp kw kp ku kv : Nat → Nat} {d : Nat} {K : qm_K} {M : qm_M} {s : Int} {a : Int} {k : Int} (hp0 : cI M n H b f p u v ln tp kn kw kp ku kv) (hK : ∀ (r : Int) (M2 : qm_M), ((¬ stOk n s a k → r = -1 ∧ cI M2 n H b f p u v ln tp kn kw kp ku kv) ∧ (stOk n s a k → r = (H b (ix (Int.toNat s) (Int.toNat a) (Int.toNat k + 1)) : Int) ∧ cI M2 n (nH H b (xW (H b) (Int.toNat s) (Int.toNat a) (Int.toNat k) (Int.toNat k + 1))) (nB b) 0 (xP (H b) p (Int.toNat s) (Int.toNat a) (Int.toNat k) (Int.toNat k + 1)) u v ln tp kn kw kp ku kv) ∧ (∀ c, 71 ≤ c → M2 c = M c)) → K (.inl r) (qL T) M2) : qm_Runs qm_P (d + 4) 101 [(.inr (some 0)), (.inl s), (.inl a), (.inl k)] (qL T) M K := by
  obtain ⟨hl, hh, hy, ht, hm, hs⟩ := id hp0
  have hI := hl.2.2.2
  have h1 := hI.1
  have h8 := hI.2.1
  
  refine en_C_stir (n := n) (b := b) (f := f) (H := H) (w := xW (H b) s.toNat a.toNat k.toNat (k.toNat + 1)) (p := xP (H b) p s.toNat a.toNat k.toNat (k.toNat + 1)) ?_
  rw [hl.1]
  refine And.intro (by omega) (And.intro (fun h => And.intro (by omega) ?_) (fun h => hK _ M ⟨fun _ => ⟨rfl, hp0⟩, fun q => absurd q h, fun _ _ => rfl⟩))
  have hg := h
  obtain ⟨s, rfl⟩ : ∃ b : Nat, s = (b : Int) := ⟨s.toNat, by omega⟩
  obtain ⟨a, rfl⟩ : ∃ b : Nat, a = (b : Int) := ⟨a.toNat, by omega⟩
  obtain ⟨k, rfl⟩ : ∃ b : Nat, k = (b : Int) := ⟨k.toNat, by omega⟩
  rw [Int.toNat_natCast, Int.toNat_natCast, Int.toNat_natCast] at *
  intro M1 e1
  obtain ⟨l1, c1⟩ := qLR_x (M1 := M1) hl (by omega) (by omega) (by omega) e1
  refine And.intro l1 (And.intro (qY_mem hy (c1 14 (by decide) (by decide)) (c1 16 (by decide) (by decide))) ?_)
  intro M3 q3 M4 e4
  have c4 : ∀ c, c ≠ 0 → M4 c = M3 c := fun c hc => by rw [e4, qu_cf hc]
  have l4 := qLR_mem l1 (M2 := M4) (by rw [c4 4 (by decide), q3.2 4 (by decide) (by decide)]) (by rw [c4 6 (by decide), q3.2 6 (by decide) (by decide)]) (by rw [c4 8 (by decide), q3.2 8 (by decide) (by decide)])
  have ca : ∀ c, c ≠ 0 → c ≠ 14 → c ≠ 16 → c ≠ 6 → c ≠ 8 → M4 c = M c := fun c g0 g1 g2 g3 g4 => by rw [c4 c g0, q3.2 c g1 g2, c1 c g3 g4]
  intro y5 e5
  rw [gWho_n l4 (by omega) (by omega) (by omega), xW_k] at e5
  refine hK _ M4 ⟨fun q => absurd hg q, fun _ => ⟨e5, cI_new hp0 (by rw [nH_top]; exact l4) (qPR_mem hh (ca 58 (by decide) (by decide) (by decide) (by decide) (by decide))) (qY_mem q3.1 (c4 14 (by decide)) (c4 16 (by decide))) (by rw [e4, qu_s]) (fun c hc => ca c (by omega) (by omega) (by omega) (by omega) (by omega))⟩, fun c hc => ca c (by omega) (by omega) (by omega) (by omega) (by omega)⟩
theorem en_C_stirred {T : qm_L} {n : Nat} {w p : Nat → Nat} {d : Nat} {K : qm_K} {M : qm_M} {s : Int} {a : Int} {k : Int} (h :
    (1 ≤ M 4 2 ∧ M 4 2 ≤ 8) ∧
    ((0 ≤ s ∧ s ≤ 1 ∧ 0 ≤ a ∧ a < M 4 2 ∧ 0 ≤ k ∧ k + 1 < M 4 2) →
     (0 ≤ k ∧ k ≤ 100) ∧
     ∀ (M1 : qm_M), M1 = (sPut (sPut M 4 s a k (gWho M 4 s a (k + 1))) 4 s a (k + 1) (gWho M 4 s a k)) →
     ∀ (M2 : qm_M), M2 = (qm_u M1 0 10 0) →
     (qLR M2 4 n w p) ∧
     (M2 0 10 ≠ 0 → qTn M2 n w p ∧ qMs M2 n w p) ∧
     (∀ (M4 : qm_M), (qTn M4 n w p ∧ qMs M4 n w p ∧ M4 0 10 ≠ 0 ∧ qcF M4 M2) →
      ∀ (y5 : Int), y5 = (M4 47 1) →
      (0 ≤ k ∧ k ≤ 100) ∧
      ∀ (M6 : qm_M), M6 = (sPut (sPut M4 4 s a k (gWho M4 4 s a (k + 1))) 4 s a (k + 1) (gWho M4 4 s a k)) →
      ∀ (M7 : qm_M), M7 = (qm_u M6 0 10 0) →
      K (.inl y5) (qL T) M7)) ∧
    (¬ (0 ≤ s ∧ s ≤ 1 ∧ 0 ≤ a ∧ a < M 4 2 ∧ 0 ≤ k ∧ k + 1 < M 4 2) →
     K (.inl ((-1))) (qL T) M)) : qm_Runs qm_P (d + 7) 102 [(.inr (some 0)), (.inl s), (.inl a), (.inl k)] (qL T) M K :=
  And.intro (Nat.le_of_ble_eq_true rfl) (show qm_TT qi_102 (qm_Runs qm_P (d + 6)) K 0 [some (.inr (some 0)), some (.inl s), some (.inl a), some (.inl k), none] [] (qL T) M 0 0 from qm_wp_TT [] 35 (And.intro (lo_0 T) (s_C_canStir (d := d + 3)  (h.1) (And.intro (fun q8 => Exists.intro 4 (And.intro (lf_0_1 T) (And.intro (lo_4 T) (s_Lists_exchange (d := d + 3) (lLs_4 T) ((h.2.1 (qm_b1 q8)).1) (And.intro (Or.inl rfl) (And.intro (lf_0_10 T) (And.intro (lo_0 T) (s_C_settle (d := d + 0)  ((((h.2.1 (qm_b1 q8)).2 _ rfl) _ rfl).1) ((((h.2.1 (qm_b1 q8)).2 _ rfl) _ rfl).2.1) (fun M4 p10 => Exists.intro 47 (And.intro (lf_0_6 T) (And.intro (lo_47 T) (s_Mat_total (d := d + 5)   (Exists.intro 4 (And.intro (lf_0_1 T) (And.intro (lo_4 T) (s_Lists_exchange (d := d + 3) (lLs_4 T) ((((((h.2.1 (qm_b1 q8)).2 _ rfl) _ rfl).2.2 M4 p10) _ rfl).1) (And.intro (Or.inl rfl) (And.intro (lf_0_10 T) ((((((((h.2.1 (qm_b1 q8)).2 _ rfl) _ rfl).2.2 M4 p10) _ rfl).2 _ rfl) _ rfl)))))))))))))))))))) (fun q9 => (h.2.2 (qm_b2 q9)))))))
theorem s_C_stirred {T : qm_L} {n b f ln kn : Nat} {H : Nat → Nat → Nat} {p u v tp kw kp ku kv : Nat → Nat} {d : Nat} {K : qm_K} {M : qm_M} {s : Int} {a : Int} {k : Int} (hp0 : cI M n H b f p u v ln tp kn kw kp ku kv) (hK : ∀ (r : Int) (M2 : qm_M), ((¬ stOk n s a k → r = -1) ∧ (stOk n s a k → r = (cN n (xW (H b) (Int.toNat s) (Int.toNat a) (Int.toNat k) (Int.toNat k + 1)) (xP (H b) p (Int.toNat s) (Int.toNat a) (Int.toNat k) (Int.toNat k + 1)) : Int)) ∧ cI M2 n H b f p u v ln tp kn kw kp ku kv ∧ (∀ c, 71 ≤ c → M2 c = M c)) → K (.inl r) (qL T) M2) : qm_Runs qm_P (d + 7) 102 [(.inr (some 0)), (.inl s), (.inl a), (.inl k)] (qL T) M K := by
  obtain ⟨hl, hh, hy, ht, hm, hs⟩ := id hp0
  have hI := hl.2.2.2
  have h1 := hI.1
  have h8 := hI.2.1
  
  refine en_C_stirred (n := n) (w := xW (H b) s.toNat a.toNat k.toNat (k.toNat + 1)) (p := xP (H b) p s.toNat a.toNat k.toNat (k.toNat + 1)) ?_
  rw [hl.1]
  refine And.intro (by omega) (And.intro (fun h => And.intro (by omega) ?_) (fun h => hK _ M ⟨fun _ => rfl, fun q => absurd q h, hp0, fun _ _ => rfl⟩))
  have hg := h
  obtain ⟨s, rfl⟩ : ∃ b : Nat, s = (b : Int) := ⟨s.toNat, by omega⟩
  obtain ⟨a, rfl⟩ : ∃ b : Nat, a = (b : Int) := ⟨a.toNat, by omega⟩
  obtain ⟨k, rfl⟩ : ∃ b : Nat, k = (b : Int) := ⟨k.toNat, by omega⟩
  rw [Int.toNat_natCast, Int.toNat_natCast, Int.toNat_natCast] at *
  intro M1 e1 M2 e2
  obtain ⟨l1, c1⟩ := qLR_x (M1 := M1) hl (by omega) (by omega) (by omega) e1
  have c2 : ∀ c, c ≠ 0 → M2 c = M1 c := fun c hc => by rw [e2, qu_cf hc]
  have l2 := qLR_mem l1 (M2 := M2) (c2 4 (by decide)) (c2 6 (by decide)) (c2 8 (by decide))
  refine And.intro l2 (And.intro (fun z => absurd (by rw [e2, qu_s]) z) ?_)
  intro M4 q4
  obtain ⟨t1, t2, t3, t4⟩ := q4
  have l4 := qLR_mem l2 (M2 := M4) (qcF_c t4 (by decide) (by decide)) (qcF_c t4 (by decide) (by decide)) (qcF_c t4 (by decide) (by decide))
  intro y5 e5
  refine And.intro (by omega) ?_
  intro M6 e6 M7 e7
  obtain ⟨l6, c6⟩ := qLR_x (M1 := M6) l4 (by omega) (by omega) (by omega) e6
  rw [xW_x] at l6
  have l6' : qLR M6 4 n (H b) p := ⟨l6.1, l6.2.1, fun s1 a1 k1 q1 q2 q3 => by rw [l6.2.2.1 s1 a1 k1 q1 q2 q3, qInv_uq hI l6.2.2.2 q1 q2 q3], hI⟩
  have c7 : ∀ c, c ≠ 0 → M7 c = M6 c := fun c hc => by rw [e7, qu_cf hc]
  have ca : ∀ c, c ≠ 0 → c < 17 ∨ 55 < c → c ≠ 6 → c ≠ 8 → M7 c = M c := fun c g0 g1 g2 g3 => by rw [c7 c g0, c6 c g2 g3, qcF_c t4 g0 g1, c2 c g0, c1 c g2 g3]
  refine hK _ M7 ⟨fun q => absurd hg q, fun _ => by rw [e5]; exact t2.1.1, cI_new hp0 (qLR_mem l6' (c7 4 (by decide)) (c7 6 (by decide)) (c7 8 (by decide))) (qPR_mem hh (ca 58 (by decide) (by decide) (by decide) (by decide))) (qY_mem hy (ca 14 (by decide) (by decide) (by decide) (by decide)) (ca 16 (by decide) (by decide) (by decide) (by decide))) (by rw [e7, qu_s]) (fun c hc => ca c (by omega) (by omega) (by omega) (by omega)), fun c hc => ca c (by omega) (by omega) (by omega) (by omega)⟩
theorem en_C_undo {T : qm_L} {n b f : Nat} {H : Nat → Nat → Nat} {d : Nat} {K : qm_K} {M : qm_M}  (h :
    ∀ (y1 : Int), y1 = (M 14 2) →
    (y1 ≠ 0 →
     (qY M n H b f) ∧
     (0 < b) ∧
     (M 4 2 = (n : Int)) ∧
     (∀ (M3 : qm_M), ((∃ p, qLR M3 4 n (H (b - 1)) p) ∧ qY M3 n H (b - 1) (f + 1) ∧ (∀ c, c ≠ 14 → c ≠ 6 → c ≠ 8 → M3 c = M c)) →
      ∀ (M4 : qm_M), M4 = (qm_u M3 0 10 0) →
      ∀ (y5 : Int), y5 = (M4 14 2) →
      K (.inl y5) (qL T) M4)) ∧
    (¬ y1 ≠ 0 →
     K (.inl ((-5))) (qL T) M)) : qm_Runs qm_P (d + 5) 103 [(.inr (some 0))] (qL T) M K :=
  And.intro (Nat.le_of_ble_eq_true rfl) (show qm_TT qi_103 (qm_Runs qm_P (d + 4)) K 0 [some (.inr (some 0))] [] (qL T) M 0 0 from qm_wp_TT [] 19 (Exists.intro 14 (And.intro (lf_0_3 T) (And.intro (lo_14 T) (s_Hist_behind (d := d + 3)   (And.intro (fun q6 => Exists.intro 14 (And.intro (lf_0_3 T) (Exists.intro 4 (And.intro (lf_0_1 T) (And.intro (lo_14 T) (s_Hist_stepBack (d := d + 0)  (((h _ rfl).1 q6).1) (((h _ rfl).1 q6).2.1) (((h _ rfl).1 q6).2.2.1) (fun M3 p8 => And.intro (Or.inl rfl) (And.intro (lf_0_10 T) (Exists.intro 14 (And.intro (lf_0_3 T) (And.intro (lo_14 T) (s_Hist_behind (d := d + 3)   ((((((h _ rfl).1 q6).2.2.2 M3 p8) _ rfl) _ rfl)))))))))))))) (fun q7 => ((h _ rfl).2 q7))))))))
theorem s_C_undo {T : qm_L} {n b f ln kn : Nat} {H : Nat → Nat → Nat} {p u v tp kw kp ku kv : Nat → Nat} {d : Nat} {K : qm_K} {M : qm_M}  (hp0 : cI M n H b f p u v ln tp kn kw kp ku kv) (hK : ∀ (r : Int) (M2 : qm_M), ((b = 0 → r = -5 ∧ cI M2 n H b f p u v ln tp kn kw kp ku kv) ∧ (0 < b → r = ((b - 1 : Nat) : Int) ∧ ∃ p2, cI M2 n H (b - 1) (f + 1) p2 u v ln tp kn kw kp ku kv) ∧ (∀ c, 71 ≤ c → M2 c = M c)) → K (.inl r) (qL T) M2) : qm_Runs qm_P (d + 5) 103 [(.inr (some 0))] (qL T) M K := by
  obtain ⟨hl, hh, hy, ht, hm, hs⟩ := id hp0
  have hI := hl.2.2.2
  have h1 := hI.1
  have h8 := hI.2.1
  
  obtain ⟨y1, y2, y3, y4⟩ := qY_ol hy
  refine en_C_undo (n := n) (b := b) (f := f) (H := H) ?_
  intro z1 e1
  rw [y2] at e1
  refine And.intro (fun h => And.intro hy (And.intro (by omega) (And.intro hl.1 ?_))) (fun h => hK _ M ⟨fun _ => ⟨rfl, hp0⟩, fun q => absurd q (by omega), fun _ _ => rfl⟩)
  intro M3 q3 M4 e4
  obtain ⟨⟨p2, l3⟩, q3y, c3⟩ := q3
  have c4 : ∀ c, c ≠ 0 → M4 c = M3 c := fun c hc => by rw [e4, qu_cf hc]
  have ca : ∀ c, c ≠ 0 → c ≠ 14 → c ≠ 6 → c ≠ 8 → M4 c = M c := fun c g0 g1 g2 g3 => by rw [c4 c g0, c3 c g1 g2 g3]
  intro y5 e5
  rw [c4 14 (by decide), (qY_ol q3y).2.1] at e5
  refine hK _ M4 ⟨fun q => absurd q (by omega), fun _ => ⟨e5, p2, cI_new hp0 (qLR_mem l3 (c4 4 (by decide)) (c4 6 (by decide)) (c4 8 (by decide))) (qPR_mem hh (ca 58 (by decide) (by decide) (by decide) (by decide))) (qY_mem q3y (c4 14 (by decide)) (c4 16 (by decide))) (by rw [e4, qu_s]) (fun c hc => ca c (by omega) (by omega) (by omega) (by omega))⟩, fun c hc => ca c (by omega) (by omega) (by omega) (by omega)⟩
theorem en_C_redo {T : qm_L} {n b f : Nat} {H : Nat → Nat → Nat} {d : Nat} {K : qm_K} {M : qm_M}  (h :
    ∀ (y1 : Int), y1 = (M 14 3) →
    (y1 ≠ 0 →
     (qY M n H b f) ∧
     (0 < f) ∧
     (M 4 2 = (n : Int)) ∧
     (∀ (M3 : qm_M), ((∃ p, qLR M3 4 n (H (b + 1)) p) ∧ qY M3 n H (b + 1) (f - 1) ∧ (∀ c, c ≠ 14 → c ≠ 6 → c ≠ 8 → M3 c = M c)) →
      ∀ (M4 : qm_M), M4 = (qm_u M3 0 10 0) →
      ∀ (y5 : Int), y5 = (M4 14 3) →
      K (.inl y5) (qL T) M4)) ∧
    (¬ y1 ≠ 0 →
     K (.inl ((-5))) (qL T) M)) : qm_Runs qm_P (d + 5) 104 [(.inr (some 0))] (qL T) M K :=
  And.intro (Nat.le_of_ble_eq_true rfl) (show qm_TT qi_104 (qm_Runs qm_P (d + 4)) K 0 [some (.inr (some 0))] [] (qL T) M 0 0 from qm_wp_TT [] 19 (Exists.intro 14 (And.intro (lf_0_3 T) (And.intro (lo_14 T) (s_Hist_before (d := d + 3)   (And.intro (fun q6 => Exists.intro 14 (And.intro (lf_0_3 T) (Exists.intro 4 (And.intro (lf_0_1 T) (And.intro (lo_14 T) (s_Hist_stepOn (d := d + 0)  (((h _ rfl).1 q6).1) (((h _ rfl).1 q6).2.1) (((h _ rfl).1 q6).2.2.1) (fun M3 p8 => And.intro (Or.inl rfl) (And.intro (lf_0_10 T) (Exists.intro 14 (And.intro (lf_0_3 T) (And.intro (lo_14 T) (s_Hist_before (d := d + 3)   ((((((h _ rfl).1 q6).2.2.2 M3 p8) _ rfl) _ rfl)))))))))))))) (fun q7 => ((h _ rfl).2 q7))))))))
theorem s_C_redo {T : qm_L} {n b f ln kn : Nat} {H : Nat → Nat → Nat} {p u v tp kw kp ku kv : Nat → Nat} {d : Nat} {K : qm_K} {M : qm_M}  (hp0 : cI M n H b f p u v ln tp kn kw kp ku kv) (hK : ∀ (r : Int) (M2 : qm_M), ((f = 0 → r = -5 ∧ cI M2 n H b f p u v ln tp kn kw kp ku kv) ∧ (0 < f → r = ((f - 1 : Nat) : Int) ∧ ∃ p2, cI M2 n H (b + 1) (f - 1) p2 u v ln tp kn kw kp ku kv) ∧ (∀ c, 71 ≤ c → M2 c = M c)) → K (.inl r) (qL T) M2) : qm_Runs qm_P (d + 5) 104 [(.inr (some 0))] (qL T) M K := by
  obtain ⟨hl, hh, hy, ht, hm, hs⟩ := id hp0
  have hI := hl.2.2.2
  have h1 := hI.1
  have h8 := hI.2.1
  
  obtain ⟨y1, y2, y3, y4⟩ := qY_ol hy
  refine en_C_redo (n := n) (b := b) (f := f) (H := H) ?_
  intro z1 e1
  rw [y3] at e1
  refine And.intro (fun h => And.intro hy (And.intro (by omega) (And.intro hl.1 ?_))) (fun h => hK _ M ⟨fun _ => ⟨rfl, hp0⟩, fun q => absurd q (by omega), fun _ _ => rfl⟩)
  intro M3 q3 M4 e4
  obtain ⟨⟨p2, l3⟩, q3y, c3⟩ := q3
  have c4 : ∀ c, c ≠ 0 → M4 c = M3 c := fun c hc => by rw [e4, qu_cf hc]
  have ca : ∀ c, c ≠ 0 → c ≠ 14 → c ≠ 6 → c ≠ 8 → M4 c = M c := fun c g0 g1 g2 g3 => by rw [c4 c g0, c3 c g1 g2 g3]
  intro y5 e5
  rw [c4 14 (by decide), (qY_ol q3y).2.2.1] at e5
  refine hK _ M4 ⟨fun q => absurd q (by omega), fun _ => ⟨e5, p2, cI_new hp0 (qLR_mem l3 (c4 4 (by decide)) (c4 6 (by decide)) (c4 8 (by decide))) (qPR_mem hh (ca 58 (by decide) (by decide) (by decide) (by decide))) (qY_mem q3y (c4 14 (by decide)) (c4 16 (by decide))) (by rw [e4, qu_s]) (fun c hc => ca c (by omega) (by omega) (by omega) (by omega))⟩, fun c hc => ca c (by omega) (by omega) (by omega) (by omega)⟩
