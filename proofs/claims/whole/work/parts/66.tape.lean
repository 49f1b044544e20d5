theorem en_Tape_readLine {T : qm_L} {n ln : Nat} {tp w p : Nat → Nat} {d : Nat} {K : qm_K} {M : qm_M} {a : Int} (h :
    (cTp M ln tp) ∧
    (0 ≤ (a : Int)) ∧
    ∀ (y1 : Int), y1 = (sdZ ln tp a) →
    (y1 ≠ (-1) →
     qm_R (a + 1) ∧
     ∀ (y2 : Int), y2 = (M 9 2) →
     (cTp M ln tp) ∧
     (0 ≤ ((a + 1) : Int)) ∧
     ((y2 : Int) = (n : Int)) ∧
     ∀ (y3 : Int), y3 = (fgZ n ln tp (a + 1)) →
     (y3 ≠ (-1) →
      qm_R (a + 2) ∧
      (cTp M ln tp) ∧
      (0 ≤ ((a + 2) : Int)) ∧
      ∀ (y4 : Int), y4 = (btZ ln tp (a + 2)) →
      (y4 = 58 →
       qm_R (a + 3) ∧
       (cTp M ln tp ∧ qLR M 9 n w p) ∧
       (3 ≤ ((a + 3) : Int) ∧ ((a + 3) : Int) ≤ 1000 ∧ (y1 : Int) = (sd (btA ln tp (Int.toNat (a + 3) - 3)) : Int) ∧ (y3 : Int) = ((btA ln tp (Int.toNat (a + 3) - 3) 1 - 48 : Nat) : Int) ∧ ∀ j, j < 3 → ¬ lnBad n (btA ln tp (Int.toNat (a + 3) - 3)) j) ∧
       (∀ (r5 : Int) (M6 : qm_M), ((lnF n (btA ln tp (Int.toNat (a + 3) - 3)) = n + 3 → r5 = (a + 3) + (n : Int) ∧ qLR M6 9 n (lnW n (btA ln tp (Int.toNat (a + 3) - 3)) w) (lnL n (btA ln tp (Int.toNat (a + 3) - 3)) p)) ∧ (lnF n (btA ln tp (Int.toNat (a + 3) - 3)) < n + 3 → r5 = -100 - ((a + 3) - 3 + (lnF n (btA ln tp (Int.toNat (a + 3) - 3)) : Int))) ∧ ∀ c, c ≠ 11 → c ≠ 13 → M6 c = M c) →
        K (.inl r5) (qL T) M6)) ∧
      (¬ y4 = 58 →
       qm_R (a + 2) ∧
       (0 ≤ ((a + 2) : Int) ∧ ((a + 2) : Int) ≤ 100000) ∧
       ∀ (y7 : Int), y7 = (-100 - (a + 2)) →
       K (.inl y7) (qL T) M)) ∧
     (¬ y3 ≠ (-1) →
      qm_R (a + 1) ∧
      (0 ≤ ((a + 1) : Int) ∧ ((a + 1) : Int) ≤ 100000) ∧
      ∀ (y8 : Int), y8 = (-100 - (a + 1)) →
      K (.inl y8) (qL T) M)) ∧
    (¬ y1 ≠ (-1) →
     (0 ≤ (a : Int) ∧ (a : Int) ≤ 100000) ∧
     ∀ (y9 : Int), y9 = (-100 - a) →
     K (.inl y9) (qL T) M)) : qm_Runs qm_P (d + 5) 63 [(.inr (some 1)), (.inl a), (.inr (some 9))] (qL T) M K :=
  And.intro (Nat.le_of_ble_eq_true rfl) (show qm_TT qi_63 (qm_Runs qm_P (d + 4)) K 0 [some (.inr (some 1)), some (.inl a), some (.inr (some 9)), none, none] [] (qL T) M 0 0 from qm_wp_TT [] 37 (And.intro (lo_1 T) (s_Tape_sideAt (d := d + 1)  (h.1) (h.2.1) (And.intro (fun q10 => And.intro ((h.2.2 _ rfl).1 q10).1 (And.intro (lo_9 T) (s_Lists_each (d := d + 3) (lLs_9 T)  (And.intro (lo_1 T) (s_Tape_figureAt (d := d + 1)  ((((h.2.2 _ rfl).1 q10).2 _ rfl).1) ((((h.2.2 _ rfl).1 q10).2 _ rfl).2.1) ((((h.2.2 _ rfl).1 q10).2 _ rfl).2.2.1) (And.intro (fun q12 => And.intro (((((h.2.2 _ rfl).1 q10).2 _ rfl).2.2.2 _ rfl).1 q12).1 (And.intro (lo_1 T) (s_Tape_byteAt (d := d + 2)  ((((((h.2.2 _ rfl).1 q10).2 _ rfl).2.2.2 _ rfl).1 q12).2.1) ((((((h.2.2 _ rfl).1 q10).2 _ rfl).2.2.2 _ rfl).1 q12).2.2.1) (And.intro (fun q14 => And.intro (((((((h.2.2 _ rfl).1 q10).2 _ rfl).2.2.2 _ rfl).1 q12).2.2.2 _ rfl).1 q14).1 (And.intro (lo_1 T) (s_Tape_readFigures (d := d + 0)  ((((((((h.2.2 _ rfl).1 q10).2 _ rfl).2.2.2 _ rfl).1 q12).2.2.2 _ rfl).1 q14).2.1) ((((((((h.2.2 _ rfl).1 q10).2 _ rfl).2.2.2 _ rfl).1 q12).2.2.2 _ rfl).1 q14).2.2.1) (fun r5 M6 p16 => ((((((((h.2.2 _ rfl).1 q10).2 _ rfl).2.2.2 _ rfl).1 q12).2.2.2 _ rfl).1 q14).2.2.2 r5 M6 p16))))) (fun q15 => And.intro (((((((h.2.2 _ rfl).1 q10).2 _ rfl).2.2.2 _ rfl).1 q12).2.2.2 _ rfl).2 q15).1 (And.intro True.intro (s_Tape_faultAt (d := d + 3)  ((((((((h.2.2 _ rfl).1 q10).2 _ rfl).2.2.2 _ rfl).1 q12).2.2.2 _ rfl).2 q15).2.1) (((((((((h.2.2 _ rfl).1 q10).2 _ rfl).2.2.2 _ rfl).1 q12).2.2.2 _ rfl).2 q15).2.2 _ rfl))))))))) (fun q13 => And.intro (((((h.2.2 _ rfl).1 q10).2 _ rfl).2.2.2 _ rfl).2 q13).1 (And.intro True.intro (s_Tape_faultAt (d := d + 3)  ((((((h.2.2 _ rfl).1 q10).2 _ rfl).2.2.2 _ rfl).2 q13).2.1) (((((((h.2.2 _ rfl).1 q10).2 _ rfl).2.2.2 _ rfl).2 q13).2.2 _ rfl))))))))))) (fun q11 => And.intro True.intro (s_Tape_faultAt (d := d + 3)  (((h.2.2 _ rfl).2 q11).1) ((((h.2.2 _ rfl).2 q11).2 _ rfl))))))))
theorem s_Tape_readLine {T : qm_L} {n ln : Nat} {tp w p : Nat → Nat} {d : Nat} {K : qm_K} {M : qm_M} {a : Int} (hp0 : cTp M ln tp ∧ qLR M 9 n w p) (hp1 : 0 ≤ (a : Int) ∧ (a : Int) ≤ 900) (hK : ∀ (r : Int) (M2 : qm_M), ((lnF n (btA ln tp (Int.toNat a)) = n + 3 → r = a + ((n + 3 : Nat) : Int) ∧ qLR M2 9 n (lnW n (btA ln tp (Int.toNat a)) w) (lnL n (btA ln tp (Int.toNat a)) p)) ∧ (lnF n (btA ln tp (Int.toNat a)) < n + 3 → r = -100 - (a + (lnF n (btA ln tp (Int.toNat a)) : Int))) ∧ ∀ c, c ≠ 11 → c ≠ 13 → M2 c = M c) → K (.inl r) (qL T) M2) : qm_Runs qm_P (d + 5) 63 [(.inr (some 1)), (.inl a), (.inr (some 9))] (qL T) M K := by
  obtain ⟨hT, hL⟩ := hp0
  obtain ⟨a, rfl⟩ : ∃ b : Nat, a = (b : Int) := ⟨a.toNat, by omega⟩
  rw [Int.toNat_natCast] at hK
  have h8 := hL.2.2.2.2.1
  have bad : ∀ o, o < 3 → lnBad n (btA ln tp a) o → (∀ i, i < o → ¬ lnBad n (btA ln tp a) i) → ∀ y : Int, y = -100 - ((a : Int) + (o : Int)) → K (.inl y) (qL T) M := fun o ho hb hn y hy => hK y M (by
    have e : lnF n (btA ln tp a) = o := lst_eq (by omega) hb hn
    exact ⟨fun z => absurd z (by omega), fun _ => by rw [e, hy], fun _ _ _ => rfl⟩)
  have eB : ∀ j : Nat, bt ln tp (Int.toNat ((a : Int) + (j : Int))) = btA ln tp a j := fun j => by
    rw [show Int.toNat ((a : Int) + (j : Int)) = a + j by omega]
    rfl
  have eB0 : bt ln tp (Int.toNat (a : Int)) = btA ln tp a 0 := by rw [Int.toNat_natCast]; rfl
  refine en_Tape_readLine (n := n) (ln := ln) (tp := tp) (w := w) (p := p) (And.intro hT (And.intro (by omega) ?_))
  intro y1 e1
  unfold sdZ at e1
  rw [eB0] at e1
  refine And.intro (fun h => And.intro (by unfold qm_R; omega) ?_) (fun h => And.intro (by omega) (fun y9 e9 => bad 0 (by omega) (Or.inl ⟨rfl, ?_⟩) (fun i hi => absurd hi (Nat.not_lt_zero _)) y9 (by omega)))
  · have g0 : ¬ lnBad n (btA ln tp a) 0 := by
      rintro (z | z | z | z)
      · rw [if_neg z.2.1, if_neg z.2.2] at e1
        exact h e1
      · omega
      · omega
      · omega
    have es : y1 = (sd (btA ln tp a) : Int) := by
      unfold sd
      split at e1
      · rename_i q; rw [if_neg (by omega), e1]; rfl
      · split at e1
        · rename_i q; rw [if_pos q, e1]; rfl
        · exact absurd e1 h
    intro y2 e2
    refine And.intro hT (And.intro (by omega) (And.intro (by rw [e2]; exact hL.1) ?_))
    intro y3 e3
    unfold fgZ at e3
    rw [show (a : Int) + 1 = (a : Int) + ((1 : Nat) : Int) by omega, eB] at e3
    refine And.intro (fun h3 => And.intro (by unfold qm_R; omega) (And.intro hT (And.intro (by omega) ?_))) (fun h3 => And.intro (by unfold qm_R; omega) (And.intro (by omega) (fun y8 e8 => bad 1 (by omega) (Or.inr (Or.inl ⟨rfl, fun z => ?_⟩)) (fun i hi => by rw [show i = 0 by omega]; exact g0) y8 (by omega))))
    · have hd : 48 ≤ btA ln tp a 1 ∧ btA ln tp a 1 < 48 + n := Classical.byContradiction fun z => h3 (by rw [e3, if_neg z])
      rw [if_pos hd] at e3
      have g1 : ¬ lnBad n (btA ln tp a) 1 := by
        rintro (z | z | z | z)
        · omega
        · exact z.2 hd
        · omega
        · omega
      intro y4 e4
      have b4 := btZ_iff (ln := ln) (tp := tp) (a := (a : Int) + 2) (x := 58) (by decide) (by omega)
      rw [← e4, show (a : Int) + 2 = (a : Int) + ((2 : Nat) : Int) by omega, eB] at b4
      refine And.intro (fun h4 => And.intro (by unfold qm_R; omega) (And.intro ⟨hT, hL⟩ ?_)) (fun h4 => And.intro (by unfold qm_R; omega) (And.intro (by omega) (fun y7 e7 => bad 2 (by omega) (Or.inr (Or.inr (Or.inl ⟨rfl, fun z => h4 (b4.mpr z)⟩))) (fun i hi => by
        have : i = 0 ∨ i = 1 := by omega
        rcases this with q | q <;> rw [q]
        · exact g0
        · exact g1) y7 (by omega))))
      rw [show Int.toNat ((a : Int) + 3) - 3 = a by omega]
      refine And.intro ⟨by omega, by omega, es, e3, fun j hj => ?_⟩ (fun r5 M6 q => hK r5 M6 ⟨fun z => ⟨by rw [(q.1 z).1]; omega, (q.1 z).2⟩, fun z => by rw [q.2.1 z]; omega, q.2.2⟩)
      have : j = 0 ∨ j = 1 ∨ j = 2 := by omega
      rcases this with q | q | q <;> rw [q]
      · exact g0
      · exact g1
      · rintro (z | z | z | z)
        · omega
        · omega
        · exact z.2 (b4.mp h4)
        · omega
    · unfold dgt at z
      exact h3 (by rw [e3, if_pos z]; omega)
  · split at e1
    · exact absurd (by omega) h
    · split at e1
      · exact absurd (by omega) h
      · constructor <;> assumption
def at_Tape_readInto_4 (T : qm_L) (d : Nat) (K : qm_K) (M : qm_M) (x2 x3 : Int) : Prop := ∀ (d4 : Option qm_V), qm_TT qi_62 (qm_Runs qm_P (d + 5)) K 4 [some (.inr (some 1)), some (.inr (some 9)), some (.inl x2), some (.inl x3), d4] [] (qL T) M 0 0
theorem rg_Tape_readInto_4 {T : qm_L} {n ln : Nat} {tp w p : Nat → Nat} {d : Nat} {K : qm_K} {M : qm_M} {x2 x3 : Int} (h :
    (120 < x3 →
     (0 ≤ (x2 : Int) ∧ (x2 : Int) ≤ 100000) ∧
     ∀ (y1 : Int), y1 = (-100 - x2) →
     K (.inl y1) (qL T) M) ∧
    (¬ 120 < x3 →
     (cTp M ln tp ∧ qLR M 9 n w p) ∧
     (0 ≤ (x2 : Int) ∧ (x2 : Int) ≤ 900) ∧
     (∀ (r2 : Int) (M3 : qm_M), ((lnF n (btA ln tp (Int.toNat x2)) = n + 3 → r2 = x2 + ((n + 3 : Nat) : Int) ∧ qLR M3 9 n (lnW n (btA ln tp (Int.toNat x2)) w) (lnL n (btA ln tp (Int.toNat x2)) p)) ∧ (lnF n (btA ln tp (Int.toNat x2)) < n + 3 → r2 = -100 - (x2 + (lnF n (btA ln tp (Int.toNat x2)) : Int))) ∧ ∀ c, c ≠ 11 → c ≠ 13 → M3 c = M c) →
      (r2 < 0 →
       (0 ≤ r2 →
        K (.inl x3) (qL T) M3) ∧
       (¬ 0 ≤ r2 →
        K (.inl r2) (qL T) M3)) ∧
      (¬ r2 < 0 →
       (r2 ≠ (M3 1 1) →
        (cTp M3 ln tp) ∧
        (0 ≤ (r2 : Int)) ∧
        ∀ (y4 : Int), y4 = (btZ ln tp r2) →
        (y4 = 59 →
         qm_R (r2 + 1) ∧
         qm_R (x3 + 1) ∧
         at_Tape_readInto_4 T d K M3 ((r2 + 1)) ((x3 + 1))) ∧
        (¬ y4 = 59 →
         (0 ≤ (r2 : Int) ∧ (r2 : Int) ≤ 100000) ∧
         ∀ (y5 : Int), y5 = (-100 - r2) →
         K (.inl y5) (qL T) M3)) ∧
       (¬ r2 ≠ (M3 1 1) →
        (0 ≤ r2 →
         K (.inl x3) (qL T) M3) ∧
        (¬ 0 ≤ r2 →
         K (.inl r2) (qL T) M3)))))) : at_Tape_readInto_4 T d K M x2 x3 :=
  fun d4 => qm_wp_TT [4] 29 (And.intro (fun q6 => And.intro True.intro (s_Tape_faultAt (d := d + 4)  ((h.1 q6).1) (((h.1 q6).2 _ rfl)))) (fun q7 => And.intro (lo_1 T) (s_Tape_readLine (d := d + 0)  ((h.2 q7).1) ((h.2 q7).2.1) (fun r2 M3 p8 => And.intro (fun q9 => And.intro (fun q11 => ((((h.2 q7).2.2 r2 M3 p8).1 q9).1 q11)) (fun q12 => ((((h.2 q7).2.2 r2 M3 p8).1 q9).2 q12))) (fun q10 => And.intro (lf_1_1 T) (And.intro (fun q13 => And.intro (lo_1 T) (s_Tape_byteAt (d := d + 3)  (((((h.2 q7).2.2 r2 M3 p8).2 q10).1 q13).1) (((((h.2 q7).2.2 r2 M3 p8).2 q10).1 q13).2.1) (And.intro (fun q15 => And.intro ((((((h.2 q7).2.2 r2 M3 p8).2 q10).1 q13).2.2 _ rfl).1 q15).1 (And.intro ((((((h.2 q7).2.2 r2 M3 p8).2 q10).1 q13).2.2 _ rfl).1 q15).2.1 (((((((h.2 q7).2.2 r2 M3 p8).2 q10).1 q13).2.2 _ rfl).1 q15).2.2 _))) (fun q16 => And.intro True.intro (s_Tape_faultAt (d := d + 4)  (((((((h.2 q7).2.2 r2 M3 p8).2 q10).1 q13).2.2 _ rfl).2 q16).1) ((((((((h.2 q7).2.2 r2 M3 p8).2 q10).1 q13).2.2 _ rfl).2 q16).2 _ rfl))))))) (fun q14 => And.intro (fun q17 => (((((h.2 q7).2.2 r2 M3 p8).2 q10).2 q14).1 q17)) (fun q18 => (((((h.2 q7).2.2 r2 M3 p8).2 q10).2 q14).2 q18)))))))))
theorem en_Tape_readInto {T : qm_L} {n ln : Nat} {tp w p : Nat → Nat} {d : Nat} {K : qm_K} {M : qm_M}  (h :
    at_Tape_readInto_4 T d K M 0 1) : qm_Runs qm_P (d + 6) 62 [(.inr (some 1)), (.inr (some 9))] (qL T) M K :=
  And.intro (Nat.le_of_ble_eq_true rfl) (show qm_TT qi_62 (qm_Runs qm_P (d + 5)) K 0 [some (.inr (some 1)), some (.inr (some 9)), none, none, none] [] (qL T) M 0 0 from qm_wp_TT [4] 29 (h _))
theorem lp_Tape_readInto {T : qm_L} {d : Nat} {K : qm_K} {M0 : qm_M} {n ln : Nat} {tp w p : Nat → Nat} (hT : cTp M0 ln tp) (hI0 : qInv n w p) (hK : ∀ (r : Int) (M2 : qm_M), (r = lsE n ln tp ∧ (0 ≤ lsE n ln tp → qLR M2 9 n (wL n ln tp w (lsI n ln tp + 1)) (pL n ln tp p (lsI n ln tp + 1))) ∧ ∀ c, c ≠ 11 → c ≠ 13 → M2 c = M0 c) → K (.inl r) (qL T) M2) : ∀ (j i : Nat) (M : qm_M), i + j = 40 → (∀ c, c ≠ 11 → c ≠ 13 → M c = M0 c) → qLR M 9 n (wL n ln tp w i) (pL n ln tp p i) → (∀ j, j < i → lsOk n ln tp j) → i * (n + 4) ≤ 120 → at_Tape_readInto_4 T d K M ((i * (n + 4) : Nat) : Int) ((i : Int) + 1)
  | j, i, M, hj, hF, hL, hok, ha120 => fun d4 => by
    have h1 := hI0.1
    have h8 := hI0.2.1
    have i24 : i ≤ 24 := by
      have : i * 5 ≤ i * (n + 4) := Nat.mul_le_mul_left _ (by omega)
      omega
    have hT2 := cTp_mem hT (hF 1 (by decide) (by decide)) (hF 3 (by decide) (by decide))
    have hl120 := hT.2.1
    generalize hA : i * (n + 4) = A at ha120
    refine rg_Tape_readInto_4 (n := n) (ln := ln) (tp := tp) (w := wL n ln tp w i) (p := pL n ln tp p i) (And.intro (fun z => absurd z (by omega)) (fun _ => And.intro ⟨hT2, hL⟩ (And.intro (by omega) ?_))) d4
    intro r2 M3 q
    rw [Int.toNat_natCast] at q
    obtain ⟨q1, q2, q3⟩ := q
    have hF3 : ∀ c, c ≠ 11 → c ≠ 13 → M3 c = M0 c := fun c u1 u2 => by rw [q3 c u1 u2]; exact hF c u1 u2
    have hT3 := cTp_mem hT (hF3 1 (by decide) (by decide)) (hF3 3 (by decide) (by decide))
    rcases Nat.lt_or_ge (lnF n (btA ln tp A)) (n + 3) with hb | hb
    · have g := q2 hb
      have e := lsI_bad (n := n) (ln := ln) (tp := tp) (i := i) (by omega) hok (by rw [hA]; exact hb)
      rw [hA] at e
      refine And.intro (fun _ => And.intro (fun z => absurd z (by omega)) (fun _ => hK _ M3 ⟨by rw [e.2, g]; omega, fun z => absurd z (by omega), hF3⟩)) (fun z => absurd (by omega) z)
    · have hl : lnF n (btA ln tp A) = n + 3 := Nat.le_antisymm (lnF_le _ _) hb
      obtain ⟨g1, g2⟩ := q1 hl
      have hg2 : qLR M3 9 n (wL n ln tp w (i + 1)) (pL n ln tp p (i + 1)) := by
        show qLR M3 9 n (lnW n (btA ln tp (i * (n + 4))) (wL n ln tp w i)) (lnL n (btA ln tp (i * (n + 4))) (pL n ln tp p i))
        rw [hA]
        exact g2
      have hB : bt ln tp (Int.toNat r2) = btA ln tp A (n + 3) := by
        rw [g1, show Int.toNat ((A : Int) + ((n + 3 : Nat) : Int)) = A + (n + 3) by omega]
        rfl
      have b4 := btZ_iff (ln := ln) (tp := tp) (a := r2) (x := 59) (by decide) (by omega)
      rw [hB] at b4
      have hle : A + (n + 3) ≤ 131 := by omega
      refine And.intro (fun z => absurd z (by omega)) (fun _ => And.intro (fun hne => And.intro hT3 (And.intro (by omega) ?_)) (fun heq => ?_))
      · rw [hT3.1] at hne
        intro y4 e4
        rw [← e4] at b4
        refine And.intro (fun hs => And.intro (by unfold qm_R; omega) (And.intro (by unfold qm_R; omega) ?_)) (fun hs => And.intro (by omega) ?_)
        · have hmul : (i + 1) * (n + 4) = A + (n + 4) := by rw [Nat.succ_mul, hA]
          have hs2 := b4.mp hs
          have hlt : A + (n + 3) < ln := by
            rcases Nat.lt_or_ge (A + (n + 3)) ln with z | z
            · exact z
            · unfold btA bt at hs2
              rw [if_neg (by omega)] at hs2
              omega
          cases j with
          | zero => omega
          | succ j =>
            have := lp_Tape_readInto (T := T) (d := d) hT hI0 hK j (i + 1) M3 (by omega) hF3 hg2 (fun j hj => by
              by_cases z : j = i
              · rw [z]; exact ⟨by rw [hA]; exact hl, by rw [hA]; exact hs2⟩
              · exact hok j (by omega)) (by omega)
            rw [hmul] at this
            rw [show r2 + 1 = ((A + (n + 4) : Nat) : Int) by omega]
            exact this
        · intro y5 e5
          obtain ⟨e1, e2⟩ := lsI_end (n := n) (ln := ln) (tp := tp) (i := i) (by omega) hok (by rw [hA]; exact hl) (by rw [hA]; exact fun z => hs (b4.mpr z))
          rw [hA, if_neg (by omega)] at e2
          exact hK _ M3 ⟨by rw [e2, e5, g1]; omega, fun z => absurd z (by omega), hF3⟩
      · rw [hT3.1] at heq
        have heq2 : r2 = (ln : Int) := Classical.not_not.mp heq
        obtain ⟨e1, e2⟩ := lsI_end (n := n) (ln := ln) (tp := tp) (i := i) (by omega) hok (by rw [hA]; exact hl) (by
          rw [hA]
          unfold btA bt
          rw [if_neg (by omega)]
          decide)
        rw [hA, if_pos (by omega)] at e2
        exact And.intro (fun _ => hK _ M3 ⟨by rw [e2], fun _ => by rw [e1]; exact hg2, hF3⟩) (fun z => absurd (by omega) z)
theorem s_Tape_readInto {T : qm_L} {n ln : Nat} {tp w p : Nat → Nat} {d : Nat} {K : qm_K} {M : qm_M}  (hp0 : cTp M ln tp ∧ qLR M 9 n w p) (hK : ∀ (r : Int) (M2 : qm_M), (r = lsE n ln tp ∧ (0 ≤ lsE n ln tp → qLR M2 9 n (wL n ln tp w (lsI n ln tp + 1)) (pL n ln tp p (lsI n ln tp + 1))) ∧ ∀ c, c ≠ 11 → c ≠ 13 → M2 c = M c) → K (.inl r) (qL T) M2) : qm_Runs qm_P (d + 6) 62 [(.inr (some 1)), (.inr (some 9))] (qL T) M K := by
  have := lp_Tape_readInto (T := T) (d := d) hp0.1 hp0.2.2.2.2 hK 40 0 M (by omega) (fun _ _ _ => rfl) hp0.2 (fun j hj => absurd hj (Nat.not_lt_zero _)) (by omega)
  rw [Nat.zero_mul] at this
  exact en_Tape_readInto (n := n) (ln := ln) (tp := tp) (w := w) (p := p) this
