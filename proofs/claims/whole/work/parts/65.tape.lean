/-! the class's tape -/
def cTp (M : qm_M) (ln : Nat) (tp : Nat → Nat) : Prop := M 1 1 = (ln : Int) ∧ ln ≤ 120 ∧ ∀ i, i < ln → M 3 i = (tp i : Int) ∧ tp i ≤ 126
def btZ (ln : Nat) (tp : Nat → Nat) (a : Int) : Int := if a < (ln : Int) then (bt ln tp a.toNat : Int) else -1
def fgZ (n ln : Nat) (tp : Nat → Nat) (a : Int) : Int := if 48 ≤ bt ln tp a.toNat ∧ bt ln tp a.toNat < 48 + n then ((bt ln tp a.toNat - 48 : Nat) : Int) else -1
def sdZ (ln : Nat) (tp : Nat → Nat) (a : Int) : Int := if bt ln tp a.toNat = 108 then 0 else if bt ln tp a.toNat = 114 then 1 else -1
theorem btZ_iff {ln : Nat} {tp : Nat → Nat} {a : Int} {x : Nat} (hx : 0 < x) (ha : 0 ≤ a) : btZ ln tp a = (x : Int) ↔ bt ln tp a.toNat = x := by
  unfold btZ
  split
  · omega
  · rename_i q
    rw [bt_no (by omega)]
    omega
theorem cTp_mem {M M2 : qm_M} {ln : Nat} {tp : Nat → Nat} (h : cTp M ln tp) (e1 : M2 1 = M 1) (e3 : M2 3 = M 3) : cTp M2 ln tp := by unfold cTp at *; rw [e1, e3]; exact h
theorem en_Tape_length {T : qm_L}  {d : Nat} {K : qm_K} {M : qm_M}  (h :
    K (.inl ((M 1 1))) (qL T) M) : qm_Runs qm_P (d + 1) 59 [(.inr (some 1))] (qL T) M K :=
  And.intro (Nat.le_of_ble_eq_true rfl) (show qm_TT qi_59 (qm_Runs qm_P (d + 0)) K 0 [some (.inr (some 1))] [] (qL T) M 0 0 from qm_wp_TT [] 6 (And.intro (lf_1_1 T) (h)))
theorem s_Tape_length {T : qm_L}  {d : Nat} {K : qm_K} {M : qm_M}   (hK : K (.inl (M 1 1)) (qL T) M) : qm_Runs qm_P (d + 1) 59 [(.inr (some 1))] (qL T) M K :=
  en_Tape_length   hK
theorem en_Tape_clear {T : qm_L}  {d : Nat} {K : qm_K} {M : qm_M}  (h :
    K (.inl 0) (qL T) (qm_u M 1 1 0)) : qm_Runs qm_P (d + 1) 61 [(.inr (some 1))] (qL T) M K :=
  And.intro (Nat.le_of_ble_eq_true rfl) (show qm_TT qi_61 (qm_Runs qm_P (d + 0)) K 0 [some (.inr (some 1))] [] (qL T) M 0 0 from qm_wp_TT [] 7 (And.intro (lf_1_1 T) (h)))
theorem s_Tape_clear {T : qm_L}  {d : Nat} {K : qm_K} {M : qm_M}   (hK : K (.inl 0) (qL T) (qm_u M 1 1 0)) : qm_Runs qm_P (d + 1) 61 [(.inr (some 1))] (qL T) M K :=
  en_Tape_clear   hK
theorem en_Tape_add {T : qm_L}  {d : Nat} {K : qm_K} {M : qm_M} {x : Int} (h :
    ((M 1 1) < 120 →
     ∀ (M1 : qm_M), M1 = (sRow M 3 120 (M 1 1) x) →
     qm_R ((M1 1 1) + 1) ∧
     ∀ (M2 : qm_M), M2 = (qm_u M1 1 1 ((M1 1 1) + 1)) →
     K (.inl 1) (qL T) M2) ∧
    (¬ (M 1 1) < 120 →
     K (.inl 0) (qL T) M)) : qm_Runs qm_P (d + 2) 60 [(.inr (some 1)), (.inl x)] (qL T) M K :=
  And.intro (Nat.le_of_ble_eq_true rfl) (show qm_TT qi_60 (qm_Runs qm_P (d + 1)) K 0 [some (.inr (some 1)), some (.inl x)] [] (qL T) M 0 0 from qm_wp_TT [] 21 (And.intro (lf_1_1 T) (And.intro (fun q3 => Exists.intro 2 (And.intro (lf_1_0 T) (And.intro (lf_1_1 T) (And.intro (lo_2 T) (s_Row_set (d := d + 0) (lRow_2 T)  (And.intro (lf_1_1 T) (And.intro ((h.1 q3) _ rfl).1 (And.intro (lf_1_1 T) (And.intro (Or.inr rfl) (((h.1 q3) _ rfl).2 _ rfl)))))))))) (fun q4 => And.intro (Or.inl rfl) (h.2 q4)))))
theorem s_Tape_add {T : qm_L} {ln : Nat} {tp : Nat → Nat} {d : Nat} {K : qm_K} {M : qm_M} {x : Int} (hp0 : cTp M ln tp) (hp1 : 32 ≤ (x : Int) ∧ (x : Int) ≤ 126) (hK : ∀ (r : Int) (M2 : qm_M), ((ln = 120 → r = 0 ∧ M2 = M) ∧ (ln < 120 → r = 1 ∧ cTp M2 (ln + 1) (updF tp ln (Int.toNat x)) ∧ ∀ c, c ≠ 1 → c ≠ 3 → M2 c = M c)) → K (.inl r) (qL T) M2) : qm_Runs qm_P (d + 2) 60 [(.inr (some 1)), (.inl x)] (qL T) M K := by
  obtain ⟨h0, h120, ht⟩ := hp0
  refine en_Tape_add (And.intro (fun h => ?_) (fun h => hK 0 M ⟨fun _ => ⟨rfl, rfl⟩, fun q => absurd q (by omega)⟩))
  intro M1 e1
  rw [h0, sRow_in (by omega)] at e1
  have f1 : M1 1 1 = (ln : Int) := by rw [e1, qu_c (by decide)]; exact h0
  rw [f1]
  refine And.intro (by unfold qm_R; omega) ?_
  intro M2 e2
  refine (hK 1 M2 ⟨fun q => absurd q (by omega), fun _ => ⟨rfl, ⟨by rw [e2, qu_s]; omega, by omega, fun i hi => ?_⟩, fun c h1 h3 => by rw [e2, qu_cf h1, e1, qu_cf h3]⟩⟩)
  rw [e2, qu_c (by decide), e1]
  unfold updF
  by_cases q : i = ln
  · rw [q, qu_s, if_pos rfl]; omega
  · rw [qu_k q, if_neg q]; exact ht i (by omega)
theorem en_Tape_byteAt {T : qm_L}  {d : Nat} {K : qm_K} {M : qm_M} {a : Int} (h :
    ((M 1 1) ≤ a →
     K (.inl ((-1))) (qL T) M) ∧
    (¬ (M 1 1) ≤ a →
     K (.inl ((gRow M 3 120 a))) (qL T) M)) : qm_Runs qm_P (d + 2) 67 [(.inr (some 1)), (.inl a)] (qL T) M K :=
  And.intro (Nat.le_of_ble_eq_true rfl) (show qm_TT qi_67 (qm_Runs qm_P (d + 1)) K 0 [some (.inr (some 1)), some (.inl a)] [] (qL T) M 0 0 from qm_wp_TT [] 13 (And.intro (lf_1_1 T) (And.intro (fun q1 => (h.1 q1)) (fun q2 => Exists.intro 2 (And.intro (lf_1_0 T) (And.intro (lo_2 T) (s_Row_get (d := d + 0) (lRow_2 T)  ((h.2 q2)))))))))
theorem s_Tape_byteAt {T : qm_L} {ln : Nat} {tp : Nat → Nat} {d : Nat} {K : qm_K} {M : qm_M} {a : Int} (hp0 : cTp M ln tp) (hp1 : 0 ≤ (a : Int)) (hK : K (.inl (btZ ln tp a)) (qL T) M) : qm_Runs qm_P (d + 2) 67 [(.inr (some 1)), (.inl a)] (qL T) M K := by
  obtain ⟨h0, h120, ht⟩ := hp0
  refine en_Tape_byteAt ?_
  rw [h0]
  obtain ⟨a, rfl⟩ : ∃ b : Nat, a = (b : Int) := ⟨a.toNat, by omega⟩
  unfold btZ at hK
  refine And.intro (fun h => by rw [if_neg (by omega)] at hK; exact hK) (fun h => ?_)
  rw [if_pos (by omega)] at hK
  rw [gRow_in (by omega), (ht a (by omega)).1]
  unfold bt at hK
  rw [if_pos (by omega), Int.toNat_natCast] at hK
  exact hK
theorem en_Tape_faultAt {T : qm_L}  {d : Nat} {K : qm_K} {M : qm_M} {a : Int} (h :
    qm_R ((-100) - a) ∧
    K (.inl (((-100) - a))) (qL T) M) : qm_Runs qm_P (d + 1) 68 [(.inl a)] (qL T) M K :=
  And.intro (Nat.le_of_ble_eq_true rfl) (show qm_TT qi_68 (qm_Runs qm_P (d + 0)) K 0 [some (.inl a)] [] (qL T) M 0 0 from qm_wp_TT [] 7 (And.intro h.1 (h.2)))
theorem s_Tape_faultAt {T : qm_L}  {d : Nat} {K : qm_K} {M : qm_M} {a : Int} (hp0 : 0 ≤ (a : Int) ∧ (a : Int) ≤ 100000) (hK : K (.inl ((-100 - a))) (qL T) M) : qm_Runs qm_P (d + 1) 68 [(.inl a)] (qL T) M K := by
  refine en_Tape_faultAt   ?_
  exact And.intro (by unfold qm_R; omega) hK
theorem en_Tape_figureAt {T : qm_L} {n ln : Nat} {tp : Nat → Nat} {d : Nat} {K : qm_K} {M : qm_M} {a : Int} {e : Int} (h :
    (cTp M ln tp) ∧
    (0 ≤ (a : Int)) ∧
    ∀ (y1 : Int), y1 = (btZ ln tp a) →
    qm_R (y1 - 48) ∧
    ((y1 - 48) < 0 →
     K (.inl ((-1))) (qL T) M) ∧
    (¬ (y1 - 48) < 0 →
     (e ≤ (y1 - 48) →
      K (.inl ((-1))) (qL T) M) ∧
     (¬ e ≤ (y1 - 48) →
      K (.inl ((y1 - 48))) (qL T) M))) : qm_Runs qm_P (d + 3) 66 [(.inr (some 1)), (.inl a), (.inl e)] (qL T) M K :=
  And.intro (Nat.le_of_ble_eq_true rfl) (show qm_TT qi_66 (qm_Runs qm_P (d + 2)) K 0 [some (.inr (some 1)), some (.inl a), some (.inl e), none] [] (qL T) M 0 0 from qm_wp_TT [] 17 (And.intro (lo_1 T) (s_Tape_byteAt (d := d + 0)  (h.1) (h.2.1) (And.intro (h.2.2 _ rfl).1 (And.intro (fun q2 => ((h.2.2 _ rfl).2.1 q2)) (fun q3 => And.intro (fun q4 => (((h.2.2 _ rfl).2.2 q3).1 q4)) (fun q5 => (((h.2.2 _ rfl).2.2 q3).2 q5))))))))
theorem s_Tape_figureAt {T : qm_L} {n ln : Nat} {tp : Nat → Nat} {d : Nat} {K : qm_K} {M : qm_M} {a : Int} {e : Int} (hp0 : cTp M ln tp) (hp1 : 0 ≤ (a : Int)) (hp2 : (e : Int) = (n : Int)) (hK : K (.inl (fgZ n ln tp a)) (qL T) M) : qm_Runs qm_P (d + 3) 66 [(.inr (some 1)), (.inl a), (.inl e)] (qL T) M K := by
  refine en_Tape_figureAt (n := n) (ln := ln) (tp := tp) (And.intro hp0 (And.intro hp1 ?_))
  intro y1 e1
  have hb : bt ln tp a.toNat ≤ 126 := by
    unfold bt
    split
    · rename_i q; exact (hp0.2.2 _ q).2
    · omega
  rw [hp2]
  unfold fgZ at hK
  unfold btZ at e1
  by_cases q : a < (ln : Int)
  · rw [if_pos q] at e1
    refine And.intro (by unfold qm_R; omega) (And.intro (fun h => by rw [if_neg (by omega)] at hK; exact hK) (fun h => And.intro (fun h2 => by rw [if_neg (by omega)] at hK; exact hK) (fun h2 => ?_)))
    rw [if_pos (by omega)] at hK
    rw [show y1 - 48 = ((bt ln tp a.toNat - 48 : Nat) : Int) by omega]
    exact hK
  · rw [if_neg q] at e1
    rw [bt_no (by omega), if_neg (by omega)] at hK
    exact And.intro (by unfold qm_R; omega) (And.intro (fun h => hK) (fun h => absurd h (by omega)))
theorem en_Tape_sideAt {T : qm_L} {ln : Nat} {tp : Nat → Nat} {d : Nat} {K : qm_K} {M : qm_M} {a : Int} (h :
    (cTp M ln tp) ∧
    (0 ≤ (a : Int)) ∧
    ∀ (y1 : Int), y1 = (btZ ln tp a) →
    (y1 = 108 →
     K (.inl 0) (qL T) M) ∧
    (y1 ≠ 108 →
     (y1 = 114 →
      K (.inl 1) (qL T) M) ∧
     (y1 ≠ 114 →
      K (.inl ((-1))) (qL T) M))) : qm_Runs qm_P (d + 3) 65 [(.inr (some 1)), (.inl a)] (qL T) M K :=
  And.intro (Nat.le_of_ble_eq_true rfl) (show qm_TT qi_65 (qm_Runs qm_P (d + 2)) K 0 [some (.inr (some 1)), some (.inl a)] [] (qL T) M 0 0 from qm_wp_TT [] 9 (And.intro (lo_1 T) (s_Tape_byteAt (d := d + 0)  (h.1) (h.2.1) (And.intro (fun q2 => ((h.2.2 _ rfl).1 q2)) (fun q3 => And.intro (fun q4 => (((h.2.2 _ rfl).2 q3).1 q4)) (fun q5 => (((h.2.2 _ rfl).2 q3).2 q5)))))))
theorem s_Tape_sideAt {T : qm_L} {ln : Nat} {tp : Nat → Nat} {d : Nat} {K : qm_K} {M : qm_M} {a : Int} (hp0 : cTp M ln tp) (hp1 : 0 ≤ (a : Int)) (hK : K (.inl (sdZ ln tp a)) (qL T) M) : qm_Runs qm_P (d + 3) 65 [(.inr (some 1)), (.inl a)] (qL T) M K := by
  refine en_Tape_sideAt (ln := ln) (tp := tp) (And.intro hp0 (And.intro hp1 ?_))
  intro y1 e1
  have b1 := btZ_iff (ln := ln) (tp := tp) (x := 108) (by decide) hp1
  have b2 := btZ_iff (ln := ln) (tp := tp) (x := 114) (by decide) hp1
  rw [← e1] at b1 b2
  unfold sdZ at hK
  refine And.intro (fun h => by rw [if_pos (b1.mp h)] at hK; exact hK) (fun h => And.intro (fun h2 => by rw [if_neg (fun z => h (b1.mpr z)), if_pos (b2.mp h2)] at hK; exact hK) (fun h2 => by rw [if_neg (fun z => h (b1.mpr z)), if_neg (fun z => h2 (b2.mpr z))] at hK; exact hK))
def lnD (B : Nat → Nat) (g : Nat → Int) (k y : Nat) : Int := if y / 8 = 8 * sd B + (B 1 - 48) ∧ y % 8 < k then ((B (3 + y % 8) - 48 : Nat) : Int) else g y
/-- k figures are read into the draft -/
def rdS (M M0 : qm_M) (B : Nat → Nat) (k : Nat) : Prop := (∀ y, M 11 y = lnD B (M0 11) k y) ∧ (∀ i, i < k → M 13 (ix (sd B) (B 1 - 48) (B (3 + i) - 48)) = (i : Int)) ∧ (∀ y, y / 8 ≠ 8 * sd B + (B 1 - 48) → M 13 y = M0 13 y) ∧ ∀ c, c ≠ 11 → c ≠ 13 → M c = M0 c
theorem rdS_end {M M0 : qm_M} {n : Nat} {B w p : Nat → Nat} (h : rdS M M0 B n) (hl : lnF n B = n + 3) (hL : qLR M0 9 n w p) : qLR M 9 n (lnW n B w) (lnL n B p) := by
  obtain ⟨q1, q2, q3, q4⟩ := h
  have hI := hL.2.2.2
  have h8 := hI.2.1
  have hQ := qInv_ln hl hI
  obtain ⟨d1, d2, d3⟩ := ln_ok hl
  refine ⟨by rw [q4 9 (by decide) (by decide)]; exact hL.1, fun s a k hs ha hk => ?_, fun s a k hs ha hk => ?_, hQ⟩
  · show M 11 _ = _
    rw [q1]
    unfold lnD lnW
    split
    · rfl
    · exact hL.2.1 s a k hs ha hk
  · show M 13 _ = _
    have hd : ∀ j, j < 8 → ix s a j / 8 = 8 * s + a ∧ ix s a j % 8 = j := fun j hj => by unfold ix; omega
    by_cases q : 8 * s + a = 8 * sd B + (B 1 - 48)
    · have hs2 := sd_lt B
      unfold dgt at d1
      have es : s = sd B ∧ a = B 1 - 48 := by omega
      have g := hQ.2.2 s a hs ha k hk
      have e : lnW n B w (ix s a (lnL n B p (ix s a k))) = B (3 + lnL n B p (ix s a k)) - 48 := by
        have := hd (lnL n B p (ix s a k)) (by omega)
        unfold lnW
        rw [if_pos ⟨by omega, by omega⟩, this.2]
      have := q2 _ g.2.2.1
      rw [← e, g.2.2.2, ← es.1, ← es.2] at this
      exact this
    · have := hd k (by omega)
      rw [q3 _ (by omega)]
      unfold lnL
      rw [if_neg (by omega)]
      exact hL.2.2.1 s a k hs ha hk
def at_Tape_readFigures_6 (T : qm_L) (d : Nat) (K : qm_K) (M : qm_M) (x1 x3 x4 x5 x6 : Int) : Prop := ∀ (d7 : Option qm_V), qm_TT qi_64 (qm_Runs qm_P (d + 3)) K 6 [some (.inr (some 1)), some (.inl x1), some (.inr (some 9)), some (.inl x3), some (.inl x4), some (.inl x5), some (.inl x6), d7] [] (qL T) M 0 0
theorem rg_Tape_readFigures_6 {T : qm_L} {n ln : Nat} {tp : Nat → Nat} {d : Nat} {K : qm_K} {M : qm_M} {x1 x3 x4 x5 x6 : Int} (h :
    ∀ (y1 : Int), y1 = (M 9 2) →
    (y1 ≤ x6 →
     ∀ (y2 : Int), y2 = (M 9 2) →
     qm_R (x1 + y2) ∧
     K (.inl ((x1 + y2))) (qL T) M) ∧
    (¬ y1 ≤ x6 →
     qm_R (x1 + x6) ∧
     ∀ (y3 : Int), y3 = (M 9 2) →
     (cTp M ln tp) ∧
     (0 ≤ ((x1 + x6) : Int)) ∧
     ((y3 : Int) = (n : Int)) ∧
     ∀ (y4 : Int), y4 = (fgZ n ln tp (x1 + x6)) →
     (y4 = (-1) →
      qm_R (x1 + x6) ∧
      (0 ≤ ((x1 + x6) : Int) ∧ ((x1 + x6) : Int) ≤ 100000) ∧
      ∀ (y5 : Int), y5 = (-100 - (x1 + x6)) →
      K (.inl y5) (qL T) M) ∧
     (¬ y4 = (-1) →
      ((qm_and (qm_shr x5 y4) 1) ≠ 1 →
       ∀ (M6 : qm_M), M6 = (sPut M 9 x3 x4 x6 y4) →
       qm_R (x6 + 1) ∧
       at_Tape_readFigures_6 T d K M6 x1 x3 x4 ((qm_or x5 (qm_shl 1 y4))) ((x6 + 1))) ∧
      (¬ (qm_and (qm_shr x5 y4) 1) ≠ 1 →
       qm_R (x1 + x6) ∧
       (0 ≤ ((x1 + x6) : Int) ∧ ((x1 + x6) : Int) ≤ 100000) ∧
       ∀ (y7 : Int), y7 = (-100 - (x1 + x6)) →
       K (.inl y7) (qL T) M)))) : at_Tape_readFigures_6 T d K M x1 x3 x4 x5 x6 :=
  fun d7 => qm_wp_TT [6] 40 (And.intro (lo_9 T) (s_Lists_each (d := d + 2) (lLs_9 T)  (And.intro (fun q8 => And.intro (lo_9 T) (s_Lists_each (d := d + 2) (lLs_9 T)  (And.intro (((h _ rfl).1 q8) _ rfl).1 ((((h _ rfl).1 q8) _ rfl).2)))) (fun q9 => And.intro ((h _ rfl).2 q9).1 (And.intro (lo_9 T) (s_Lists_each (d := d + 2) (lLs_9 T)  (And.intro (lo_1 T) (s_Tape_figureAt (d := d + 0)  ((((h _ rfl).2 q9).2 _ rfl).1) ((((h _ rfl).2 q9).2 _ rfl).2.1) ((((h _ rfl).2 q9).2 _ rfl).2.2.1) (And.intro (fun q10 => And.intro (((((h _ rfl).2 q9).2 _ rfl).2.2.2 _ rfl).1 q10).1 (And.intro True.intro (s_Tape_faultAt (d := d + 2)  ((((((h _ rfl).2 q9).2 _ rfl).2.2.2 _ rfl).1 q10).2.1) (((((((h _ rfl).2 q9).2 _ rfl).2.2.2 _ rfl).1 q10).2.2 _ rfl))))) (fun q11 => And.intro (fun q12 => And.intro (lo_9 T) (s_Lists_put (d := d + 1) (lLs_9 T)  (And.intro (((((((h _ rfl).2 q9).2 _ rfl).2.2.2 _ rfl).2 q11).1 q12) _ rfl).1 ((((((((h _ rfl).2 q9).2 _ rfl).2.2.2 _ rfl).2 q11).1 q12) _ rfl).2 _)))) (fun q13 => And.intro ((((((h _ rfl).2 q9).2 _ rfl).2.2.2 _ rfl).2 q11).2 q13).1 (And.intro True.intro (s_Tape_faultAt (d := d + 2)  (((((((h _ rfl).2 q9).2 _ rfl).2.2.2 _ rfl).2 q11).2 q13).2.1) ((((((((h _ rfl).2 q9).2 _ rfl).2.2.2 _ rfl).2 q11).2 q13).2.2 _ rfl)))))))))))))))
theorem en_Tape_readFigures {T : qm_L} {n ln : Nat} {tp : Nat → Nat} {d : Nat} {K : qm_K} {M : qm_M} {a : Int} {s : Int} {o : Int} (h :
    at_Tape_readFigures_6 T d K M a s o 0 0) : qm_Runs qm_P (d + 4) 64 [(.inr (some 1)), (.inl a), (.inr (some 9)), (.inl s), (.inl o)] (qL T) M K :=
  And.intro (Nat.le_of_ble_eq_true rfl) (show qm_TT qi_64 (qm_Runs qm_P (d + 3)) K 0 [some (.inr (some 1)), some (.inl a), some (.inr (some 9)), some (.inl s), some (.inl o), none, none, none] [] (qL T) M 0 0 from qm_wp_TT [6] 40 (h _))
theorem lp_Tape_readFigures {T : qm_L} {d : Nat} {K : qm_K} {M0 : qm_M} {n ln a : Nat} {tp w p : Nat → Nat} (hT : cTp M0 ln tp) (hL : qLR M0 9 n w p) (ha : a ≤ 1000) (h3 : ∀ j, j < 3 → ¬ lnBad n (btA ln tp a) j) (hK : ∀ (r : Int) (M2 : qm_M), ((lnF n (btA ln tp a) = n + 3 → r = ((a + 3 : Nat) : Int) + (n : Int) ∧ qLR M2 9 n (lnW n (btA ln tp a) w) (lnL n (btA ln tp a) p)) ∧ (lnF n (btA ln tp a) < n + 3 → r = -100 - ((a : Int) + (lnF n (btA ln tp a) : Int))) ∧ ∀ c, c ≠ 11 → c ≠ 13 → M2 c = M0 c) → K (.inl r) (qL T) M2) : ∀ (j k : Nat) (M : qm_M), k + j = n → rdS M M0 (btA ln tp a) k → (∀ o, o < 3 + k → ¬ lnBad n (btA ln tp a) o) → at_Tape_readFigures_6 T d K M ((a + 3 : Nat) : Int) (sd (btA ln tp a) : Int) ((btA ln tp a 1 - 48 : Nat) : Int) (bits (fun x => ∃ i, i < k ∧ btA ln tp a (3 + i) - 48 = x) 8 : Int) (k : Int)
  | 0, k, M, hk, hS, hn => fun d7 => by
    have hk : k = n := by omega
    subst hk
    have h8 := hL.2.2.2.2.1
    refine rg_Tape_readFigures_6 (n := k) (ln := ln) (tp := tp) ?_ d7
    intro y1 e1
    rw [hS.2.2.2 9 (by decide) (by decide), hL.1] at e1
    refine And.intro (fun _ => ?_) (fun z => absurd (by omega) z)
    intro y2 e2
    rw [hS.2.2.2 9 (by decide) (by decide), hL.1] at e2
    have hl : lnF k (btA ln tp a) = k + 3 := lst_none (fun j hj => hn j (by omega))
    refine And.intro (by unfold qm_R; omega) (hK _ M ⟨fun _ => ⟨by rw [e2], rdS_end hS hl hL⟩, fun z => absurd z (by omega), hS.2.2.2⟩)
  | j + 1, k, M, hk, hS, hn => fun d7 => by
    have hI := hL.2.2.2
    have h8 := hI.2.1
    obtain ⟨s1, s2, s3, s4⟩ := id hS
    have e9 : M 9 2 = (n : Int) := by rw [s4 9 (by decide) (by decide)]; exact hL.1
    have hT2 := cTp_mem hT (s4 1 (by decide) (by decide)) (s4 3 (by decide) (by decide))
    have hB : bt ln tp (Int.toNat (((a + 3 : Nat) : Int) + (k : Int))) = btA ln tp a (3 + k) := by
      rw [show Int.toNat (((a + 3 : Nat) : Int) + (k : Int)) = a + (3 + k) by omega]
      rfl
    have d1 : dgt n (btA ln tp a 1) := Classical.byContradiction fun z => h3 1 (by omega) (Or.inr (Or.inl ⟨rfl, z⟩))
    unfold dgt at d1
    have sd2 := sd_lt (btA ln tp a)
    have bad : lnBad n (btA ln tp a) (3 + k) → K (.inl (-100 - (((a + 3 : Nat) : Int) + (k : Int)))) (qL T) M := fun hb => hK _ M (by
      have e : lnF n (btA ln tp a) = 3 + k := lst_eq (by omega) hb (fun j hj => hn j hj)
      refine ⟨fun z => absurd z (by omega), fun _ => by rw [e]; omega, s4⟩)
    have hb256 : bits (fun x => ∃ i, i < k ∧ btA ln tp a (3 + i) - 48 = x) 8 < 256 := bits_lt _ 8
    refine rg_Tape_readFigures_6 (n := n) (ln := ln) (tp := tp) ?_ d7
    intro y1 e1
    refine And.intro (fun z => absurd z (by omega)) (fun _ => And.intro (by unfold qm_R; omega) ?_)
    intro y3 e3
    refine And.intro hT2 (And.intro (by omega) (And.intro (by omega) ?_))
    intro y4 e4
    unfold fgZ at e4
    rw [hB] at e4
    by_cases hd : 48 ≤ btA ln tp a (3 + k) ∧ btA ln tp a (3 + k) < 48 + n
    · rw [if_pos hd] at e4
      have hbit : (qm_and (qm_shr (bits (fun x => ∃ i, i < k ∧ btA ln tp a (3 + i) - 48 = x) 8 : Int) y4) 1 = 1) ↔ ∃ i, i < k ∧ btA ln tp a (3 + i) - 48 = btA ln tp a (3 + k) - 48 := by
        rw [e4, qb_bit (by omega) (by omega)]
        have hbt := bits_test (P := fun x => ∃ i, i < k ∧ btA ln tp a (3 + i) - 48 = x) (T := 8) (t := btA ln tp a (3 + k) - 48)
        split
        · rename_i q; exact ⟨fun _ => (hbt.mp q).2, fun _ => rfl⟩
        · rename_i q; exact ⟨fun z => absurd z (by decide), fun z => absurd (hbt.mpr ⟨by omega, z⟩) q⟩
      have dg : ∀ i, i < k → dgt n (btA ln tp a (3 + i)) := fun i hi => Classical.byContradiction fun q => hn (3 + i) (by omega) (Or.inr (Or.inr (Or.inr ⟨by omega, Or.inl q⟩)))
      refine And.intro (fun z => absurd z (by omega)) (fun _ => And.intro (fun hne => ?_) (fun heq => And.intro (by unfold qm_R; omega) (And.intro (by omega) ?_)))
      · have hnew : ∀ i, i < k → btA ln tp a (3 + i) - 48 ≠ btA ln tp a (3 + k) - 48 := fun i hi q => hne (hbit.mpr ⟨i, hi, q⟩)
        intro M5 e5
        rw [e4, sPut_n (by omega) (by omega) (by omega) (by omega)] at e5
        refine And.intro (by unfold qm_R; omega) ?_
        rw [e4, qb_shl1 _ (by omega), qb_or (by omega) (pow_lt31 (by omega)), bits_or (by omega)]
        have ih := lp_Tape_readFigures (T := T) (d := d) hT hL ha h3 hK j (k + 1) M5 (by omega) ⟨fun y => ?_, fun i hi => ?_, fun y hy => ?_, fun c h11 h13 => by rw [e5, qu_cf h13, qu_cf h11]; exact s4 c h11 h13⟩ (fun o ho => ?_)
        · rw [show bits (fun u => (∃ i, i < k ∧ btA ln tp a (3 + i) - 48 = u) ∨ u = btA ln tp a (3 + k) - 48) 8 = bits (fun x => ∃ i, i < k + 1 ∧ btA ln tp a (3 + i) - 48 = x) 8 from bits_congr (fun u _ => ⟨fun q => q.elim (fun ⟨i, hi, e⟩ => ⟨i, by omega, e⟩) (fun e => ⟨k, by omega, e.symm⟩), fun ⟨i, hi, e⟩ => by
            by_cases hik : i = k
            · exact Or.inr (by rw [← e, hik])
            · exact Or.inl ⟨i, by omega, e⟩⟩)]
          exact ih
        · rw [e5, qu_c (by decide)]
          have hix : ix (sd (btA ln tp a)) (btA ln tp a 1 - 48) k = 8 * (8 * sd (btA ln tp a) + (btA ln tp a 1 - 48)) + k := by unfold ix; omega
          rw [hix]
          by_cases hy : y = 8 * (8 * sd (btA ln tp a) + (btA ln tp a 1 - 48)) + k
          · rw [hy, qu_s]
            unfold lnD
            rw [if_pos (by omega), show (8 * (8 * sd (btA ln tp a) + (btA ln tp a 1 - 48)) + k) % 8 = k by omega]
          · rw [qu_k hy, s1 y]
            unfold lnD
            by_cases hq : y / 8 = 8 * sd (btA ln tp a) + (btA ln tp a 1 - 48) ∧ y % 8 < k
            · rw [if_pos hq, if_pos ⟨hq.1, by omega⟩]
            · rw [if_neg hq, if_neg (fun z => hq ⟨z.1, by omega⟩)]
        · rw [e5]
          by_cases hik : i = k
          · rw [hik, qu_s]
          · have g1 := dg i (by omega)
            unfold dgt at g1
            rw [qu_k (fun z => hnew i (by omega) (by unfold ix at z; omega)), qu_c (by decide)]
            exact s2 i (by omega)
        · rw [e5, qu_k (fun z => hy (by rw [z]; unfold ix; omega)), qu_c (by decide)]
          exact s3 y hy
        · by_cases hok : o = 3 + k
          · rw [hok]
            rintro (z | z | z | z)
            · omega
            · omega
            · omega
            · rcases z.2 with z | ⟨i, i1, i2, i3⟩
              · exact z hd
              · refine hnew (i - 3) (by omega) ?_
                rw [show 3 + (i - 3) = i by omega, i3]
          · exact hn o (by omega)
      · intro y6 e6
        rw [e6]
        obtain ⟨i, hi, e⟩ := hbit.mp (Classical.not_not.mp heq)
        have := dg i hi
        unfold dgt at this
        clear hbit
        have e8 : btA ln tp a (3 + i) = btA ln tp a (3 + k) := by omega
        have e7 : 3 + i < 3 + k := by omega
        have e6 : 3 ≤ 3 + i := by omega
        have e5 : 3 ≤ 3 + k := by omega
        exact bad (Or.inr (Or.inr (Or.inr ⟨e5, Or.inr ⟨3 + i, e6, e7, e8⟩⟩)))
    · rw [if_neg hd] at e4
      refine And.intro (fun _ => And.intro (by unfold qm_R; omega) (And.intro (by omega) ?_)) (fun z => absurd e4 z)
      intro y5 e5
      rw [e5]
      exact bad (Or.inr (Or.inr (Or.inr ⟨by omega, Or.inl hd⟩)))
theorem s_Tape_readFigures {T : qm_L} {n ln : Nat} {tp w p : Nat → Nat} {d : Nat} {K : qm_K} {M : qm_M} {a : Int} {s : Int} {o : Int} (hp0 : cTp M ln tp ∧ qLR M 9 n w p) (hp1 : 3 ≤ (a : Int) ∧ (a : Int) ≤ 1000 ∧ (s : Int) = (sd (btA ln tp (Int.toNat a - 3)) : Int) ∧ (o : Int) = ((btA ln tp (Int.toNat a - 3) 1 - 48 : Nat) : Int) ∧ ∀ j, j < 3 → ¬ lnBad n (btA ln tp (Int.toNat a - 3)) j) (hK : ∀ (r : Int) (M2 : qm_M), ((lnF n (btA ln tp (Int.toNat a - 3)) = n + 3 → r = a + (n : Int) ∧ qLR M2 9 n (lnW n (btA ln tp (Int.toNat a - 3)) w) (lnL n (btA ln tp (Int.toNat a - 3)) p)) ∧ (lnF n (btA ln tp (Int.toNat a - 3)) < n + 3 → r = -100 - (a - 3 + (lnF n (btA ln tp (Int.toNat a - 3)) : Int))) ∧ ∀ c, c ≠ 11 → c ≠ 13 → M2 c = M c) → K (.inl r) (qL T) M2) : qm_Runs qm_P (d + 4) 64 [(.inr (some 1)), (.inl a), (.inr (some 9)), (.inl s), (.inl o)] (qL T) M K := by
  obtain ⟨hT, hL⟩ := hp0
  obtain ⟨b1, b2, b3, b4, b5⟩ := hp1
  obtain ⟨a, rfl⟩ : ∃ b : Nat, a = ((b + 3 : Nat) : Int) := ⟨a.toNat - 3, by omega⟩
  rw [show Int.toNat ((a + 3 : Nat) : Int) - 3 = a by omega] at *
  have := lp_Tape_readFigures (T := T) (d := d) hT hL (by omega) b5 (fun r M2 q => hK r M2 ⟨q.1, fun z => by rw [q.2.1 z]; omega, q.2.2⟩) n 0 M (by omega) ⟨fun y => by unfold lnD; rw [if_neg (by omega)], fun i hi => absurd hi (Nat.not_lt_zero _), fun _ _ => rfl, fun _ _ _ => rfl⟩ b5
  rw [show bits (fun x => ∃ i, i < 0 ∧ btA ln tp a (3 + i) - 48 = x) 8 = 0 from bits_0 (fun t _ q => by obtain ⟨i, hi, _⟩ := q; omega), ← b3, ← b4] at this
  exact en_Tape_readFigures (n := n) (ln := ln) (tp := tp) this
