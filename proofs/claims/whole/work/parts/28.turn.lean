def pLa (n : Nat) (w p : Nat → Nat) (a t k x : Nat) : Prop := rle n w p t k = a ∧ rri n w p t k = x
def pLb (n : Nat) (w p : Nat → Nat) (b t k x : Nat) : Prop := rri n w p t k = b ∧ rle n w p t k = x
def pMv (n : Nat) (w p : Nat → Nat) (t k x : Nat) : Prop := rle n w p t k = x
theorem dbl_end {n : Nat} {w p : Nat → Nat} (hI : qInv n w p) {E : Nat → Nat → Nat → Prop} {x : Nat} (F : Nat → Nat → Prop) (hF : ∀ t k, E t k x ↔ F t (rle n w p t k)) : dbl E (rlen n w p) (rT n w p) 0 x ↔ ∃ t, t < rT n w p ∧ ∃ a, rIn n w p t a ∧ F t a := by
  constructor
  · rintro (⟨t, ht, k, hk, h⟩ | ⟨k, hk, _⟩)
    · exact ⟨t, ht, _, rle_in (k := k), (hF t k).mp h⟩
    · exact absurd hk (Nat.not_lt_zero _)
  · rintro ⟨t, ht, a, ha, h⟩
    obtain ⟨k, hk, rfl⟩ := (rin_le hI (r_lt ht).1).mp ha
    exact Or.inl ⟨t, ht, k, hk, (hF t k).mpr h⟩
def at_Turns_partnersLeft_5 (T : qm_L) (d : Nat) (K : qm_K) (M : qm_M) (x1 x2 x3 x4 : Int) : Prop := ∀ (d5 : Option qm_V), qm_TT qi_81 (qm_Runs qm_P (d + 2)) K 5 [some (.inr (some 25)), some (.inl x1), some (.inl x2), some (.inl x3), some (.inl x4), d5] [] (qL T) M 0 0
def at_Turns_partnersLeft_17 (T : qm_L) (d : Nat) (K : qm_K) (M : qm_M) (x1 x2 x3 x4 x5 : Int) : Prop := qm_TT qi_81 (qm_Runs qm_P (d + 2)) K 17 [some (.inr (some 25)), some (.inl x1), some (.inl x2), some (.inl x3), some (.inl x4), some (.inl x5)] [] (qL T) M 0 0
theorem rg_Turns_partnersLeft_5 {T : qm_L}  {d : Nat} {K : qm_K} {M : qm_M} {x1 x2 x3 x4 : Int} (h :
    ((M 25 6) ≤ x4 →
     K (.inl x3) (qL T) M) ∧
    (¬ (M 25 6) ≤ x4 →
     at_Turns_partnersLeft_17 T d K M x1 x2 x3 x4 0)) : at_Turns_partnersLeft_5 T d K M x1 x2 x3 x4 :=
  fun d5 => qm_wp_TT [5, 17] 32 (And.intro (lf_25_6 T) (And.intro (fun q1 => (h.1 q1)) (fun q2 => (h.2 q2))))
theorem rg_Turns_partnersLeft_17 {T : qm_L}  {d : Nat} {K : qm_K} {M : qm_M} {x1 x2 x3 x4 x5 : Int} (h :
    ((gRow M 31 28 x4) ≤ x5 →
     qm_R (x4 + 1) ∧
     at_Turns_partnersLeft_5 T d K M x1 x2 x3 ((x4 + 1))) ∧
    (¬ (gRow M 31 28 x4) ≤ x5 →
     (x1 ≠ 0 →
      (0 ≤ x4 ∧ x4 ≤ 1000 ∧ 0 ≤ x5 ∧ x5 ≤ 1000) ∧
      ((gRow M 29 224 (x4 * 8 + x5)) ≠ x2 →
       qm_R (x5 + 1) ∧
       at_Turns_partnersLeft_17 T d K M x1 x2 x3 x4 ((x5 + 1))) ∧
      (¬ (gRow M 29 224 (x4 * 8 + x5)) ≠ x2 →
       (x1 ≠ 0 →
        (0 ≤ x4 ∧ x4 ≤ 1000 ∧ 0 ≤ x5 ∧ x5 ≤ 1000) ∧
        qm_R (x5 + 1) ∧
        at_Turns_partnersLeft_17 T d K M x1 x2 ((qm_or x3 (qm_shl 1 (gRow M 27 224 (x4 * 8 + x5))))) x4 ((x5 + 1))) ∧
       (¬ x1 ≠ 0 →
        (0 ≤ x4 ∧ x4 ≤ 1000 ∧ 0 ≤ x5 ∧ x5 ≤ 1000) ∧
        qm_R (x5 + 1) ∧
        at_Turns_partnersLeft_17 T d K M x1 x2 ((qm_or x3 (qm_shl 1 (gRow M 29 224 (x4 * 8 + x5))))) x4 ((x5 + 1))))) ∧
     (¬ x1 ≠ 0 →
      (0 ≤ x4 ∧ x4 ≤ 1000 ∧ 0 ≤ x5 ∧ x5 ≤ 1000) ∧
      ((gRow M 27 224 (x4 * 8 + x5)) ≠ x2 →
       qm_R (x5 + 1) ∧
       at_Turns_partnersLeft_17 T d K M x1 x2 x3 x4 ((x5 + 1))) ∧
      (¬ (gRow M 27 224 (x4 * 8 + x5)) ≠ x2 →
       (x1 ≠ 0 →
        (0 ≤ x4 ∧ x4 ≤ 1000 ∧ 0 ≤ x5 ∧ x5 ≤ 1000) ∧
        qm_R (x5 + 1) ∧
        at_Turns_partnersLeft_17 T d K M x1 x2 ((qm_or x3 (qm_shl 1 (gRow M 27 224 (x4 * 8 + x5))))) x4 ((x5 + 1))) ∧
       (¬ x1 ≠ 0 →
        (0 ≤ x4 ∧ x4 ≤ 1000 ∧ 0 ≤ x5 ∧ x5 ≤ 1000) ∧
        qm_R (x5 + 1) ∧
        at_Turns_partnersLeft_17 T d K M x1 x2 ((qm_or x3 (qm_shl 1 (gRow M 29 224 (x4 * 8 + x5))))) x4 ((x5 + 1))))))) : at_Turns_partnersLeft_17 T d K M x1 x2 x3 x4 x5 :=
  qm_wp_TT [5, 17] 32 (And.intro (lo_25 T) (s_Turns_length (d := d + 0)   (And.intro (fun q3 => And.intro (h.1 q3).1 ((h.1 q3).2 _)) (fun q4 => And.intro (fun q5 => And.intro (lo_25 T) (s_Turns_right (d := d + 0)  (((h.2 q4).1 q5).1) (And.intro (fun q7 => And.intro (((h.2 q4).1 q5).2.1 q7).1 ((((h.2 q4).1 q5).2.1 q7).2)) (fun q8 => And.intro (fun q9 => And.intro (lo_25 T) (s_Turns_left (d := d + 0)  (((((h.2 q4).1 q5).2.2 q8).1 q9).1) (And.intro ((((h.2 q4).1 q5).2.2 q8).1 q9).2.1 (((((h.2 q4).1 q5).2.2 q8).1 q9).2.2)))) (fun q10 => And.intro (lo_25 T) (s_Turns_right (d := d + 0)  (((((h.2 q4).1 q5).2.2 q8).2 q10).1) (And.intro ((((h.2 q4).1 q5).2.2 q8).2 q10).2.1 (((((h.2 q4).1 q5).2.2 q8).2 q10).2.2)))))))) (fun q6 => And.intro (lo_25 T) (s_Turns_left (d := d + 0)  (((h.2 q4).2 q6).1) (And.intro (fun q11 => And.intro (((h.2 q4).2 q6).2.1 q11).1 ((((h.2 q4).2 q6).2.1 q11).2)) (fun q12 => And.intro (fun q13 => And.intro (lo_25 T) (s_Turns_left (d := d + 0)  (((((h.2 q4).2 q6).2.2 q12).1 q13).1) (And.intro ((((h.2 q4).2 q6).2.2 q12).1 q13).2.1 (((((h.2 q4).2 q6).2.2 q12).1 q13).2.2)))) (fun q14 => And.intro (lo_25 T) (s_Turns_right (d := d + 0)  (((((h.2 q4).2 q6).2.2 q12).2 q14).1) (And.intro ((((h.2 q4).2 q6).2.2 q12).2 q14).2.1 (((((h.2 q4).2 q6).2.2 q12).2 q14).2.2))))))))))))
theorem en_Turns_partnersLeft {T : qm_L}  {d : Nat} {K : qm_K} {M : qm_M} {s : Int} {b : Int} (h :
    at_Turns_partnersLeft_5 T d K M s b 0 0) : qm_Runs qm_P (d + 3) 81 [(.inr (some 25)), (.inl s), (.inl b)] (qL T) M K :=
  And.intro (Nat.le_of_ble_eq_true rfl) (show qm_TT qi_81 (qm_Runs qm_P (d + 2)) K 0 [some (.inr (some 25)), some (.inl s), some (.inl b), none, none, none] [] (qL T) M 0 0 from qm_wp_TT [5, 17] 32 (h _))
theorem lp_Turns_partnersLeft0 {T : qm_L} {d : Nat} {K : qm_K} {M : qm_M} {n a : Nat} {w p : Nat → Nat} (hI : qInv n w p) (hT : qTn M n w p) (hK : K (.inl (bits (dbl (pLa n w p a) (rlen n w p) (rT n w p) 0) 8 : Int)) (qL T) M) : ∀ (j t : Nat), t + j = rT n w p → at_Turns_partnersLeft_5 T d K M 0 (a : Int) (bits (dbl (pLa n w p a) (rlen n w p) t 0) 8 : Int) (t : Int)
  | 0, t, ht => fun d5 => by
    have : t = rT n w p := by omega
    subst this
    refine rg_Turns_partnersLeft_5 (And.intro (fun _ => hK) (fun h => absurd h (by rw [hT.1]; omega))) d5
  | j + 1, t, ht => fun d5 => by
    have h28 := (r_T hI).1
    have hl := (r_lt (n := n) (w := w) (p := p) (show t < rT n w p by omega)).1
    have hlen := rlen_ok hI hl
    have h8 := hI.2.1
    have hr : qm_R ((t : Int) + 1) := by unfold qm_R; omega
    have ih := lp_Turns_partnersLeft0 (d := d) hI hT hK j (t + 1) (by omega)
    have hd := (hT.2 t (by omega)).1
    have inner : ∀ (i k : Nat), k + i = rlen n w p t → at_Turns_partnersLeft_17 T d K M 0 (a : Int) (bits (dbl (pLa n w p a) (rlen n w p) t k) 8 : Int) (t : Int) (k : Int) := by
      intro i
      induction i with
      | zero =>
        intro k hk
        have hk : k = rlen n w p t := by omega
        subst hk
        refine rg_Turns_partnersLeft_17 (And.intro (fun _ => And.intro hr ?_) (fun h => absurd h (by rw [Td_len hd (by omega)]; omega)))
        rw [bits_congr (fun x _ => (dbl_t (x := x)).symm)]
        exact ih
      | succ i ihi =>
        intro k hk
        have hrk : qm_R ((k : Int) + 1) := by unfold qm_R; omega
        have hb : 0 ≤ (t : Int) ∧ (t : Int) ≤ 1000 ∧ 0 ≤ (k : Int) ∧ (k : Int) ≤ 1000 := by omega
        have e1 := Td_left hd (show t < 28 by omega) (show k < rlen n w p t by omega) (by omega)
        have e2 := Td_right hd (show t < 28 by omega) (show k < rlen n w p t by omega) (by omega)
        have hx := rle_lt hI hl k
        have ih2 := ihi (k + 1) (by omega)
        refine rg_Turns_partnersLeft_17 (And.intro (fun h => absurd h (by rw [Td_len hd (by omega)]; omega)) (fun _ => And.intro (fun hs => ?_) (fun hs => ?_)))
        · exact absurd hs (by decide)
        · refine And.intro hb (And.intro (fun h => And.intro hrk ?_) (fun h => And.intro (fun h2 => absurd h2 hs) (fun _ => And.intro hb (And.intro hrk ?_))))
          · rw [e1] at h
            rw [bits_congr (P := dbl (pLa n w p a) (rlen n w p) t (k + 1)) (Q := dbl (pLa n w p a) (rlen n w p) t k) (fun x _ => ⟨fun q => (dbl_k.mp q).elim id (fun q2 => absurd q2.1 (fun z => h (by rw [z]))), fun q => dbl_k.mpr (Or.inl q)⟩)] at ih2
            exact ih2
          · rw [e1] at h
            rw [e2, bits_i (Q := dbl (pLa n w p a) (rlen n w p) t (k + 1)) (by decide) (by omega) (fun x _ => ⟨fun q => (dbl_k.mp q).imp id (fun q2 => q2.2.symm), fun q => dbl_k.mpr (q.imp id (fun q2 => ⟨by omega, q2.symm⟩))⟩)]
            exact ih2
    refine rg_Turns_partnersLeft_5 (And.intro (fun h => absurd h (by rw [hT.1]; omega)) (fun _ => ?_)) d5
    exact inner (rlen n w p t) 0 (by omega)
theorem lp_Turns_partnersLeft1 {T : qm_L} {d : Nat} {K : qm_K} {M : qm_M} {n a : Nat} {w p : Nat → Nat} (hI : qInv n w p) (hT : qTn M n w p) (hK : K (.inl (bits (dbl (pLb n w p a) (rlen n w p) (rT n w p) 0) 8 : Int)) (qL T) M) : ∀ (j t : Nat), t + j = rT n w p → at_Turns_partnersLeft_5 T d K M 1 (a : Int) (bits (dbl (pLb n w p a) (rlen n w p) t 0) 8 : Int) (t : Int)
  | 0, t, ht => fun d5 => by
    have : t = rT n w p := by omega
    subst this
    refine rg_Turns_partnersLeft_5 (And.intro (fun _ => hK) (fun h => absurd h (by rw [hT.1]; omega))) d5
  | j + 1, t, ht => fun d5 => by
    have h28 := (r_T hI).1
    have hl := (r_lt (n := n) (w := w) (p := p) (show t < rT n w p by omega)).1
    have hlen := rlen_ok hI hl
    have h8 := hI.2.1
    have hr : qm_R ((t : Int) + 1) := by unfold qm_R; omega
    have ih := lp_Turns_partnersLeft1 (d := d) hI hT hK j (t + 1) (by omega)
    have hd := (hT.2 t (by omega)).1
    have inner : ∀ (i k : Nat), k + i = rlen n w p t → at_Turns_partnersLeft_17 T d K M 1 (a : Int) (bits (dbl (pLb n w p a) (rlen n w p) t k) 8 : Int) (t : Int) (k : Int) := by
      intro i
      induction i with
      | zero =>
        intro k hk
        have hk : k = rlen n w p t := by omega
        subst hk
        refine rg_Turns_partnersLeft_17 (And.intro (fun _ => And.intro hr ?_) (fun h => absurd h (by rw [Td_len hd (by omega)]; omega)))
        rw [bits_congr (fun x _ => (dbl_t (x := x)).symm)]
        exact ih
      | succ i ihi =>
        intro k hk
        have hrk : qm_R ((k : Int) + 1) := by unfold qm_R; omega
        have hb : 0 ≤ (t : Int) ∧ (t : Int) ≤ 1000 ∧ 0 ≤ (k : Int) ∧ (k : Int) ≤ 1000 := by omega
        have e1 := Td_left hd (show t < 28 by omega) (show k < rlen n w p t by omega) (by omega)
        have e2 := Td_right hd (show t < 28 by omega) (show k < rlen n w p t by omega) (by omega)
        have hx := rle_lt hI hl k
        have ih2 := ihi (k + 1) (by omega)
        refine rg_Turns_partnersLeft_17 (And.intro (fun h => absurd h (by rw [Td_len hd (by omega)]; omega)) (fun _ => And.intro (fun hs => ?_) (fun hs => ?_)))
        · refine And.intro hb (And.intro (fun h => And.intro hrk ?_) (fun h => And.intro (fun _ => And.intro hb (And.intro hrk ?_)) (fun h2 => absurd hs h2)))
          · rw [e2] at h
            rw [bits_congr (P := dbl (pLb n w p a) (rlen n w p) t (k + 1)) (Q := dbl (pLb n w p a) (rlen n w p) t k) (fun x _ => ⟨fun q => (dbl_k.mp q).elim id (fun q2 => absurd q2.1 (fun z => h (by rw [z]))), fun q => dbl_k.mpr (Or.inl q)⟩)] at ih2
            exact ih2
          · rw [e2] at h
            rw [e1, bits_i (Q := dbl (pLb n w p a) (rlen n w p) t (k + 1)) (by decide) (by omega) (fun x _ => ⟨fun q => (dbl_k.mp q).imp id (fun q2 => q2.2.symm), fun q => dbl_k.mpr (q.imp id (fun q2 => ⟨by omega, q2.symm⟩))⟩)]
            exact ih2
        · exact absurd (show (1 : Int) ≠ 0 by decide) hs
    refine rg_Turns_partnersLeft_5 (And.intro (fun h => absurd h (by rw [hT.1]; omega)) (fun _ => ?_)) d5
    exact inner (rlen n w p t) 0 (by omega)
theorem s_Turns_partnersLeft {T : qm_L} {n sg a : Nat} {w p : Nat → Nat} {d : Nat} {K : qm_K} {M : qm_M} {s : Int} {b : Int} (hp0 : qInv n w p ∧ qTn M n w p) (hp1 : sg < 2 ∧ s = (sg : Int) ∧ b = (a : Int)) (hK : K (.inl ((bits (fun x => ∃ t, t < rT n w p ∧ ∃ l, rIn n w p t l ∧ (if sg = 0 then l = a ∧ rU n w p t l = x else rU n w p t l = a ∧ l = x)) 8 : Int))) (qL T) M) : qm_Runs qm_P (d + 3) 81 [(.inr (some 25)), (.inl s), (.inl b)] (qL T) M K := by
  refine en_Turns_partnersLeft   ?_
  obtain ⟨hI, hT⟩ := hp0
  obtain ⟨hs, rfl, rfl⟩ := hp1
  rcases (show sg = 0 ∨ sg = 1 by omega) with rfl | rfl
  · have hK2 : K (.inl (bits (dbl (pLa n w p a) (rlen n w p) (rT n w p) 0) 8 : Int)) (qL T) M := by
      rw [bits_congr (fun x _ => dbl_end hI (E := pLa n w p a) (x := x) (fun t l => l = a ∧ rU n w p t l = x) (fun t k => Iff.rfl))]
      exact hK
    have := lp_Turns_partnersLeft0 (d := d) hI hT hK2 (rT n w p) 0 (by omega)
    rw [bits_0 (fun x _ => dbl_0)] at this
    exact this
  · have hK2 : K (.inl (bits (dbl (pLb n w p a) (rlen n w p) (rT n w p) 0) 8 : Int)) (qL T) M := by
      rw [bits_congr (fun x _ => dbl_end hI (E := pLb n w p a) (x := x) (fun t l => rU n w p t l = a ∧ l = x) (fun t k => Iff.rfl))]
      exact hK
    have := lp_Turns_partnersLeft1 (d := d) hI hT hK2 (rT n w p) 0 (by omega)
    rw [bits_0 (fun x _ => dbl_0)] at this
    exact this
def at_Turns_movers_4 (T : qm_L) (d : Nat) (K : qm_K) (M : qm_M) (x1 x2 : Int) : Prop := ∀ (d3 : Option qm_V), qm_TT qi_82 (qm_Runs qm_P (d + 2)) K 4 [some (.inr (some 25)), some (.inl x1), some (.inl x2), d3] [] (qL T) M 0 0
def at_Turns_movers_14 (T : qm_L) (d : Nat) (K : qm_K) (M : qm_M) (x1 x2 x3 : Int) : Prop := qm_TT qi_82 (qm_Runs qm_P (d + 2)) K 14 [some (.inr (some 25)), some (.inl x1), some (.inl x2), some (.inl x3)] [] (qL T) M 0 0
theorem rg_Turns_movers_4 {T : qm_L}  {d : Nat} {K : qm_K} {M : qm_M} {x1 x2 : Int} (h :
    ((M 25 6) ≤ x2 →
     K (.inl x1) (qL T) M) ∧
    (¬ (M 25 6) ≤ x2 →
     at_Turns_movers_14 T d K M x1 x2 0)) : at_Turns_movers_4 T d K M x1 x2 :=
  fun d3 => qm_wp_TT [4, 14] 20 (And.intro (lf_25_6 T) (And.intro (fun q1 => (h.1 q1)) (fun q2 => (h.2 q2))))
theorem rg_Turns_movers_14 {T : qm_L}  {d : Nat} {K : qm_K} {M : qm_M} {x1 x2 x3 : Int} (h :
    ((gRow M 31 28 x2) ≤ x3 →
     qm_R (x2 + 1) ∧
     at_Turns_movers_4 T d K M x1 ((x2 + 1))) ∧
    (¬ (gRow M 31 28 x2) ≤ x3 →
     (0 ≤ x2 ∧ x2 ≤ 1000 ∧ 0 ≤ x3 ∧ x3 ≤ 1000) ∧
     qm_R (x3 + 1) ∧
     at_Turns_movers_14 T d K M ((qm_or x1 (qm_shl 1 (gRow M 27 224 (x2 * 8 + x3))))) x2 ((x3 + 1)))) : at_Turns_movers_14 T d K M x1 x2 x3 :=
  qm_wp_TT [4, 14] 20 (And.intro (lo_25 T) (s_Turns_length (d := d + 0)   (And.intro (fun q3 => And.intro (h.1 q3).1 ((h.1 q3).2 _)) (fun q4 => And.intro (lo_25 T) (s_Turns_left (d := d + 0)  ((h.2 q4).1) (And.intro (h.2 q4).2.1 ((h.2 q4).2.2)))))))
theorem en_Turns_movers {T : qm_L}  {d : Nat} {K : qm_K} {M : qm_M}  (h :
    at_Turns_movers_4 T d K M 0 0) : qm_Runs qm_P (d + 3) 82 [(.inr (some 25))] (qL T) M K :=
  And.intro (Nat.le_of_ble_eq_true rfl) (show qm_TT qi_82 (qm_Runs qm_P (d + 2)) K 0 [some (.inr (some 25)), none, none, none] [] (qL T) M 0 0 from qm_wp_TT [4, 14] 20 (h _))
theorem lp_Turns_movers {T : qm_L} {d : Nat} {K : qm_K} {M : qm_M} {n : Nat} {w p : Nat → Nat} (hI : qInv n w p) (hT : qTn M n w p) (hK : K (.inl (bits (dbl (pMv n w p) (rlen n w p) (rT n w p) 0) 8 : Int)) (qL T) M) : ∀ (j t : Nat), t + j = rT n w p → at_Turns_movers_4 T d K M (bits (dbl (pMv n w p) (rlen n w p) t 0) 8 : Int) (t : Int)
  | 0, t, ht => fun d5 => by
    have : t = rT n w p := by omega
    subst this
    refine rg_Turns_movers_4 (And.intro (fun _ => hK) (fun h => absurd h (by rw [hT.1]; omega))) d5
  | j + 1, t, ht => fun d5 => by
    have h28 := (r_T hI).1
    have hl := (r_lt (n := n) (w := w) (p := p) (show t < rT n w p by omega)).1
    have hlen := rlen_ok hI hl
    have h8 := hI.2.1
    have hr : qm_R ((t : Int) + 1) := by unfold qm_R; omega
    have ih := lp_Turns_movers (d := d) hI hT hK j (t + 1) (by omega)
    have hd := (hT.2 t (by omega)).1
    have inner : ∀ (i k : Nat), k + i = rlen n w p t → at_Turns_movers_14 T d K M (bits (dbl (pMv n w p) (rlen n w p) t k) 8 : Int) (t : Int) (k : Int) := by
      intro i
      induction i with
      | zero =>
        intro k hk
        have hk : k = rlen n w p t := by omega
        subst hk
        refine rg_Turns_movers_14 (And.intro (fun _ => And.intro hr ?_) (fun h => absurd h (by rw [Td_len hd (by omega)]; omega)))
        rw [bits_congr (fun x _ => (dbl_t (x := x)).symm)]
        exact ih
      | succ i ihi =>
        intro k hk
        have hrk : qm_R ((k : Int) + 1) := by unfold qm_R; omega
        have hb : 0 ≤ (t : Int) ∧ (t : Int) ≤ 1000 ∧ 0 ≤ (k : Int) ∧ (k : Int) ≤ 1000 := by omega
        have e1 := Td_left hd (show t < 28 by omega) (show k < rlen n w p t by omega) (by omega)
        have hx := rle_lt hI hl k
        have ih2 := ihi (k + 1) (by omega)
        refine rg_Turns_movers_14 (And.intro (fun h => absurd h (by rw [Td_len hd (by omega)]; omega)) (fun _ => And.intro hb (And.intro hrk ?_)))
        rw [e1, bits_i (Q := dbl (pMv n w p) (rlen n w p) t (k + 1)) (by decide) (by omega) (fun x _ => ⟨fun q => (dbl_k.mp q).imp id (fun q2 => q2.symm), fun q => dbl_k.mpr (q.imp id (fun q2 => q2.symm))⟩)]
        exact ih2
    refine rg_Turns_movers_4 (And.intro (fun h => absurd h (by rw [hT.1]; omega)) (fun _ => ?_)) d5
    exact inner (rlen n w p t) 0 (by omega)
theorem s_Turns_movers {T : qm_L} {n : Nat} {w p : Nat → Nat} {d : Nat} {K : qm_K} {M : qm_M}  (hp0 : qInv n w p ∧ qTn M n w p) (hK : K (.inl ((bits (fun x => ∃ t, t < rT n w p ∧ rIn n w p t x) 8 : Int))) (qL T) M) : qm_Runs qm_P (d + 3) 82 [(.inr (some 25))] (qL T) M K := by
  refine en_Turns_movers   ?_
  obtain ⟨hI, hT⟩ := hp0
  have hK2 : K (.inl (bits (dbl (pMv n w p) (rlen n w p) (rT n w p) 0) 8 : Int)) (qL T) M := by
    rw [bits_congr (fun x _ => dbl_end hI (E := pMv n w p) (x := x) (fun t l => l = x) (fun t k => Iff.rfl))]
    rw [bits_congr (Q := fun x => ∃ t, t < rT n w p ∧ rIn n w p t x) (fun x _ => ⟨fun ⟨t, h1, l, h2, h3⟩ => ⟨t, h1, h3 ▸ h2⟩, fun ⟨t, h1, h2⟩ => ⟨t, h1, x, h2, rfl⟩⟩)]
    exact hK
  have := lp_Turns_movers (d := d) hI hT hK2 (rT n w p) 0 (by omega)
  rw [bits_0 (fun x _ => dbl_0)] at this
  exact this
def at_Turns_behind_5 (T : qm_L) (d : Nat) (K : qm_K) (M : qm_M) (x3 x4 : Int) : Prop := ∀ (d5 : Option qm_V), qm_TT qi_83 (qm_Runs qm_P (d + 2)) K 5 [some (.inr (some 25)), some (.inr (some 56)), some (.inr (some 4)), some (.inl x3), some (.inl x4), d5] [] (qL T) M 0 0
theorem rg_Turns_behind_5 {T : qm_L}  {d : Nat} {K : qm_K} {M : qm_M} {x3 x4 : Int} (h :
    ((M 25 6) ≤ x4 →
     K (.inl x3) (qL T) M) ∧
    (¬ (M 25 6) ≤ x4 →
     (0 ≤ x4 ∧ x4 ≤ 1000 ∧ 0 ≤ (0 : Int) ∧ (0 : Int) ≤ 1000) ∧
     (0 ≤ x4 ∧ x4 ≤ 1000 ∧ 0 ≤ (0 : Int) ∧ (0 : Int) ≤ 1000) ∧
     ((gPl M 4 0 (gRow M 27 224 (x4 * 8 + 0)) (gPar M 56 0 (gRow M 27 224 (x4 * 8 + 0)))) ≤ (gPl M 4 0 (gRow M 27 224 (x4 * 8 + 0)) (gRow M 29 224 (x4 * 8 + 0))) →
      qm_R (x4 + 1) ∧
      at_Turns_behind_5 T d K M x3 ((x4 + 1))) ∧
     (¬ (gPl M 4 0 (gRow M 27 224 (x4 * 8 + 0)) (gPar M 56 0 (gRow M 27 224 (x4 * 8 + 0)))) ≤ (gPl M 4 0 (gRow M 27 224 (x4 * 8 + 0)) (gRow M 29 224 (x4 * 8 + 0))) →
      qm_R (x4 + 1) ∧
      at_Turns_behind_5 T d K M ((qm_or x3 (qm_shl 1 x4))) ((x4 + 1))))) : at_Turns_behind_5 T d K M x3 x4 :=
  fun d5 => qm_wp_TT [5] 38 (And.intro (lf_25_6 T) (And.intro (fun q1 => (h.1 q1)) (fun q2 => And.intro (lo_25 T) (s_Turns_left (d := d + 0)  ((h.2 q2).1) (And.intro (lo_56 T) (s_Pair_partner (d := d + 0) (lPr_56 T)  (And.intro (lo_4 T) (s_Lists_place (d := d + 0) (lLs_4 T)  (And.intro (lo_25 T) (s_Turns_right (d := d + 0)  ((h.2 q2).2.1) (And.intro (lo_4 T) (s_Lists_place (d := d + 0) (lLs_4 T)  (And.intro (fun q3 => And.intro ((h.2 q2).2.2.1 q3).1 (((h.2 q2).2.2.1 q3).2 _)) (fun q4 => And.intro ((h.2 q2).2.2.2 q4).1 (((h.2 q2).2.2.2 q4).2 _)))))))))))))))
theorem en_Turns_behind {T : qm_L}  {d : Nat} {K : qm_K} {M : qm_M}  (h :
    at_Turns_behind_5 T d K M 0 0) : qm_Runs qm_P (d + 3) 83 [(.inr (some 25)), (.inr (some 56)), (.inr (some 4))] (qL T) M K :=
  And.intro (Nat.le_of_ble_eq_true rfl) (show qm_TT qi_83 (qm_Runs qm_P (d + 2)) K 0 [some (.inr (some 25)), some (.inr (some 56)), some (.inr (some 4)), none, none, none] [] (qL T) M 0 0 from qm_wp_TT [5] 38 (h _))
theorem lp_Turns_behind {T : qm_L} {d : Nat} {K : qm_K} {M : qm_M} {n : Nat} {w p u v : Nat → Nat} (hI : qInv n w p) (hT : qTn M n w p) (hl : qLR M 4 n w p) (hp : qPR M 56 n u v) (hu : qTot n u) (hK : K (.inl (bits (fun t => p (ix 0 (rL n w p t) (rU n w p t (rL n w p t))) < p (ix 0 (rL n w p t) (u (rL n w p t)))) (rT n w p) : Int)) (qL T) M) : ∀ (j t : Nat), t + j = rT n w p → at_Turns_behind_5 T d K M (bits (fun t => p (ix 0 (rL n w p t) (rU n w p t (rL n w p t))) < p (ix 0 (rL n w p t) (u (rL n w p t)))) t : Int) (t : Int)
  | 0, t, ht => fun d5 => by
    have : t = rT n w p := by omega
    subst this
    refine rg_Turns_behind_5 (And.intro (fun _ => hK) (fun h => absurd h (by rw [hT.1]; omega))) d5
  | j + 1, t, ht => fun d5 => by
    have h28 := (r_T hI).1
    have hlt := (r_lt (n := n) (w := w) (p := p) (show t < rT n w p by omega)).1
    have hlen := rlen_ok hI hlt
    have h8 := hI.2.1
    have hr : qm_R ((t : Int) + 1) := by unfold qm_R; omega
    have ih := lp_Turns_behind (d := d) hI hT hl hp hu hK j (t + 1) (by omega)
    have hd := (hT.2 t (by omega)).1
    have e1 := Td_left hd (show t < 28 by omega) (show 0 < rlen n w p t by omega) (by omega)
    have e2 := Td_right hd (show t < 28 by omega) (show 0 < rlen n w p t by omega) (by omega)
    have hx := rle_lt hI hlt 0
    have hb : 0 ≤ (t : Int) ∧ (t : Int) ≤ 1000 ∧ (0 : Int) ≤ 0 ∧ (0 : Int) ≤ 1000 := by omega
    refine rg_Turns_behind_5 (And.intro (fun h => absurd h (by rw [hT.1]; omega)) (fun _ => And.intro hb (And.intro hb ?_))) d5
    rw [show ((t : Int) * 8 + 0) = (t : Int) * 8 + ((0 : Nat) : Int) from rfl, e1, e2, gPar_l hp h8 hx.1, cz_n (by have := hu _ hx.1; omega)]
    rw [show gPl M 4 0 (rle n w p t 0 : Int) (u (rle n w p t 0) : Int) = (p (ix 0 (rle n w p t 0) (u (rle n w p t 0))) : Int) from gPl_n (s := 0) hl (by omega) hx.1 (hu _ hx.1)]
    rw [show gPl M 4 0 (rle n w p t 0 : Int) (rri n w p t 0 : Int) = (p (ix 0 (rle n w p t 0) (rri n w p t 0)) : Int) from gPl_n (s := 0) hl (by omega) hx.1 hx.2]
    refine And.intro (fun h => And.intro hr ?_) (fun h => And.intro hr ?_)
    · rw [bits_f (P := fun t => p (ix 0 (rL n w p t) (rU n w p t (rL n w p t))) < p (ix 0 (rL n w p t) (u (rL n w p t)))) (t := t) (fun q => absurd (show p (ix 0 (rle n w p t 0) (rri n w p t 0)) < p (ix 0 (rle n w p t 0) (u (rle n w p t 0))) from q) (by omega))] at ih
      exact ih
    · rw [bits_t (P := fun t => p (ix 0 (rL n w p t) (rU n w p t (rL n w p t))) < p (ix 0 (rL n w p t) (u (rL n w p t)))) (by omega) (show p (ix 0 (rle n w p t 0) (rri n w p t 0)) < p (ix 0 (rle n w p t 0) (u (rle n w p t 0))) by omega)]
      exact ih
theorem s_Turns_behind {T : qm_L} {n : Nat} {w p u v : Nat → Nat} {d : Nat} {K : qm_K} {M : qm_M}  (hp0 : qTn M n w p) (hp1 : qLR M 4 n w p) (hp2 : qPR M 56 n u v) (hp3 : qTot n u) (hK : K (.inl ((bits (fun t => p (ix 0 (rL n w p t) (rU n w p t (rL n w p t))) < p (ix 0 (rL n w p t) (u (rL n w p t)))) (rT n w p) : Int))) (qL T) M) : qm_Runs qm_P (d + 3) 83 [(.inr (some 25)), (.inr (some 56)), (.inr (some 4))] (qL T) M K := by
  refine en_Turns_behind   ?_
  exact lp_Turns_behind hp1.2.2.2 hp0 hp1 hp2 hp3 hK (rT n w p) 0 (by omega)
