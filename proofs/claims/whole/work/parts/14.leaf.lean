theorem en_Row_get {L : qm_L} {r n : Nat} {d : Nat} {K : qm_K} {M : qm_M} {i : Int} (hR : qRow L r n) (h :
    (i < 0 →
     K (.inl ((-1))) L M) ∧
    (¬ i < 0 →
     (((n : Nat) : Int) ≤ i →
      K (.inl ((-1))) L M) ∧
     (¬ ((n : Nat) : Int) ≤ i →
      0 ≤ i ∧ i < n ∧
      K (.inl ((M (r + 1) (Int.toNat i)))) L M))) : qm_Runs qm_P (d + 1) 54 [(.inr (some r)), (.inl i)] L M K :=
  And.intro (Nat.le_of_ble_eq_true rfl) (show qm_TT qi_54 (qm_Runs qm_P (d + 0)) K 0 [some (.inr (some r)), some (.inl i)] [] L M 0 0 from qm_wp_TT [] 16 (And.intro (fun q1 => (h.1 q1)) (fun q2 => Exists.intro (r + 1) (And.intro hR.1 (Exists.intro n (And.intro hR.2.1 (And.intro hR.2.2 (And.intro (fun q3 => ((h.2 q2).1 q3)) (fun q4 => Exists.intro (r + 1) (And.intro hR.1 (Exists.intro n (And.intro hR.2.1 (And.intro ((h.2 q2).2 q4).1 (And.intro ((h.2 q2).2 q4).2.1 (((h.2 q2).2 q4).2.2)))))))))))))))
theorem s_Row_get {L : qm_L} {r n : Nat} {d : Nat} {K : qm_K} {M : qm_M} {i : Int} (hR : qRow L r n)  (hK : K (.inl (gRow M (r + 1) n i)) L M) : qm_Runs qm_P (d + 1) 54 [(.inr (some r)), (.inl i)] L M K := by
  refine en_Row_get hR ?_
  repeat' first | (intro _) | (refine And.intro ?_ ?_)
  all_goals first | (unfold qm_R; omega) | omega | exact qk_eq hK (by unfold gRow; split <;> first | rfl | omega)
theorem en_Row_set {L : qm_L} {r n : Nat} {d : Nat} {K : qm_K} {M : qm_M} {i : Int} {v : Int} (hR : qRow L r n) (h :
    (i < 0 →
     K (.inl 0) L M) ∧
    (¬ i < 0 →
     (((n : Nat) : Int) ≤ i →
      K (.inl 0) L M) ∧
     (¬ ((n : Nat) : Int) ≤ i →
      0 ≤ i ∧ i < n ∧
      K (.inl 0) L (qm_u M (r + 1) (Int.toNat i) v)))) : qm_Runs qm_P (d + 1) 55 [(.inr (some r)), (.inl i), (.inl v)] L M K :=
  And.intro (Nat.le_of_ble_eq_true rfl) (show qm_TT qi_55 (qm_Runs qm_P (d + 0)) K 0 [some (.inr (some r)), some (.inl i), some (.inl v)] [] L M 0 0 from qm_wp_TT [] 16 (And.intro (fun q1 => (h.1 q1)) (fun q2 => Exists.intro (r + 1) (And.intro hR.1 (Exists.intro n (And.intro hR.2.1 (And.intro hR.2.2 (And.intro (fun q3 => ((h.2 q2).1 q3)) (fun q4 => Exists.intro (r + 1) (And.intro hR.1 (Exists.intro n (And.intro hR.2.1 (And.intro ((h.2 q2).2 q4).1 (And.intro ((h.2 q2).2 q4).2.1 (((h.2 q2).2 q4).2.2)))))))))))))))
theorem s_Row_set {L : qm_L} {r n : Nat} {d : Nat} {K : qm_K} {M : qm_M} {i : Int} {v : Int} (hR : qRow L r n)  (hK : K (.inl 0) L (sRow M (r + 1) n i v)) : qm_Runs qm_P (d + 1) 55 [(.inr (some r)), (.inl i), (.inl v)] L M K := by
  refine en_Row_set hR ?_
  repeat' first | (intro _) | (refine And.intro ?_ ?_)
  all_goals first | omega | exact qk_eqM hK rfl (by unfold sRow; split <;> first | rfl | omega)
def at_Row_fill_2 (L : qm_L) (r n : Nat) (d : Nat) (K : qm_K) (M : qm_M) (x1 x2 : Int) : Prop := qm_TT qi_56 (qm_Runs qm_P (d + 0)) K 2 [some (.inr (some r)), some (.inl x1), some (.inl x2)] [] L M 0 0
theorem rg_Row_fill_2 {L : qm_L} {r n : Nat} {d : Nat} {K : qm_K} {M : qm_M} {x1 x2 : Int} (hR : qRow L r n) (h :
    (((n : Nat) : Int) ≤ x2 →
     K (.inl 0) L M) ∧
    (¬ ((n : Nat) : Int) ≤ x2 →
     0 ≤ x2 ∧ x2 < n ∧
     qm_R (x2 + 1) ∧
     at_Row_fill_2 L r n d K (qm_u M (r + 1) (Int.toNat x2) x1) x1 ((x2 + 1)))) : at_Row_fill_2 L r n d K M x1 x2 :=
  qm_wp_TT [2] 16 (Exists.intro (r + 1) (And.intro hR.1 (Exists.intro n (And.intro hR.2.1 (And.intro hR.2.2 (And.intro (fun q1 => (h.1 q1)) (fun q2 => Exists.intro (r + 1) (And.intro hR.1 (Exists.intro n (And.intro hR.2.1 (And.intro (h.2 q2).1 (And.intro (h.2 q2).2.1 (And.intro (h.2 q2).2.2.1 ((h.2 q2).2.2.2))))))))))))))
theorem en_Row_fill {L : qm_L} {r n : Nat} {d : Nat} {K : qm_K} {M : qm_M} {v : Int} (hR : qRow L r n) (h :
    at_Row_fill_2 L r n d K M v 0) : qm_Runs qm_P (d + 1) 56 [(.inr (some r)), (.inl v)] L M K :=
  And.intro (Nat.le_of_ble_eq_true rfl) (show qm_TT qi_56 (qm_Runs qm_P (d + 0)) K 0 [some (.inr (some r)), some (.inl v), none] [] L M 0 0 from qm_wp_TT [2] 16 (h))
theorem lp_Row_fill {L : qm_L} {r n d : Nat} {K : qm_K} (hR : qRow L r n) {M0 : qm_M} {v : Int} (hK : K (.inl 0) L (fRow M0 (r + 1) n v)) : ∀ (k i : Nat) (M : qm_M), i + k = n → (M = fun a b => if a = r + 1 then (if b < i then v else M0 a b) else M0 a b) → at_Row_fill_2 L r n d K M v (i : Int)
  | 0, i, M, hi, hM => by
    refine rg_Row_fill_2 hR (And.intro (fun _ => ?_) (fun h => absurd h (by omega)))
    refine qk_eqM hK rfl ?_
    rw [hM]
    unfold fRow
    rw [show n = i by omega]
  | k + 1, i, M, hi, hM => by
    have := hR.2.2
    refine rg_Row_fill_2 hR (And.intro (fun h => absurd h (by omega)) (fun _ => And.intro (by omega) (And.intro (by omega) (And.intro (by unfold qm_R; omega) ?_))))
    refine lp_Row_fill hR hK k (i + 1) _ (by omega) ?_
    rw [hM]
    funext a b
    unfold qm_u
    simp only [Int.toNat_natCast]
    split
    · by_cases h1 : b = i
      · rw [if_pos h1, if_pos (by omega)]
      · rw [if_neg h1]
        by_cases h2 : b < i
        · rw [if_pos h2, if_pos (by omega)]
        · rw [if_neg h2, if_neg (by omega)]
    · rfl
theorem s_Row_fill {L : qm_L} {r n : Nat} {d : Nat} {K : qm_K} {M : qm_M} {v : Int} (hR : qRow L r n)  (hK : K (.inl 0) L (fRow M (r + 1) n v)) : qm_Runs qm_P (d + 1) 56 [(.inr (some r)), (.inl v)] L M K := by
  refine en_Row_fill hR ?_
  refine lp_Row_fill hR hK n 0 M (by omega) ?_
  funext a b
  simp
def at_Row_copyFrom_2 (L : qm_L) (r q n : Nat) (d : Nat) (K : qm_K) (M : qm_M) (x2 : Int) : Prop := qm_TT qi_57 (qm_Runs qm_P (d + 1)) K 2 [some (.inr (some r)), some (.inr (some q)), some (.inl x2)] [] L M 0 0
theorem rg_Row_copyFrom_2 {L : qm_L} {r q n : Nat} {d : Nat} {K : qm_K} {M : qm_M} {x2 : Int} (hR : qRow L r n) (hQ : qRow L q n) (h :
    (((n : Nat) : Int) ≤ x2 →
     K (.inl 0) L M) ∧
    (¬ ((n : Nat) : Int) ≤ x2 →
     0 ≤ x2 ∧ x2 < n ∧
     qm_R (x2 + 1) ∧
     at_Row_copyFrom_2 L r q n d K (qm_u M (r + 1) (Int.toNat x2) (gRow M (q + 1) n x2)) ((x2 + 1)))) : at_Row_copyFrom_2 L r q n d K M x2 :=
  qm_wp_TT [2] 18 (Exists.intro (r + 1) (And.intro hR.1 (Exists.intro n (And.intro hR.2.1 (And.intro hR.2.2 (And.intro (fun q1 => (h.1 q1)) (fun q2 => Exists.intro (r + 1) (And.intro hR.1 (And.intro (qm_FO hQ.1) (s_Row_get (d := d + 0) hQ  (Exists.intro n (And.intro hR.2.1 (And.intro (h.2 q2).1 (And.intro (h.2 q2).2.1 (And.intro (h.2 q2).2.2.1 ((h.2 q2).2.2.2))))))))))))))))
theorem en_Row_copyFrom {L : qm_L} {r q n : Nat} {d : Nat} {K : qm_K} {M : qm_M}  (hR : qRow L r n) (hQ : qRow L q n) (h :
    at_Row_copyFrom_2 L r q n d K M 0) : qm_Runs qm_P (d + 2) 57 [(.inr (some r)), (.inr (some q))] L M K :=
  And.intro (Nat.le_of_ble_eq_true rfl) (show qm_TT qi_57 (qm_Runs qm_P (d + 1)) K 0 [some (.inr (some r)), some (.inr (some q)), none] [] L M 0 0 from qm_wp_TT [2] 18 (h))
theorem lp_Row_copyFrom {L : qm_L} {r q n d : Nat} {K : qm_K} (hR : qRow L r n) (hQ : qRow L q n) (hne : ¬ q + 1 = r + 1) {M0 : qm_M} (hK : K (.inl 0) L (cRow M0 (r + 1) n (q + 1))) : ∀ (k i : Nat) (M : qm_M), i + k = n → (M = fun a b => if a = r + 1 then (if b < i then M0 (q + 1) b else M0 a b) else M0 a b) → at_Row_copyFrom_2 L r q n d K M (i : Int)
  | 0, i, M, hi, hM => by
    refine rg_Row_copyFrom_2 hR hQ (And.intro (fun _ => ?_) (fun h => absurd h (by omega)))
    refine qk_eqM hK rfl ?_
    rw [hM]
    unfold cRow
    rw [show n = i by omega]
  | k + 1, i, M, hi, hM => by
    have := hR.2.2
    refine rg_Row_copyFrom_2 hR hQ (And.intro (fun h => absurd h (by omega)) (fun _ => And.intro (by omega) (And.intro (by omega) (And.intro (by unfold qm_R; omega) ?_))))
    refine lp_Row_copyFrom hR hQ hne hK k (i + 1) _ (by omega) ?_
    have hg : gRow M (q + 1) n (i : Int) = M0 (q + 1) i := by
      unfold gRow
      rw [if_pos (by omega), hM, Int.toNat_natCast]
      simp only
      rw [if_neg hne]
    rw [hg, hM]
    funext a b
    unfold qm_u
    simp only [Int.toNat_natCast]
    split
    · by_cases h1 : b = i
      · rw [if_pos h1, if_pos (by omega), h1]
      · rw [if_neg h1]
        by_cases h2 : b < i
        · rw [if_pos h2, if_pos (by omega)]
        · rw [if_neg h2, if_neg (by omega)]
    · rfl
theorem s_Row_copyFrom {L : qm_L} {r q n : Nat} {d : Nat} {K : qm_K} {M : qm_M}  (hR : qRow L r n) (hQ : qRow L q n) (hp0 : ¬ (q + 1) = (r + 1)) (hK : K (.inl 0) L (cRow M (r + 1) n (q + 1))) : qm_Runs qm_P (d + 2) 57 [(.inr (some r)), (.inr (some q))] L M K := by
  refine en_Row_copyFrom hR hQ ?_
  refine lp_Row_copyFrom hR hQ hp0 hK n 0 M (by omega) ?_
  funext a b
  simp
theorem en_cell2 {L : qm_L} {d : Nat} {K : qm_K} {M : qm_M} {s : Int} {a : Int} (h :
    (s = 0 →
     (a < 0 →
      K (.inl ((-1))) L M) ∧
     (¬ a < 0 →
      (8 ≤ a →
       K (.inl ((-1))) L M) ∧
      (¬ 8 ≤ a →
       qm_R (s * 8) ∧
       qm_R ((s * 8) + a) ∧
       K (.inl (((s * 8) + a))) L M))) ∧
    (¬ s = 0 →
     (s ≠ 1 →
      K (.inl ((-1))) L M) ∧
     (¬ s ≠ 1 →
      (a < 0 →
       K (.inl ((-1))) L M) ∧
      (¬ a < 0 →
       (8 ≤ a →
        K (.inl ((-1))) L M) ∧
       (¬ 8 ≤ a →
        qm_R (s * 8) ∧
        qm_R ((s * 8) + a) ∧
        K (.inl (((s * 8) + a))) L M))))) : qm_Runs qm_P (d + 1) 52 [(.inl s), (.inl a)] L M K :=
  And.intro (Nat.le_of_ble_eq_true rfl) (show qm_TT qi_52 (qm_Runs qm_P (d + 0)) K 0 [some (.inl s), some (.inl a), none] [] L M 0 0 from qm_wp_TT [] 25 (And.intro (fun q1 => And.intro (fun q3 => And.intro (fun _ => ((h.1 q1).1 q3)) (fun q => absurd (show ((0 : Int) = 0 : Prop) by decide) q)) (fun q4 => And.intro (fun q5 => And.intro (fun _ => (((h.1 q1).2 q4).1 q5)) (fun q => absurd (show ((0 : Int) = 0 : Prop) by decide) q)) (fun q6 => And.intro (fun q => absurd q (show ¬ ((1 : Int) = 0 : Prop) by decide)) (fun _ => And.intro (((h.1 q1).2 q4).2 q6).1 (And.intro (((h.1 q1).2 q4).2 q6).2.1 ((((h.1 q1).2 q4).2 q6).2.2)))))) (fun q2 => And.intro (fun q7 => And.intro (fun _ => ((h.2 q2).1 q7)) (fun q => absurd (show ((0 : Int) = 0 : Prop) by decide) q)) (fun q8 => And.intro (fun q9 => And.intro (fun _ => (((h.2 q2).2 q8).1 q9)) (fun q => absurd (show ((0 : Int) = 0 : Prop) by decide) q)) (fun q10 => And.intro (fun q11 => And.intro (fun _ => ((((h.2 q2).2 q8).2 q10).1 q11)) (fun q => absurd (show ((0 : Int) = 0 : Prop) by decide) q)) (fun q12 => And.intro (fun q => absurd q (show ¬ ((1 : Int) = 0 : Prop) by decide)) (fun _ => And.intro ((((h.2 q2).2 q8).2 q10).2 q12).1 (And.intro ((((h.2 q2).2 q8).2 q10).2 q12).2.1 (((((h.2 q2).2 q8).2 q10).2 q12).2.2)))))))))
theorem s_cell2 {L : qm_L} {d : Nat} {K : qm_K} {M : qm_M} {s : Int} {a : Int}  (hK : K (.inl (cell2 s a)) L M) : qm_Runs qm_P (d + 1) 52 [(.inl s), (.inl a)] L M K := by
  refine en_cell2  ?_
  repeat' first | (intro _) | (refine And.intro ?_ ?_)
  all_goals first | (unfold qm_R; omega) | omega | exact qk_eq hK (by unfold cell2; split <;> first | rfl | omega)
theorem en_cell3 {L : qm_L} {d : Nat} {K : qm_K} {M : qm_M} {s : Int} {a : Int} {k : Int} (h :
    (s = 0 →
     (a < 0 →
      K (.inl ((-1))) L M) ∧
     (¬ a < 0 →
      (8 ≤ a →
       K (.inl ((-1))) L M) ∧
      (¬ 8 ≤ a →
       (k < 0 →
        K (.inl ((-1))) L M) ∧
       (¬ k < 0 →
        (8 ≤ k →
         K (.inl ((-1))) L M) ∧
        (¬ 8 ≤ k →
         qm_R (s * 8) ∧
         qm_R ((s * 8) + a) ∧
         qm_R (((s * 8) + a) * 8) ∧
         qm_R ((((s * 8) + a) * 8) + k) ∧
         K (.inl (((((s * 8) + a) * 8) + k))) L M))))) ∧
    (¬ s = 0 →
     (s ≠ 1 →
      K (.inl ((-1))) L M) ∧
     (¬ s ≠ 1 →
      (a < 0 →
       K (.inl ((-1))) L M) ∧
      (¬ a < 0 →
       (8 ≤ a →
        K (.inl ((-1))) L M) ∧
       (¬ 8 ≤ a →
        (k < 0 →
         K (.inl ((-1))) L M) ∧
        (¬ k < 0 →
         (8 ≤ k →
          K (.inl ((-1))) L M) ∧
         (¬ 8 ≤ k →
          qm_R (s * 8) ∧
          qm_R ((s * 8) + a) ∧
          qm_R (((s * 8) + a) * 8) ∧
          qm_R ((((s * 8) + a) * 8) + k) ∧
          K (.inl (((((s * 8) + a) * 8) + k))) L M))))))) : qm_Runs qm_P (d + 1) 37 [(.inl s), (.inl a), (.inl k)] L M K :=
  And.intro (Nat.le_of_ble_eq_true rfl) (show qm_TT qi_37 (qm_Runs qm_P (d + 0)) K 0 [some (.inl s), some (.inl a), some (.inl k), none] [] L M 0 0 from qm_wp_TT [] 34 (And.intro (fun q1 => And.intro (fun q3 => And.intro (fun _ => ((h.1 q1).1 q3)) (fun q => absurd (show ((0 : Int) = 0 : Prop) by decide) q)) (fun q4 => And.intro (fun q5 => And.intro (fun _ => (((h.1 q1).2 q4).1 q5)) (fun q => absurd (show ((0 : Int) = 0 : Prop) by decide) q)) (fun q6 => And.intro (fun q7 => And.intro (fun _ => ((((h.1 q1).2 q4).2 q6).1 q7)) (fun q => absurd (show ((0 : Int) = 0 : Prop) by decide) q)) (fun q8 => And.intro (fun q9 => And.intro (fun _ => (((((h.1 q1).2 q4).2 q6).2 q8).1 q9)) (fun q => absurd (show ((0 : Int) = 0 : Prop) by decide) q)) (fun q10 => And.intro (fun q => absurd q (show ¬ ((1 : Int) = 0 : Prop) by decide)) (fun _ => And.intro (((((h.1 q1).2 q4).2 q6).2 q8).2 q10).1 (And.intro (((((h.1 q1).2 q4).2 q6).2 q8).2 q10).2.1 (And.intro (((((h.1 q1).2 q4).2 q6).2 q8).2 q10).2.2.1 (And.intro (((((h.1 q1).2 q4).2 q6).2 q8).2 q10).2.2.2.1 ((((((h.1 q1).2 q4).2 q6).2 q8).2 q10).2.2.2.2)))))))))) (fun q2 => And.intro (fun q11 => And.intro (fun _ => ((h.2 q2).1 q11)) (fun q => absurd (show ((0 : Int) = 0 : Prop) by decide) q)) (fun q12 => And.intro (fun q13 => And.intro (fun _ => (((h.2 q2).2 q12).1 q13)) (fun q => absurd (show ((0 : Int) = 0 : Prop) by decide) q)) (fun q14 => And.intro (fun q15 => And.intro (fun _ => ((((h.2 q2).2 q12).2 q14).1 q15)) (fun q => absurd (show ((0 : Int) = 0 : Prop) by decide) q)) (fun q16 => And.intro (fun q17 => And.intro (fun _ => (((((h.2 q2).2 q12).2 q14).2 q16).1 q17)) (fun q => absurd (show ((0 : Int) = 0 : Prop) by decide) q)) (fun q18 => And.intro (fun q19 => And.intro (fun _ => ((((((h.2 q2).2 q12).2 q14).2 q16).2 q18).1 q19)) (fun q => absurd (show ((0 : Int) = 0 : Prop) by decide) q)) (fun q20 => And.intro (fun q => absurd q (show ¬ ((1 : Int) = 0 : Prop) by decide)) (fun _ => And.intro ((((((h.2 q2).2 q12).2 q14).2 q16).2 q18).2 q20).1 (And.intro ((((((h.2 q2).2 q12).2 q14).2 q16).2 q18).2 q20).2.1 (And.intro ((((((h.2 q2).2 q12).2 q14).2 q16).2 q18).2 q20).2.2.1 (And.intro ((((((h.2 q2).2 q12).2 q14).2 q16).2 q18).2 q20).2.2.2.1 (((((((h.2 q2).2 q12).2 q14).2 q16).2 q18).2 q20).2.2.2.2)))))))))))))
theorem s_cell3 {L : qm_L} {d : Nat} {K : qm_K} {M : qm_M} {s : Int} {a : Int} {k : Int}  (hK : K (.inl (cell3 s a k)) L M) : qm_Runs qm_P (d + 1) 37 [(.inl s), (.inl a), (.inl k)] L M K := by
  refine en_cell3  ?_
  repeat' first | (intro _) | (refine And.intro ?_ ?_)
  all_goals first | (unfold qm_R; omega) | omega | exact qk_eq hK (by unfold cell3; split <;> first | rfl | omega)
theorem en_Pair_clear {L : qm_L} {p : Nat} {d : Nat} {K : qm_K} {M : qm_M}  (hP : qPr L p) (h :
    K (.inl 0) L (fRow M (p + 2) 16 (-1))) : qm_Runs qm_P (d + 2) 46 [(.inr (some p))] L M K :=
  And.intro (Nat.le_of_ble_eq_true rfl) (show qm_TT qi_46 (qm_Runs qm_P (d + 1)) K 0 [some (.inr (some p))] [] L M 0 0 from qm_wp_TT [] 8 (Exists.intro (p + 1) (And.intro hP.1 (And.intro (qm_FO hP.2.1) (s_Row_fill (d := d + 0) hP.2  (h))))))
theorem s_Pair_clear {L : qm_L} {p : Nat} {d : Nat} {K : qm_K} {M : qm_M}  (hP : qPr L p)  (hK : K (.inl 0) L (fRow M (p + 2) 16 (-1))) : qm_Runs qm_P (d + 2) 46 [(.inr (some p))] L M K :=
  en_Pair_clear hP hK
theorem en_Pair_copyFrom {L : qm_L} {p q : Nat} {d : Nat} {K : qm_K} {M : qm_M}  (hP : qPr L p) (hQ : qPr L q) (h :
    (¬ (q + 2) = (p + 2)) ∧
    K (.inl 0) L (cRow M (p + 2) 16 (q + 2))) : qm_Runs qm_P (d + 3) 47 [(.inr (some p)), (.inr (some q))] L M K :=
  And.intro (Nat.le_of_ble_eq_true rfl) (show qm_TT qi_47 (qm_Runs qm_P (d + 2)) K 0 [some (.inr (some p)), some (.inr (some q))] [] L M 0 0 from qm_wp_TT [] 9 (Exists.intro (p + 1) (And.intro hP.1 (Exists.intro (q + 1) (And.intro hQ.1 (And.intro (qm_FO hP.2.1) (s_Row_copyFrom (d := d + 0) hP.2 hQ.2 (h.1) (h.2))))))))
theorem s_Pair_copyFrom {L : qm_L} {p q : Nat} {d : Nat} {K : qm_K} {M : qm_M}  (hP : qPr L p) (hQ : qPr L q) (hp0 : ¬ (q + 2) = (p + 2)) (hK : K (.inl 0) L (cRow M (p + 2) 16 (q + 2))) : qm_Runs qm_P (d + 3) 47 [(.inr (some p)), (.inr (some q))] L M K := by
  refine en_Pair_copyFrom hP hQ ?_
  exact And.intro hp0 hK
theorem en_Pair_partner {L : qm_L} {p : Nat} {d : Nat} {K : qm_K} {M : qm_M} {s : Int} {a : Int} (hP : qPr L p) (h :
    K (.inl ((gRow M (p + 2) 16 (cell2 s a)))) L M) : qm_Runs qm_P (d + 2) 48 [(.inr (some p)), (.inl s), (.inl a)] L M K :=
  And.intro (Nat.le_of_ble_eq_true rfl) (show qm_TT qi_48 (qm_Runs qm_P (d + 1)) K 0 [some (.inr (some p)), some (.inl s), some (.inl a)] [] L M 0 0 from qm_wp_TT [] 10 (Exists.intro (p + 1) (And.intro hP.1 (And.intro True.intro (s_cell2 (d := d + 0)   (And.intro (qm_FO hP.2.1) (s_Row_get (d := d + 0) hP.2  (h))))))))
theorem s_Pair_partner {L : qm_L} {p : Nat} {d : Nat} {K : qm_K} {M : qm_M} {s : Int} {a : Int} (hP : qPr L p)  (hK : K (.inl (gPar M p s a)) L M) : qm_Runs qm_P (d + 2) 48 [(.inr (some p)), (.inl s), (.inl a)] L M K :=
  en_Pair_partner hP hK
theorem en_Pair_part {L : qm_L} {p : Nat} {d : Nat} {K : qm_K} {M : qm_M} {s : Int} {a : Int} (hP : qPr L p) (h :
    qm_R (1 - s) ∧
    K (.inl 0) L (sRow (sRow M (p + 2) 16 (cell2 s a) (-1)) (p + 2) 16 (cell2 (1 - s) (gRow M (p + 2) 16 (cell2 s a))) (-1))) : qm_Runs qm_P (d + 2) 49 [(.inr (some p)), (.inl s), (.inl a)] L M K :=
  And.intro (Nat.le_of_ble_eq_true rfl) (show qm_TT qi_49 (qm_Runs qm_P (d + 1)) K 0 [some (.inr (some p)), some (.inl s), some (.inl a), none, none] [] L M 0 0 from qm_wp_TT [] 27 (And.intro True.intro (s_cell2 (d := d + 0)   (And.intro h.1 (Exists.intro (p + 1) (And.intro hP.1 (And.intro (qm_FO hP.2.1) (s_Row_get (d := d + 0) hP.2  (And.intro True.intro (s_cell2 (d := d + 0)   (Exists.intro (p + 1) (And.intro hP.1 (And.intro (qm_FO hP.2.1) (s_Row_set (d := d + 0) hP.2  (Exists.intro (p + 1) (And.intro hP.1 (And.intro (qm_FO hP.2.1) (s_Row_set (d := d + 0) hP.2  (h.2)))))))))))))))))))
theorem s_Pair_part {L : qm_L} {p : Nat} {d : Nat} {K : qm_K} {M : qm_M} {s : Int} {a : Int} (hP : qPr L p) (hp0 : 0 ≤ s ∧ s ≤ 1) (hK : K (.inl 0) L (sPart M p s a)) : qm_Runs qm_P (d + 2) 49 [(.inr (some p)), (.inl s), (.inl a)] L M K := by
  refine en_Pair_part hP ?_
  exact And.intro (by unfold qm_R; omega) hK
theorem en_Pair_tie {L : qm_L} {p : Nat} {d : Nat} {K : qm_K} {M : qm_M} {s : Int} {a : Int} {x : Int} (hP : qPr L p) (h :
    qm_R (1 - s) ∧
    K (.inl 0) L (sRow (sRow M (p + 2) 16 (cell2 s a) x) (p + 2) 16 (cell2 (1 - s) x) a)) : qm_Runs qm_P (d + 2) 51 [(.inr (some p)), (.inl s), (.inl a), (.inl x)] L M K :=
  And.intro (Nat.le_of_ble_eq_true rfl) (show qm_TT qi_51 (qm_Runs qm_P (d + 1)) K 0 [some (.inr (some p)), some (.inl s), some (.inl a), some (.inl x)] [] L M 0 0 from qm_wp_TT [] 20 (Exists.intro (p + 1) (And.intro hP.1 (And.intro True.intro (s_cell2 (d := d + 0)   (And.intro (qm_FO hP.2.1) (s_Row_set (d := d + 0) hP.2  (Exists.intro (p + 1) (And.intro hP.1 (And.intro h.1 (And.intro True.intro (s_cell2 (d := d + 0)   (And.intro (qm_FO hP.2.1) (s_Row_set (d := d + 0) hP.2  (h.2)))))))))))))))
theorem s_Pair_tie {L : qm_L} {p : Nat} {d : Nat} {K : qm_K} {M : qm_M} {s : Int} {a : Int} {x : Int} (hP : qPr L p) (hp0 : 0 ≤ s ∧ s ≤ 1) (hK : K (.inl 0) L (sTie M p s a x)) : qm_Runs qm_P (d + 2) 51 [(.inr (some p)), (.inl s), (.inl a), (.inl x)] L M K := by
  refine en_Pair_tie hP ?_
  exact And.intro (by unfold qm_R; omega) hK
theorem en_Pair_join {L : qm_L} {p : Nat} {d : Nat} {K : qm_K} {M : qm_M} {s : Int} {a : Int} {x : Int} (hP : qPr L p) (h :
    (0 ≤ s ∧ s ≤ 1) ∧
    qm_R (1 - s) ∧
    (0 ≤ (1 - s) ∧ (1 - s) ≤ 1) ∧
    (0 ≤ s ∧ s ≤ 1) ∧
    K (.inl 0) L (sTie (sPart (sPart M p s a) p (1 - s) x) p s a x)) : qm_Runs qm_P (d + 3) 50 [(.inr (some p)), (.inl s), (.inl a), (.inl x)] L M K :=
  And.intro (Nat.le_of_ble_eq_true rfl) (show qm_TT qi_50 (qm_Runs qm_P (d + 2)) K 0 [some (.inr (some p)), some (.inl s), some (.inl a), some (.inl x)] [] L M 0 0 from qm_wp_TT [] 19 (And.intro (qm_FO hP.1) (s_Pair_part (d := d + 0) hP (h.1) (And.intro h.2.1 (And.intro (qm_FO hP.1) (s_Pair_part (d := d + 0) hP (h.2.2.1) (And.intro (qm_FO hP.1) (s_Pair_tie (d := d + 0) hP (h.2.2.2.1) (h.2.2.2.2)))))))))
theorem s_Pair_join {L : qm_L} {p : Nat} {d : Nat} {K : qm_K} {M : qm_M} {s : Int} {a : Int} {x : Int} (hP : qPr L p) (hp0 : 0 ≤ s ∧ s ≤ 1) (hK : K (.inl 0) L (sJoin M p s a x)) : qm_Runs qm_P (d + 3) 50 [(.inr (some p)), (.inl s), (.inl a), (.inl x)] L M K := by
  refine en_Pair_join hP ?_
  exact And.intro hp0 (And.intro (by unfold qm_R; omega) (And.intro (by omega) (And.intro hp0 hK)))
theorem en_Lists_each {L : qm_L} {o : Nat} {d : Nat} {K : qm_K} {M : qm_M}  (hL : qLs L o) (h :
    K (.inl ((M o 2))) L M) : qm_Runs qm_P (d + 1) 20 [(.inr (some o))] L M K :=
  And.intro (Nat.le_of_ble_eq_true rfl) (show qm_TT qi_20 (qm_Runs qm_P (d + 0)) K 0 [some (.inr (some o))] [] L M 0 0 from qm_wp_TT [] 6 (And.intro hL.2.2.1 (h)))
theorem s_Lists_each {L : qm_L} {o : Nat} {d : Nat} {K : qm_K} {M : qm_M}  (hL : qLs L o)  (hK : K (.inl (M o 2)) L M) : qm_Runs qm_P (d + 1) 20 [(.inr (some o))] L M K :=
  en_Lists_each hL hK
theorem en_Lists_who {L : qm_L} {o : Nat} {d : Nat} {K : qm_K} {M : qm_M} {s : Int} {a : Int} {k : Int} (hL : qLs L o) (h :
    K (.inl ((gRow M (o + 2) 128 (cell3 s a k)))) L M) : qm_Runs qm_P (d + 2) 23 [(.inr (some o)), (.inl s), (.inl a), (.inl k)] L M K :=
  And.intro (Nat.le_of_ble_eq_true rfl) (show qm_TT qi_23 (qm_Runs qm_P (d + 1)) K 0 [some (.inr (some o)), some (.inl s), some (.inl a), some (.inl k)] [] L M 0 0 from qm_wp_TT [] 11 (Exists.intro (o + 1) (And.intro hL.1 (And.intro True.intro (s_cell3 (d := d + 0)   (And.intro (qm_FO hL.2.2.2.1.1) (s_Row_get (d := d + 0) hL.2.2.2.1  (h))))))))
theorem s_Lists_who {L : qm_L} {o : Nat} {d : Nat} {K : qm_K} {M : qm_M} {s : Int} {a : Int} {k : Int} (hL : qLs L o)  (hK : K (.inl (gWho M o s a k)) L M) : qm_Runs qm_P (d + 2) 23 [(.inr (some o)), (.inl s), (.inl a), (.inl k)] L M K :=
  en_Lists_who hL hK
theorem en_Lists_place {L : qm_L} {o : Nat} {d : Nat} {K : qm_K} {M : qm_M} {s : Int} {a : Int} {k : Int} (hL : qLs L o) (h :
    K (.inl ((gRow M (o + 4) 128 (cell3 s a k)))) L M) : qm_Runs qm_P (d + 2) 24 [(.inr (some o)), (.inl s), (.inl a), (.inl k)] L M K :=
  And.intro (Nat.le_of_ble_eq_true rfl) (show qm_TT qi_24 (qm_Runs qm_P (d + 1)) K 0 [some (.inr (some o)), some (.inl s), some (.inl a), some (.inl k)] [] L M 0 0 from qm_wp_TT [] 11 (Exists.intro (o + 3) (And.intro hL.2.1 (And.intro True.intro (s_cell3 (d := d + 0)   (And.intro (qm_FO hL.2.2.2.2.1) (s_Row_get (d := d + 0) hL.2.2.2.2  (h))))))))
theorem s_Lists_place {L : qm_L} {o : Nat} {d : Nat} {K : qm_K} {M : qm_M} {s : Int} {a : Int} {k : Int} (hL : qLs L o)  (hK : K (.inl (gPl M o s a k)) L M) : qm_Runs qm_P (d + 2) 24 [(.inr (some o)), (.inl s), (.inl a), (.inl k)] L M K :=
  en_Lists_place hL hK
theorem en_Lists_wouldRather {L : qm_L} {o : Nat} {d : Nat} {K : qm_K} {M : qm_M} {s : Int} {a : Int} {w : Int} {c : Int} (hL : qLs L o) (h :
    (c = (-1) →
     K (.inl 1) L M) ∧
    (¬ c = (-1) →
     ((gPl M o s a c) ≤ (gPl M o s a w) →
      K (.inl 0) L M) ∧
     (¬ (gPl M o s a c) ≤ (gPl M o s a w) →
      K (.inl 1) L M))) : qm_Runs qm_P (d + 3) 25 [(.inr (some o)), (.inl s), (.inl a), (.inl w), (.inl c)] L M K :=
  And.intro (Nat.le_of_ble_eq_true rfl) (show qm_TT qi_25 (qm_Runs qm_P (d + 2)) K 0 [some (.inr (some o)), some (.inl s), some (.inl a), some (.inl w), some (.inl c)] [] L M 0 0 from qm_wp_TT [] 20 (And.intro (fun q1 => And.intro (Or.inr rfl) (h.1 q1)) (fun q2 => And.intro (qm_FO hL.1) (s_Lists_place (d := d + 0) hL  (And.intro (qm_FO hL.1) (s_Lists_place (d := d + 0) hL  (And.intro (fun q3 => And.intro (Or.inl rfl) ((h.2 q2).1 q3)) (fun q4 => And.intro (Or.inr rfl) ((h.2 q2).2 q4)))))))))
theorem s_Lists_wouldRather {L : qm_L} {o : Nat} {d : Nat} {K : qm_K} {M : qm_M} {s : Int} {a : Int} {w : Int} {c : Int} (hL : qLs L o)  (hK : K (.inl (qm_b (c = -1 ∨ gPl M o s a w < gPl M o s a c))) L M) : qm_Runs qm_P (d + 3) 25 [(.inr (some o)), (.inl s), (.inl a), (.inl w), (.inl c)] L M K := by
  refine en_Lists_wouldRather hL ?_
  repeat' first | (intro _) | (refine And.intro ?_ ?_)
  all_goals first | omega | exact qk_eq hK (qm_bt (by omega)) | exact qk_eq hK (qm_bff (by omega))
theorem en_Lists_put {L : qm_L} {o : Nat} {d : Nat} {K : qm_K} {M : qm_M} {s : Int} {a : Int} {k : Int} {x : Int} (hL : qLs L o) (h :
    K (.inl 0) L (sRow (sRow M (o + 2) 128 (cell3 s a k) x) (o + 4) 128 (cell3 s a x) k)) : qm_Runs qm_P (d + 2) 26 [(.inr (some o)), (.inl s), (.inl a), (.inl k), (.inl x)] L M K :=
  And.intro (Nat.le_of_ble_eq_true rfl) (show qm_TT qi_26 (qm_Runs qm_P (d + 1)) K 0 [some (.inr (some o)), some (.inl s), some (.inl a), some (.inl k), some (.inl x)] [] L M 0 0 from qm_wp_TT [] 20 (Exists.intro (o + 1) (And.intro hL.1 (And.intro True.intro (s_cell3 (d := d + 0)   (And.intro (qm_FO hL.2.2.2.1.1) (s_Row_set (d := d + 0) hL.2.2.2.1  (Exists.intro (o + 3) (And.intro hL.2.1 (And.intro True.intro (s_cell3 (d := d + 0)   (And.intro (qm_FO hL.2.2.2.2.1) (s_Row_set (d := d + 0) hL.2.2.2.2  (h))))))))))))))
theorem s_Lists_put {L : qm_L} {o : Nat} {d : Nat} {K : qm_K} {M : qm_M} {s : Int} {a : Int} {k : Int} {x : Int} (hL : qLs L o)  (hK : K (.inl 0) L (sPut M o s a k x)) : qm_Runs qm_P (d + 2) 26 [(.inr (some o)), (.inl s), (.inl a), (.inl k), (.inl x)] L M K :=
  en_Lists_put hL hK
theorem en_Lists_exchange {L : qm_L} {o : Nat} {d : Nat} {K : qm_K} {M : qm_M} {s : Int} {a : Int} {k : Int} (hL : qLs L o) (h :
    qm_R (k + 1) ∧
    qm_R (k + 1) ∧
    K (.inl 0) L (sPut (sPut M o s a k (gWho M o s a (k + 1))) o s a (k + 1) (gWho M o s a k))) : qm_Runs qm_P (d + 3) 27 [(.inr (some o)), (.inl s), (.inl a), (.inl k)] L M K :=
  And.intro (Nat.le_of_ble_eq_true rfl) (show qm_TT qi_27 (qm_Runs qm_P (d + 2)) K 0 [some (.inr (some o)), some (.inl s), some (.inl a), some (.inl k), none, none] [] L M 0 0 from qm_wp_TT [] 32 (And.intro (qm_FO hL.1) (s_Lists_who (d := d + 0) hL  (And.intro h.1 (And.intro (qm_FO hL.1) (s_Lists_who (d := d + 0) hL  (And.intro (qm_FO hL.1) (s_Lists_put (d := d + 0) hL  (And.intro h.2.1 (And.intro (qm_FO hL.1) (s_Lists_put (d := d + 0) hL  (h.2.2))))))))))))
theorem s_Lists_exchange {L : qm_L} {o : Nat} {d : Nat} {K : qm_K} {M : qm_M} {s : Int} {a : Int} {k : Int} (hL : qLs L o) (hp0 : 0 ≤ k ∧ k ≤ 100) (hK : K (.inl 0) L (sPut (sPut M o s a k (gWho M o s a (k + 1))) o s a (k + 1) (gWho M o s a k))) : qm_Runs qm_P (d + 3) 27 [(.inr (some o)), (.inl s), (.inl a), (.inl k)] L M K := by
  refine en_Lists_exchange hL ?_
  exact And.intro (by unfold qm_R; omega) (And.intro (by unfold qm_R; omega) hK)
