def at_Lists_orders_7 (L : qm_L) (o : Nat) (d : Nat) (K : qm_K) (M : qm_M) (x1 x2 : Int) : Prop := ∀ (d0 : Option qm_V), qm_TT qi_28 (qm_Runs qm_P (d + 0)) K 7 [d0, some (.inl x1), some (.inl x2)] [] L M 0 0
theorem rg_Lists_orders_7 {L : qm_L} {o : Nat}  {d : Nat} {K : qm_K} {M : qm_M} {x1 x2 : Int} (hL : qLs L o) (h :
    (x2 ≤ 1 →
     K (.inl x1) L M) ∧
    (¬ x2 ≤ 1 →
     qm_R (x1 * x2) ∧
     qm_R (x2 + (-1)) ∧
     at_Lists_orders_7 L o d K M ((x1 * x2)) ((x2 + (-1))))) : at_Lists_orders_7 L o d K M x1 x2 :=
  fun d0 => qm_wp_TT [7] 13 (And.intro (fun q1 => (h.1 q1)) (fun q2 => And.intro (h.2 q2).1 (And.intro (h.2 q2).2.1 ((h.2 q2).2.2 _))))
theorem en_Lists_orders {L : qm_L} {o : Nat}  {d : Nat} {K : qm_K} {M : qm_M}  (hL : qLs L o) (h :
    at_Lists_orders_7 L o d K M 1 ((M o 2))) : qm_Runs qm_P (d + 1) 28 [(.inr (some o))] L M K :=
  And.intro (Nat.le_of_ble_eq_true rfl) (show qm_TT qi_28 (qm_Runs qm_P (d + 0)) K 0 [some (.inr (some o)), none, none] [] L M 0 0 from qm_wp_TT [7] 13 (And.intro hL.2.2.1 (h _)))
theorem lp_Lists_orders {L : qm_L} {o d n : Nat} {K : qm_K} {M : qm_M} (hL : qLs L o) (h8 : n ≤ 8) (hK : K (.inl (fct n : Int)) L M) : ∀ (f x : Nat), f < n → x * fct (f + 1) = fct n → at_Lists_orders_7 L o d K M (x : Int) ((f : Int) + 1)
  | 0, x, hf, hx => fun d0 => by
    refine rg_Lists_orders_7 hL (And.intro (fun _ => ?_) (fun z => absurd (by omega) z)) d0
    have : x = fct n := by rw [← hx]; show x = x * 1; omega
    rw [this]
    exact hK
  | f + 1, x, hf, hx => fun d0 => by
    have hx2 : (x * (f + 1 + 1)) * fct (f + 1) = fct n := by
      rw [← hx, Nat.mul_assoc]
      rfl
    have hle : x * (f + 1 + 1) ≤ fct n := by
      rw [← hx2]
      exact Nat.le_mul_of_pos_right _ (fct_pos _)
    have h40 : fct n ≤ 40320 := by
      have : n = 0 ∨ n = 1 ∨ n = 2 ∨ n = 3 ∨ n = 4 ∨ n = 5 ∨ n = 6 ∨ n = 7 ∨ n = 8 := by omega
      rcases this with q | q | q | q | q | q | q | q | q <;> subst q <;> decide
    have e : (x : Int) * (((f + 1 : Nat) : Int) + 1) = ((x * (f + 1 + 1) : Nat) : Int) := by
      rw [Int.natCast_mul]
      congr 1
    refine rg_Lists_orders_7 hL (And.intro (fun z => absurd z (by omega)) (fun _ => ?_)) d0
    rw [e]
    refine And.intro (by unfold qm_R; omega) (And.intro (by unfold qm_R; omega) ?_)
    have := lp_Lists_orders (d := d) hL h8 hK f (x * (f + 1 + 1)) (by omega) hx2
    rw [show ((f + 1 : Nat) : Int) + 1 + -1 = (f : Int) + 1 by omega]
    exact this
theorem s_Lists_orders {L : qm_L} {o : Nat} {n : Nat} {d : Nat} {K : qm_K} {M : qm_M}  (hL : qLs L o) (hp0 : M o 2 = (n : Int) ∧ 1 ≤ n ∧ n ≤ 8) (hK : ∀ (r : Int), (r = (fct n : Int)) → K (.inl r) L M) : qm_Runs qm_P (d + 1) 28 [(.inr (some o))] L M K := by
  obtain ⟨h0, h1, h8⟩ := hp0
  have := lp_Lists_orders (d := d) hL h8 (hK _ rfl) (n - 1) 1 (by omega) (by rw [Nat.one_mul, show n - 1 + 1 = n by omega])
  rw [show ((n - 1 : Nat) : Int) + 1 = (n : Int) by omega, ← h0] at this
  exact en_Lists_orders hL this
def at_Lists_unused_5 (L : qm_L) (o : Nat) (d : Nat) (K : qm_K) (M : qm_M) (x1 x2 x3 x4 : Int) : Prop := qm_TT qi_30 (qm_Runs qm_P (d + 0)) K 5 [some (.inr (some o)), some (.inl x1), some (.inl x2), some (.inl x3), some (.inl x4)] [] L M 0 0
theorem rg_Lists_unused_5 {L : qm_L} {o : Nat}  {d : Nat} {K : qm_K} {M : qm_M} {x1 x2 x3 x4 : Int} (hL : qLs L o) (h :
    ((M o 2) ≤ x4 →
     K (.inl 0) L M) ∧
    (¬ (M o 2) ≤ x4 →
     ((qm_and (qm_shr x1 x4) 1) ≠ 0 →
      qm_R (x4 + 1) ∧
      at_Lists_unused_5 L o d K M x1 x2 x3 ((x4 + 1))) ∧
     (¬ (qm_and (qm_shr x1 x4) 1) ≠ 0 →
      (x3 ≠ x2 →
       qm_R (x3 + 1) ∧
       qm_R (x4 + 1) ∧
       at_Lists_unused_5 L o d K M x1 x2 ((x3 + 1)) ((x4 + 1))) ∧
      (¬ x3 ≠ x2 →
       K (.inl x4) L M)))) : at_Lists_unused_5 L o d K M x1 x2 x3 x4 :=
  qm_wp_TT [5] 20 (And.intro hL.2.2.1 (And.intro (fun q1 => (h.1 q1)) (fun q2 => And.intro (fun q3 => And.intro ((h.2 q2).1 q3).1 (((h.2 q2).1 q3).2)) (fun q4 => And.intro (fun q5 => And.intro (((h.2 q2).2 q4).1 q5).1 (And.intro (((h.2 q2).2 q4).1 q5).2.1 ((((h.2 q2).2 q4).1 q5).2.2))) (fun q6 => (((h.2 q2).2 q4).2 q6))))))
theorem en_Lists_unused {L : qm_L} {o : Nat}  {d : Nat} {K : qm_K} {M : qm_M} {u : Int} {j : Int} (hL : qLs L o) (h :
    at_Lists_unused_5 L o d K M u j 0 0) : qm_Runs qm_P (d + 1) 30 [(.inr (some o)), (.inl u), (.inl j)] L M K :=
  And.intro (Nat.le_of_ble_eq_true rfl) (show qm_TT qi_30 (qm_Runs qm_P (d + 0)) K 0 [some (.inr (some o)), some (.inl u), some (.inl j), none, none] [] L M 0 0 from qm_wp_TT [5] 20 (h))
theorem lp_Lists_unused {L : qm_L} {o d n z dd : Nat} {K : qm_K} {M : qm_M} (hL : qLs L o) (h0 : M o 2 = (n : Int)) (h8 : n ≤ 8) (hz : z < 256) (hd : dd < cnt (fun x => ¬ bS z x) n) (hK : K (.inl (nthP (fun x => ¬ bS z x) n dd : Int)) L M) : ∀ (j x : Nat), x + j = n → cnt (fun x => ¬ bS z x) x ≤ dd → at_Lists_unused_5 L o d K M (z : Int) (dd : Int) (cnt (fun x => ¬ bS z x) x : Int) (x : Int)
  | 0, x, hx, hc => by
    have : x = n := by omega
    subst this
    omega
  | j + 1, x, hx, hc => by
    have hcn := cnt_le (fun x => ¬ bS z x) n
    have hbit : (qm_and (qm_shr (z : Int) (x : Int)) 1 ≠ 0) ↔ bS z x := by
      rw [qb_bit (by omega) (by omega)]
      unfold bS
      split
      · rename_i q; exact ⟨fun _ => q, fun _ => by decide⟩
      · rename_i q; exact ⟨fun e => absurd rfl e, fun e => absurd e q⟩
    refine rg_Lists_unused_5 hL (And.intro (fun e => absurd e (by rw [h0]; omega)) (fun _ => And.intro (fun h => And.intro (by unfold qm_R; omega) ?_) (fun h => And.intro (fun h2 => And.intro (by unfold qm_R; omega) (And.intro (by unfold qm_R; omega) ?_)) (fun h2 => ?_))))
    · have ih := lp_Lists_unused (d := d) hL h0 h8 hz hd hK j (x + 1) (by omega)
      rw [cnt_f (P := fun x => ¬ bS z x) (fun e => e (hbit.mp h))] at ih
      exact ih hc
    · have ih := lp_Lists_unused (d := d) hL h0 h8 hz hd hK j (x + 1) (by omega)
      rw [cnt_t (P := fun x => ¬ bS z x) (fun e => h (hbit.mpr e))] at ih
      exact ih (by omega)
    · have e : cnt (fun x => ¬ bS z x) x = dd := by omega
      have := nthP_at (U := fun x => ¬ bS z x) (N := n) (m := x) (by omega) (fun e => h (hbit.mpr e))
      rw [e] at this
      rw [this] at hK
      exact hK
theorem s_Lists_unused {L : qm_L} {o : Nat} {n z dd : Nat} {d : Nat} {K : qm_K} {M : qm_M} {u : Int} {j : Int} (hL : qLs L o) (hp0 : M o 2 = (n : Int) ∧ n ≤ 8) (hp1 : (u : Int) = (z : Int) ∧ z < 256) (hp2 : (j : Int) = (dd : Int) ∧ dd < cnt (fun x => ¬ bS z x) n) (hK : ∀ (r : Int), (r = (nthP (fun x => ¬ bS z x) n dd : Int)) → K (.inl r) L M) : qm_Runs qm_P (d + 1) 30 [(.inr (some o)), (.inl u), (.inl j)] L M K := by
  obtain ⟨h0, h8⟩ := hp0
  rw [hp1.1, hp2.1]
  exact en_Lists_unused hL (lp_Lists_unused (d := d) hL h0 h8 hp1.2 hp2.2 (hK _ rfl) n 0 (by omega) (Nat.zero_le _))
def at_Lists_arrange_12 (L : qm_L) (o : Nat) (d : Nat) (K : qm_K) (M : qm_M) (x1 x2 x4 x5 x6 : Int) : Prop := ∀ (d3 d7 : Option qm_V), qm_TT qi_29 (qm_Runs qm_P (d + 2)) K 12 [some (.inr (some o)), some (.inl x1), some (.inl x2), d3, some (.inl x4), some (.inl x5), some (.inl x6), d7] [] L M 0 0
theorem rg_Lists_arrange_12 {L : qm_L} {o : Nat} {n z dd : Nat} {d : Nat} {K : qm_K} {M : qm_M} {x1 x2 x4 x5 x6 : Int} (hL : qLs L o) (h :
    (x6 ≤ 0 →
     K (.inl 0) L M) ∧
    (¬ x6 ≤ 0 →
     (0 : Int) < x6 ∧
     (M o 2 = (n : Int) ∧ n ≤ 8) ∧
     ((x4 : Int) = (z : Int) ∧ z < 256) ∧
     (((Int.tmod x5 x6) : Int) = (dd : Int) ∧ dd < cnt (fun x => ¬ bS z x) n) ∧
     (∀ (r1 : Int), (r1 = (nthP (fun x => ¬ bS z x) n dd : Int)) →
      (0 : Int) < x6 ∧
      qm_R ((M o 2) - x6) ∧
      ∀ (M3 : qm_M), M3 = (sPut M o x1 x2 ((M o 2) - x6) r1) →
      qm_R (x6 + (-1)) ∧
      at_Lists_arrange_12 L o d K M3 x1 x2 ((qm_or x4 (qm_shl 1 r1))) ((Int.tdiv x5 x6)) ((x6 + (-1)))))) : at_Lists_arrange_12 L o d K M x1 x2 x4 x5 x6 :=
  fun d3 d7 => qm_wp_TT [12] 34 (And.intro (fun q4 => (h.1 q4)) (fun q5 => And.intro (h.2 q5).1 (And.intro (qm_FO hL.1) (s_Lists_unused (d := d + 1) hL ((h.2 q5).2.1) ((h.2 q5).2.2.1) ((h.2 q5).2.2.2.1) (fun r1 p6 => And.intro ((h.2 q5).2.2.2.2 r1 p6).1 (And.intro hL.2.2.1 (And.intro ((h.2 q5).2.2.2.2 r1 p6).2.1 (And.intro (qm_FO hL.1) (s_Lists_put (d := d + 0) hL  (And.intro (((h.2 q5).2.2.2.2 r1 p6).2.2 _ rfl).1 ((((h.2 q5).2.2.2.2 r1 p6).2.2 _ rfl).2 _ _)))))))))))
theorem en_Lists_arrange {L : qm_L} {o : Nat} {n z dd : Nat} {d : Nat} {K : qm_K} {M : qm_M} {s : Int} {a : Int} {e : Int} (hL : qLs L o) (h :
    at_Lists_arrange_12 L o d K M s a 0 e ((M o 2))) : qm_Runs qm_P (d + 3) 29 [(.inr (some o)), (.inl s), (.inl a), (.inl e)] L M K :=
  And.intro (Nat.le_of_ble_eq_true rfl) (show qm_TT qi_29 (qm_Runs qm_P (d + 2)) K 0 [some (.inr (some o)), some (.inl s), some (.inl a), some (.inl e), none, none, none, none] [] L M 0 0 from qm_wp_TT [12] 34 (And.intro hL.2.2.1 (h _ _)))
theorem lp_Lists_arrange {L : qm_L} {o d n ar : Nat} {W : Nat → Nat} {K : qm_K} {M0 : qm_M} (hL : qLs L o) (h0 : M0 o 2 = (n : Int)) (h8 : n ≤ 8) (har : ar < n) (hK : ∀ M2 : qm_M, ((∀ k, k < n → M2 (o + 2) (ix 1 ar k) = (W (ix 1 ar k) : Int)) ∧ (∀ k, k < n → M2 (o + 4) (ix 1 ar (W (ix 1 ar k))) = (k : Int)) ∧ (∀ y, y / 8 ≠ 8 + ar → M2 (o + 2) y = M0 (o + 2) y ∧ M2 (o + 4) y = M0 (o + 4) y) ∧ ∀ c, c ≠ o + 2 → c ≠ o + 4 → M2 c = M0 c) → K (.inl 0) L M2) : ∀ (m k q : Nat) (w : Nat → Nat) (M : qm_M), k + m = n → prq n ar k w → arL n ar m k q w = W → (∀ j, j < k → M (o + 2) (ix 1 ar j) = (w (ix 1 ar j) : Int)) → (∀ j, j < k → M (o + 4) (ix 1 ar (w (ix 1 ar j))) = (j : Int)) → (∀ y, y / 8 ≠ 8 + ar → M (o + 2) y = M0 (o + 2) y ∧ M (o + 4) y = M0 (o + 4) y) → (∀ c, c ≠ o + 2 → c ≠ o + 4 → M c = M0 c) → at_Lists_arrange_12 L o d K M 1 (ar : Int) (bits (fun x => ∃ j, j < k ∧ w (ix 1 ar j) = x) 8 : Int) (q : Int) (m : Int)
  | 0, k, q, w, M, hk, hp, hW, g1, g2, g3, g4 => fun d3 d7 => by
    have hk : k = n := by omega
    subst hk
    have hW : w = W := hW
    subst hW
    exact rg_Lists_arrange_12 (n := 0) (z := 0) (dd := 0) hL (And.intro (fun _ => hK M ⟨g1, g2, g3, g4⟩) (fun z => absurd (by omega) z)) d3 d7
  | m + 1, k, q, w, M, hk, hp, hW, g1, g2, g3, g4 => fun d3 d7 => by
    have hn := prq_nth (q := q) hp hk
    have hc := unq_cnt hp
    have e0 : M o 2 = (n : Int) := by rw [g4 o (by omega) (by omega)]; exact h0
    have hU : ∀ x, x < n → (¬ bS (bits (fun x => ∃ j, j < k ∧ w (ix 1 ar j) = x) 8) x ↔ unq ar k w x) := fun x hx => by
      unfold bS
      rw [bits_test]
      exact ⟨fun h j hj e => h ⟨by omega, j, hj, e⟩, fun h ⟨_, j, hj, e⟩ => h j hj e⟩
    have hq : q % (m + 1) < m + 1 := Nat.mod_lt _ (Nat.succ_pos m)
    have et : Int.tmod (q : Int) ((m + 1 : Nat) : Int) = ((q % (m + 1) : Nat) : Int) := rfl
    have ed : Int.tdiv (q : Int) ((m + 1 : Nat) : Int) = ((q / (m + 1) : Nat) : Int) := rfl
    refine rg_Lists_arrange_12 (n := n) (z := bits (fun x => ∃ j, j < k ∧ w (ix 1 ar j) = x) 8) (dd := q % (m + 1)) hL (And.intro (fun z => absurd z (by omega)) (fun _ => And.intro (by omega) (And.intro ⟨e0, h8⟩ (And.intro ⟨rfl, bits_lt _ 8⟩ (And.intro ⟨et, by rw [cnt_congr hU]; omega⟩ ?_))))) d3 d7
    intro r1 q1
    rw [nthP_congr hU] at q1
    generalize hx : nthP (unq ar k w) n (q % (m + 1)) = x at hn q1
    refine And.intro (by omega) ?_
    rw [e0]
    refine And.intro (by unfold qm_R; omega) ?_
    rw [show (n : Int) - ((m + 1 : Nat) : Int) = (k : Int) by omega, q1]
    intro M3 e3
    have e3 : M3 = sPut M o ((1 : Nat) : Int) (ar : Int) (k : Int) (x : Int) := e3
    rw [sPut_n (by decide) (by omega) (by omega) (by omega)] at e3
    refine And.intro (by unfold qm_R; omega) ?_
    rw [qb_shl1 _ (by omega), qb_or (bits_lt31 (by decide)) (pow_lt31 (by omega)), bits_or (by omega), ed]
    have ij : ∀ j, j < k → ix 1 ar j ≠ ix 1 ar k := fun j hj => by unfold ix; omega
    have ew : ∀ j, j < k → updF w (ix 1 ar k) x (ix 1 ar j) = w (ix 1 ar j) := fun j hj => uF_k (ij j hj)
    have := lp_Lists_arrange (d := d) hL h0 h8 har hK m (k + 1) (q / (m + 1)) (updF w (ix 1 ar k) x) M3 (by omega) (prq_up hp hn.1 hn.2) (by rw [← hW, ← hx]; rfl) (fun j hj => ?_) (fun j hj => ?_) (fun y hy => ?_) (fun c u1 u2 => by rw [e3, qu_cf u2, qu_cf u1]; exact g4 c u1 u2)
    · rw [show bits (fun u => (∃ j, j < k ∧ w (ix 1 ar j) = u) ∨ u = x) 8 = bits (fun u => ∃ j, j < k + 1 ∧ updF w (ix 1 ar k) x (ix 1 ar j) = u) 8 from bits_congr (fun u _ => ⟨fun z => z.elim (fun ⟨j, hj, e⟩ => ⟨j, by omega, by rw [ew j hj]; exact e⟩) (fun e => ⟨k, by omega, by rw [uF_s]; exact e.symm⟩), fun ⟨j, hj, e⟩ => by
        by_cases hjk : j = k
        · rw [hjk, uF_s] at e; exact Or.inr e.symm
        · rw [ew j (by omega)] at e; exact Or.inl ⟨j, by omega, e⟩⟩), show ((m + 1 : Nat) : Int) + -1 = (m : Int) by omega]
      exact this
    · rw [e3, qu_c (by omega)]
      by_cases hjk : j = k
      · rw [hjk, qu_s, uF_s]
      · rw [qu_k (ij j (by omega)), ew j (by omega)]
        exact g1 j (by omega)
    · rw [e3]
      by_cases hjk : j = k
      · rw [hjk, uF_s, qu_s]
      · rw [ew j (by omega), qu_k (fun z => hn.2 j (by omega) (ix_i8 (by omega) (by have := hp.1 j (by omega); omega) (by omega) (by omega) z).2.2), qu_c (by omega)]
        exact g2 j (by omega)
    · rw [e3, qu_c (by omega), qu_k (fun z => hy (by rw [z]; unfold ix; omega)), qu_k (fun z => hy (by rw [z]; unfold ix; omega)), qu_c (by omega)]
      exact g3 y hy
theorem s_Lists_arrange {L : qm_L} {o : Nat} {n ar q : Nat} {w : Nat → Nat} {d : Nat} {K : qm_K} {M : qm_M} {s : Int} {a : Int} {e : Int} (hL : qLs L o) (hp0 : M o 2 = (n : Int) ∧ 1 ≤ n ∧ n ≤ 8) (hp1 : (s : Int) = 1 ∧ (a : Int) = (ar : Int) ∧ ar < n) (hp2 : (e : Int) = (q : Int)) (hK : ∀ (M2 : qm_M), ((∀ k, k < n → M2 (o + 2) (ix 1 ar k) = (arL n ar n 0 q w (ix 1 ar k) : Int)) ∧ (∀ k, k < n → M2 (o + 4) (ix 1 ar (arL n ar n 0 q w (ix 1 ar k))) = (k : Int)) ∧ (∀ y, y / 8 ≠ 8 + ar → M2 (o + 2) y = M (o + 2) y ∧ M2 (o + 4) y = M (o + 4) y) ∧ ∀ c, c ≠ (o + 2) → c ≠ (o + 4) → M2 c = M c) → K (.inl 0) L M2) : qm_Runs qm_P (d + 3) 29 [(.inr (some o)), (.inl s), (.inl a), (.inl e)] L M K := by
  obtain ⟨h0, h1, h8⟩ := hp0
  obtain ⟨b1, b2, b3⟩ := hp1
  have := lp_Lists_arrange (d := d) (M0 := M) hL h0 h8 b3 hK n 0 q w M (by omega) ⟨fun j hj => absurd hj (Nat.not_lt_zero _), fun i j _ hj => absurd hj (Nat.not_lt_zero _)⟩ rfl (fun j hj => absurd hj (Nat.not_lt_zero _)) (fun j hj => absurd hj (Nat.not_lt_zero _)) (fun _ _ => ⟨rfl, rfl⟩) (fun _ _ _ => rfl)
  rw [show bits (fun x => ∃ j, j < 0 ∧ w (ix 1 ar j) = x) 8 = 0 from bits_0 (fun t _ q => by obtain ⟨i, hi, _⟩ := q; omega), ← b1, ← b2, ← h0, ← hp2] at this
  exact en_Lists_arrange (n := 0) (z := 0) (dd := 0) hL this
