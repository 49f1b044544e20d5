def at_R_begins_2  (d : Nat) (K : qm_K) (M : qm_M) (x1 : Int) : Prop := qm_TT qi_147 (qm_Runs qm_P (d + 1)) K 2 [some (.inr (some 71)), some (.inl x1)] [] (qL qLM) M 0 0
def at_R_begins_27  (d : Nat) (K : qm_K) (M : qm_M) (x1 : Int) : Prop := qm_TT qi_147 (qm_Runs qm_P (d + 1)) K 27 [some (.inr (some 71)), some (.inl x1)] [] (qL qLM) M 0 0
theorem rg_R_begins_2  {n : Nat} {w p : Nat → Nat} {d : Nat} {K : qm_K} {M : qm_M} {x1 : Int} (h :
    (128 ≤ x1 →
     at_R_begins_27  d K M 0) ∧
    (¬ 128 ≤ x1 →
     (0 : Int) < 8 ∧
     0 ≤ x1 ∧ x1 < 128 ∧
     ∀ (M1 : qm_M), M1 = (qm_u M 72 (Int.toNat x1) (Int.tmod x1 8)) →
     qm_R (x1 + 1) ∧
     at_R_begins_2  d K M1 ((x1 + 1)))) : at_R_begins_2  d K M x1 :=
  qm_wp_TT [2, 27] 16 (And.intro (fun q7 => (h.1 q7)) (fun q8 => Exists.intro 72 (And.intro (lf_71_2 ()) (And.intro (h.2 q8).1 (Exists.intro 128 (And.intro (la_72 ()) (And.intro (h.2 q8).2.1 (And.intro (h.2 q8).2.2.1 (And.intro ((h.2 q8).2.2.2 _ rfl).1 (((h.2 q8).2.2.2 _ rfl).2))))))))))
theorem rg_R_begins_27  {n : Nat} {w p : Nat → Nat} {d : Nat} {K : qm_K} {M : qm_M} {x1 : Int} (h :
    (8 ≤ x1 →
     ∀ (M2 : qm_M), M2 = (qm_u M 71 8 0) →
     ∀ (M3 : qm_M), M3 = (qm_u M2 71 9 0) →
     (M3 71 0 = (n : Int) ∧ qAt M3 72 n w ∧ qInv n w p) ∧
     (mB M3 72 128) ∧
     (∀ (M5 : qm_M), (qMR M5 n w p ∧ M5 71 35 = 0 ∧ ∀ c x, c ≠ 73 → c ≠ 71 ∨ x ≠ 35 → M5 c x = M3 c x) →
      K (.inl 0) (qL qLM) M5)) ∧
    (¬ 8 ≤ x1 →
     0 ≤ x1 ∧ x1 < 8 ∧
     ∀ (M6 : qm_M), M6 = (qm_u M 79 (Int.toNat x1) (-2)) →
     qm_R (x1 + 1) ∧
     at_R_begins_27  d K M6 ((x1 + 1)))) : at_R_begins_27  d K M x1 :=
  qm_wp_TT [2, 27] 16 (And.intro (fun q9 => And.intro (lf_71_8 ()) (And.intro (lf_71_9 ()) (And.intro (lo_71 ()) (s_R_places (d := d + 0)  ((((h.1 q9) _ rfl) _ rfl).1) ((((h.1 q9) _ rfl) _ rfl).2.1) (fun M5 p11 => ((((h.1 q9) _ rfl) _ rfl).2.2 M5 p11)))))) (fun q10 => Exists.intro 79 (And.intro (lf_71_11 ()) (Exists.intro 8 (And.intro (la_79 ()) (And.intro (h.2 q10).1 (And.intro (h.2 q10).2.1 (And.intro ((h.2 q10).2.2 _ rfl).1 (((h.2 q10).2.2 _ rfl).2)))))))))
theorem en_R_begins  {n : Nat} {w p : Nat → Nat} {d : Nat} {K : qm_K} {M : qm_M}  (h :
    at_R_begins_2  d K M 0) : qm_Runs qm_P (d + 2) 147 [(.inr (some 71))] (qL qLM) M K :=
  And.intro (Nat.le_of_ble_eq_true rfl) (show qm_TT qi_147 (qm_Runs qm_P (d + 1)) K 0 [some (.inr (some 71)), none] [] (qL qLM) M 0 0 from qm_wp_TT [2, 27] 16 (h))
theorem lp_R_begins2 {d : Nat} {K : qm_K} {M0 : qm_M} {n : Nat} (h0 : M0 71 0 = (n : Int)) (hn : 1 ≤ n ∧ n ≤ 8) (hl : ∀ x, x < 128 → M0 72 x = ((x % 8 : Nat) : Int)) (hK : ∀ M2 : qm_M, (qMR M2 n idw idw ∧ mB M2 72 128 ∧ (∀ a, a < 8 → M2 79 a = -2) ∧ M2 71 8 = 0 ∧ M2 71 9 = 0 ∧ M2 71 35 = 0 ∧ ∀ c x, c ≠ 72 → c ≠ 73 → c ≠ 79 → c ≠ 71 ∨ (x ≠ 8 ∧ x ≠ 9 ∧ x ≠ 35) → M2 c x = M0 c x) → K (.inl 0) (qL qLM) M2) : ∀ (j x : Nat) (M : qm_M), x + j = 8 → (∀ c, c ≠ 79 → M c = M0 c) → (∀ a, a < x → M 79 a = -2) → at_R_begins_27 d K M (x : Int)
  | 0, x, M, hx, hc, hS => by
    refine rg_R_begins_27 (n := n) (w := idw) (p := idw) (And.intro (fun _ => ?_) (fun z => absurd z (by omega)))
    intro M2 e2 M3 e3
    have c3 : ∀ c, c ≠ 71 → M3 c = M c := fun c h => by rw [e3, qu_cf h, e2, qu_cf h]
    have l3 : ∀ x, x < 128 → M3 72 x = ((x % 8 : Nat) : Int) := fun x h => by rw [c3 72 (by decide), hc 72 (by decide)]; exact hl x h
    refine And.intro ⟨?_, fun s a k hs ha hk => ?_, qInv_id hn⟩ (And.intro (fun x h => ?_) ?_)
    · rw [e3, qu_k (by decide), e2, qu_k (by decide), hc 71 (by decide)]; exact h0
    · rw [l3 _ (ix_lt hs (by omega) (by omega))]; rfl
    · rw [l3 x h]; omega
    · intro M5 h5
      refine hK M5 ⟨h5.1, fun x h => ?_, fun a ha => ?_, ?_, ?_, h5.2.1, fun c x q1 q2 q3 q4 => ?_⟩
      · rw [h5.2.2 72 x (by decide) (Or.inl (by decide)), l3 x h]; omega
      · rw [h5.2.2 79 a (by decide) (Or.inl (by decide)), c3 79 (by decide)]; exact hS a (by omega)
      · rw [h5.2.2 71 8 (by decide) (Or.inr (by decide)), e3, qu_k (by decide), e2, qu_s]
      · rw [h5.2.2 71 9 (by decide) (Or.inr (by decide)), e3, qu_s]
      · rw [h5.2.2 c x q2 (q4.imp id (fun h => h.2.2)), e3, e2]
        rcases q4 with q4 | q4
        · rw [qu_c q4, qu_c q4, hc c q3]
        · rw [qu_k q4.2.1, qu_k q4.1, hc c q3]
  | j + 1, x, M, hx, hc, hS => by
    refine rg_R_begins_27 (n := n) (w := idw) (p := idw) (And.intro (fun z => absurd z (by omega)) (fun _ => And.intro (by omega) (And.intro (by omega) ?_)))
    intro M6 e6
    rw [Int.toNat_natCast] at e6
    refine And.intro (by unfold qm_R; omega) (lp_R_begins2 h0 hn hl hK j (x + 1) M6 (by omega) (fun c h => by rw [e6, qu_cf h]; exact hc c h) (fun a ha => ?_))
    rw [e6]
    by_cases hax : a = x
    · rw [hax, qu_s]
    · rw [qu_k hax]; exact hS a (by omega)
theorem lp_R_begins1 {d : Nat} {K : qm_K} {M0 : qm_M} {n : Nat} (h0 : M0 71 0 = (n : Int)) (hn : 1 ≤ n ∧ n ≤ 8) (hK : ∀ M2 : qm_M, (qMR M2 n idw idw ∧ mB M2 72 128 ∧ (∀ a, a < 8 → M2 79 a = -2) ∧ M2 71 8 = 0 ∧ M2 71 9 = 0 ∧ M2 71 35 = 0 ∧ ∀ c x, c ≠ 72 → c ≠ 73 → c ≠ 79 → c ≠ 71 ∨ (x ≠ 8 ∧ x ≠ 9 ∧ x ≠ 35) → M2 c x = M0 c x) → K (.inl 0) (qL qLM) M2) : ∀ (j x : Nat) (M : qm_M), x + j = 128 → (∀ c, c ≠ 72 → M c = M0 c) → (∀ y, y < x → M 72 y = ((y % 8 : Nat) : Int)) → at_R_begins_2 d K M (x : Int)
  | 0, x, M, hx, hc, hS => by
    refine rg_R_begins_2 (n := n) (w := idw) (p := idw) (And.intro (fun _ => ?_) (fun z => absurd z (by omega)))
    exact lp_R_begins2 (M0 := M) (by rw [hc 71 (by decide)]; exact h0) hn (fun y hy => hS y (by omega)) (fun M2 h2 => hK M2 ⟨h2.1, h2.2.1, h2.2.2.1, h2.2.2.2.1, h2.2.2.2.2.1, h2.2.2.2.2.2.1, fun c x q1 q2 q3 q4 => by rw [h2.2.2.2.2.2.2 c x q1 q2 q3 q4, hc c q1]⟩) 8 0 M (by omega) (fun _ _ => rfl) (fun a ha => absurd ha (Nat.not_lt_zero _))
  | j + 1, x, M, hx, hc, hS => by
    refine rg_R_begins_2 (n := n) (w := idw) (p := idw) (And.intro (fun z => absurd z (by omega)) (fun _ => And.intro (by decide) (And.intro (by omega) (And.intro (by omega) ?_))))
    intro M1 e1
    rw [tm8, Int.toNat_natCast] at e1
    refine And.intro (by unfold qm_R; omega) (lp_R_begins1 h0 hn hK j (x + 1) M1 (by omega) (fun c h => by rw [e1, qu_cf h]; exact hc c h) (fun a ha => ?_))
    rw [e1]
    by_cases hax : a = x
    · rw [hax, qu_s]
    · rw [qu_k hax]; exact hS a (by omega)
theorem s_R_begins  {n : Nat} {d : Nat} {K : qm_K} {M : qm_M}  (hp0 : M 71 0 = (n : Int) ∧ 1 ≤ n ∧ n ≤ 8) (hK : ∀ (M2 : qm_M), (qMR M2 n idw idw ∧ mB M2 72 128 ∧ (∀ a, a < 8 → M2 79 a = -2) ∧ M2 71 8 = 0 ∧ M2 71 9 = 0 ∧ M2 71 35 = 0 ∧ ∀ c x, c ≠ 72 → c ≠ 73 → c ≠ 79 → c ≠ 71 ∨ (x ≠ 8 ∧ x ≠ 9 ∧ x ≠ 35) → M2 c x = M c x) → K (.inl 0) (qL qLM) M2) : qm_Runs qm_P (d + 2) 147 [(.inr (some 71))] (qL qLM) M K := by
  exact en_R_begins (n := n) (w := idw) (p := idw) (lp_R_begins1 hp0.1 hp0.2 hK 128 0 M (by omega) (fun _ _ => rfl) (fun a ha => absurd ha (Nat.not_lt_zero _)))
theorem en_R_placeOf   {d : Nat} {K : qm_K} {M : qm_M} {s : Int} {a : Int} {k : Int} (h :
    (0 ≤ (s : Int) ∧ (s : Int) ≤ 1 ∧ 0 ≤ (a : Int) ∧ (a : Int) ≤ 8 ∧ 0 ≤ (k : Int) ∧ (k : Int) ≤ 8) ∧
    0 ≤ (64 * s + 8 * a + k) ∧ (64 * s + 8 * a + k) < 128 ∧
    K (.inl ((M 73 (Int.toNat (64 * s + 8 * a + k))))) (qL qLM) M) : qm_Runs qm_P (d + 2) 149 [(.inr (some 71)), (.inl s), (.inl a), (.inl k)] (qL qLM) M K :=
  And.intro (Nat.le_of_ble_eq_true rfl) (show qm_TT qi_149 (qm_Runs qm_P (d + 1)) K 0 [some (.inr (some 71)), some (.inl s), some (.inl a), some (.inl k)] [] (qL qLM) M 0 0 from qm_wp_TT [] 11 (Exists.intro 73 (And.intro (lf_71_3 ()) (And.intro True.intro (s_R_at (d := d + 0)  (h.1) (Exists.intro 128 (And.intro (la_73 ()) (And.intro h.2.1 (And.intro h.2.2.1 (h.2.2.2))))))))))
theorem s_R_placeOf   {d : Nat} {K : qm_K} {M : qm_M} {s : Int} {a : Int} {k : Int} (hp0 : 0 ≤ (s : Int) ∧ (s : Int) ≤ 1 ∧ 0 ≤ (a : Int) ∧ (a : Int) ≤ 7 ∧ 0 ≤ (k : Int) ∧ (k : Int) ≤ 7) (hK : K (.inl ((M 73 (Int.toNat (64 * s + 8 * a + k))))) (qL qLM) M) : qm_Runs qm_P (d + 2) 149 [(.inr (some 71)), (.inl s), (.inl a), (.inl k)] (qL qLM) M K := by
  refine en_R_placeOf   ?_
  exact And.intro (by omega) (And.intro (by omega) (And.intro (by omega) hK))
theorem en_R_rather   {d : Nat} {K : qm_K} {M : qm_M} {s : Int} {a : Int} {x : Int} {y : Int} (h :
    (y < 0 →
     K (.inl 1) (qL qLM) M) ∧
    (¬ y < 0 →
     (0 ≤ (s : Int) ∧ (s : Int) ≤ 1 ∧ 0 ≤ (a : Int) ∧ (a : Int) ≤ 7 ∧ 0 ≤ (x : Int) ∧ (x : Int) ≤ 7) ∧
     (0 ≤ (s : Int) ∧ (s : Int) ≤ 1 ∧ 0 ≤ (a : Int) ∧ (a : Int) ≤ 7 ∧ 0 ≤ (y : Int) ∧ (y : Int) ≤ 7) ∧
     ((M 73 (Int.toNat (64 * s + 8 * a + y))) ≤ (M 73 (Int.toNat (64 * s + 8 * a + x))) →
      K (.inl 0) (qL qLM) M) ∧
     (¬ (M 73 (Int.toNat (64 * s + 8 * a + y))) ≤ (M 73 (Int.toNat (64 * s + 8 * a + x))) →
      K (.inl 1) (qL qLM) M))) : qm_Runs qm_P (d + 3) 150 [(.inr (some 71)), (.inl s), (.inl a), (.inl x), (.inl y)] (qL qLM) M K :=
  And.intro (Nat.le_of_ble_eq_true rfl) (show qm_TT qi_150 (qm_Runs qm_P (d + 2)) K 0 [some (.inr (some 71)), some (.inl s), some (.inl a), some (.inl x), some (.inl y)] [] (qL qLM) M 0 0 from qm_wp_TT [] 19 (And.intro (fun q1 => And.intro (Or.inr rfl) (h.1 q1)) (fun q2 => And.intro (lo_71 ()) (s_R_placeOf (d := d + 0)  ((h.2 q2).1) (And.intro (lo_71 ()) (s_R_placeOf (d := d + 0)  ((h.2 q2).2.1) (And.intro (fun q3 => And.intro (Or.inl rfl) ((h.2 q2).2.2.1 q3)) (fun q4 => And.intro (Or.inr rfl) ((h.2 q2).2.2.2 q4)))))))))
theorem s_R_rather   {d : Nat} {K : qm_K} {M : qm_M} {s : Int} {a : Int} {x : Int} {y : Int} (hp0 : 0 ≤ (s : Int) ∧ (s : Int) ≤ 1 ∧ 0 ≤ (a : Int) ∧ (a : Int) ≤ 7 ∧ 0 ≤ (x : Int) ∧ (x : Int) ≤ 7 ∧ (y : Int) ≤ 7) (hK : K (.inl (qm_b ((y : Int) < 0 ∨ M 73 (Int.toNat (64 * s + 8 * a + x)) < M 73 (Int.toNat (64 * s + 8 * a + y))))) (qL qLM) M) : qm_Runs qm_P (d + 3) 150 [(.inr (some 71)), (.inl s), (.inl a), (.inl x), (.inl y)] (qL qLM) M K := by
  refine en_R_rather   ?_
  refine And.intro (fun h => qk_eq hK (qm_bt (Or.inl h))) (fun h => And.intro (by omega) (And.intro (by omega) (And.intro (fun h2 => qk_eq hK (qm_bff (by omega))) (fun h2 => qk_eq hK (qm_bt (by omega))))))
theorem ix_nat {s a k : Nat} : Int.toNat (64 * (s : Int) + 8 * (a : Int) + (k : Int)) = ix s a k := by unfold ix; omega
theorem rPl {M : qm_M} {n s a k : Nat} {w p : Nat → Nat} (h : qMR M n w p) (hs : s < 2) (ha : a < n) (hk : k < n) : M 73 (Int.toNat (64 * (s : Int) + 8 * (a : Int) + (k : Int))) = (p (ix s a k) : Int) := by rw [ix_nat]; exact h.2.2.1 s a k hs ha hk
theorem rLi {M : qm_M} {n s a k : Nat} {w p : Nat → Nat} (h : qMR M n w p) (hs : s < 2) (ha : a < n) (hk : k < n) : M 72 (Int.toNat (64 * (s : Int) + 8 * (a : Int) + (k : Int))) = (w (ix s a k) : Int) := by rw [ix_nat]; exact h.2.1 s a k hs ha hk
theorem rRat {M : qm_M} {n s a x y : Nat} {w p : Nat → Nat} (h : qMR M n w p) (hs : s < 2) (ha : a < n) (hx : x < n) (hy : y = 9 ∨ y < n) : (mz y < 0 ∨ M 73 (Int.toNat (64 * (s : Int) + 8 * (a : Int) + (x : Int))) < M 73 (Int.toNat (64 * (s : Int) + 8 * (a : Int) + mz y))) ↔ (y = 9 ∨ p (ix s a x) < p (ix s a y)) := by
  have h8 := h.2.2.2.2.1
  rcases hy with rfl | hy
  · exact ⟨fun _ => Or.inl rfl, fun _ => Or.inl (by decide)⟩
  · rw [mz_n (by omega), rPl h hs ha hx, rPl h hs ha hy]
    omega
theorem qMR_mem {M M2 : qm_M} {n : Nat} {w p : Nat → Nat} (h : qMR M n w p) (e0 : M2 71 0 = M 71 0) (e1 : M2 72 = M 72) (e2 : M2 73 = M 73) : qMR M2 n w p := by
  unfold qMR qAt at *
  rw [e0, e1, e2]
  exact h
def qHa (M : qm_M) (c n : Nat) (u : Nat → Nat) : Prop := ∀ a, a < n → M c a = mz (u a)
theorem mz_le {x : Nat} (h : x = 9 ∨ x < 8) : mz x ≤ 7 ∧ -2 ≤ mz x := by
  rcases h with rfl | h
  · exact ⟨by decide, by decide⟩
  · rw [mz_n (by omega)]; omega
theorem mz_eq {x b : Nat} (hb : b ≠ 9) : mz x = (b : Int) ↔ x = b := by
  constructor
  · intro h
    unfold mz at h
    split at h <;> omega
  · intro h; rw [h, mz_n hb]
def sw2 (M : qm_M) (a i j : Nat) : qm_M := qm_u (qm_u M a i (M a j)) a j (M a i)
def at_R_leftOf_2 (a N : Nat) (d : Nat) (K : qm_K) (M : qm_M) (x2 x3 : Int) : Prop := ∀ (d0 : Option qm_V), qm_TT qi_169 (qm_Runs qm_P (d + 0)) K 2 [d0, some (.inr (some a)), some (.inl x2), some (.inl x3)] [] (qL qLM) M 0 0
theorem rg_R_leftOf_2 {a N : Nat}  {d : Nat} {K : qm_K} {M : qm_M} {x2 x3 : Int} (hA : qArr (qL qLM) a N) (h :
    0 ≤ x3 ∧ x3 < N ∧
    ((M a (Int.toNat x3)) = x2 →
     K (.inl x3) (qL qLM) M) ∧
    (¬ (M a (Int.toNat x3)) = x2 →
     qm_R (x3 + 1) ∧
     at_R_leftOf_2 a N d K M x2 ((x3 + 1)))) : at_R_leftOf_2 a N d K M x2 x3 :=
  fun d0 => qm_wp_TT [2] 11 (Exists.intro N (And.intro hA.1 (And.intro h.1 (And.intro h.2.1 (And.intro (fun q1 => (h.2.2.1 q1)) (fun q2 => And.intro (h.2.2.2 q2).1 ((h.2.2.2 q2).2 _)))))))
theorem en_R_leftOf {a N : Nat}  {d : Nat} {K : qm_K} {M : qm_M} {r : Int} (hA : qArr (qL qLM) a N) (h :
    at_R_leftOf_2 a N d K M r 0) : qm_Runs qm_P (d + 1) 169 [(.inr (some 71)), (.inr (some a)), (.inl r)] (qL qLM) M K :=
  And.intro (Nat.le_of_ble_eq_true rfl) (show qm_TT qi_169 (qm_Runs qm_P (d + 0)) K 0 [some (.inr (some 71)), some (.inr (some a)), some (.inl r), none] [] (qL qLM) M 0 0 from qm_wp_TT [2] 11 (h _))
theorem lp_R_leftOf {a N d : Nat} {K : qm_K} {M : qm_M} {n b : Nat} {u v : Nat → Nat} (hA : qArr (qL qLM) a N) (hu : qAr M a n u) (hm : qMt n u v) (hN : n ≤ N) (hb : b < n) (hK : K (.inl (v b : Int)) (qL qLM) M) : ∀ (j x : Nat), x + j = v b → at_R_leftOf_2 a N d K M (b : Int) (x : Int)
  | 0, x, hx => fun d0 => by
    have hv := hm.2 b hb
    have hx : x = v b := by omega
    subst hx
    refine rg_R_leftOf_2 hA (And.intro (by omega) (And.intro (by omega) (And.intro (fun _ => hK) (fun h => absurd ?_ h)))) d0
    rw [Int.toNat_natCast, hu _ hv.1, hv.2]
  | j + 1, x, hx => fun d0 => by
    have hv := hm.2 b hb
    have hN2 := hA.2
    refine rg_R_leftOf_2 hA (And.intro (by omega) (And.intro (by omega) (And.intro (fun h => ?_) (fun h => And.intro (by unfold qm_R; omega) (lp_R_leftOf hA hu hm hN hb hK j (x + 1) (by omega)))))) d0
    exfalso
    rw [Int.toNat_natCast, hu x (by omega)] at h
    have h1 : u x = b := by omega
    have := (hm.1 x (by omega)).2
    rw [h1] at this
    omega
theorem s_R_leftOf {a N : Nat} {n : Nat} {u v : Nat → Nat} {d : Nat} {K : qm_K} {M : qm_M} {r : Int} (hA : qArr (qL qLM) a N) (hp0 : qAr M a n u ∧ qMt n u v ∧ n ≤ (N : Nat)) (hp1 : 0 ≤ (r : Int) ∧ (r : Int) < (n : Int)) (hK : K (.inl ((v (Int.toNat r) : Int))) (qL qLM) M) : qm_Runs qm_P (d + 1) 169 [(.inr (some 71)), (.inr (some a)), (.inl r)] (qL qLM) M K := by
  obtain ⟨hu, hm, hN⟩ := hp0
  obtain ⟨b, rfl⟩ : ∃ b : Nat, r = (b : Int) := ⟨r.toNat, by omega⟩
  rw [Int.toNat_natCast] at hK
  have hb : b < n := by omega
  exact en_R_leftOf hA (lp_R_leftOf hA hu hm hN hb hK (v b) 0 (by omega))
def at_R_handLeft_2 (a N : Nat) (d : Nat) (K : qm_K) (M : qm_M) (x2 x3 : Int) : Prop := qm_TT qi_204 (qm_Runs qm_P (d + 0)) K 2 [some (.inr (some 71)), some (.inr (some a)), some (.inl x2), some (.inl x3)] [] (qL qLM) M 0 0
theorem rg_R_handLeft_2 {a N : Nat}  {d : Nat} {K : qm_K} {M : qm_M} {x2 x3 : Int} (hA : qArr (qL qLM) a N) (h :
    ((M 71 0) ≤ x3 →
     K (.inl ((-2))) (qL qLM) M) ∧
    (¬ (M 71 0) ≤ x3 →
     0 ≤ x3 ∧ x3 < N ∧
     ((M a (Int.toNat x3)) ≠ x2 →
      qm_R (x3 + 1) ∧
      at_R_handLeft_2 a N d K M x2 ((x3 + 1))) ∧
     (¬ (M a (Int.toNat x3)) ≠ x2 →
      K (.inl x3) (qL qLM) M))) : at_R_handLeft_2 a N d K M x2 x3 :=
  qm_wp_TT [2] 15 (And.intro (lf_71_0 ()) (And.intro (fun q1 => (h.1 q1)) (fun q2 => Exists.intro N (And.intro hA.1 (And.intro (h.2 q2).1 (And.intro (h.2 q2).2.1 (And.intro (fun q3 => And.intro ((h.2 q2).2.2.1 q3).1 (((h.2 q2).2.2.1 q3).2)) (fun q4 => ((h.2 q2).2.2.2 q4)))))))))
theorem en_R_handLeft {a N : Nat}  {d : Nat} {K : qm_K} {M : qm_M} {r : Int} (hA : qArr (qL qLM) a N) (h :
    at_R_handLeft_2 a N d K M r 0) : qm_Runs qm_P (d + 1) 204 [(.inr (some 71)), (.inr (some a)), (.inl r)] (qL qLM) M K :=
  And.intro (Nat.le_of_ble_eq_true rfl) (show qm_TT qi_204 (qm_Runs qm_P (d + 0)) K 0 [some (.inr (some 71)), some (.inr (some a)), some (.inl r), none] [] (qL qLM) M 0 0 from qm_wp_TT [2] 15 (h))
theorem lp_R_handLeft {a N d : Nat} {K : qm_K} {M : qm_M} {n b : Nat} {u v : Nat → Nat} (hA : qArr (qL qLM) a N) (h0 : M 71 0 = (n : Int)) (hu : qHa M a n u) (hm : qPm n u v) (h8 : n ≤ 8) (hN : n ≤ N) (hb : b < n) (hK : K (.inl (mz (v b))) (qL qLM) M) : ∀ (j x : Nat), x + j = n → (∀ y, y < x → u y ≠ b) → at_R_handLeft_2 a N d K M (b : Int) (x : Int)
  | 0, x, hx, hn => by
    refine rg_R_handLeft_2 hA (And.intro (fun _ => qk_eq hK ?_) (fun h => absurd h (by rw [h0]; omega)))
    rcases hm.2 b hb with h | h
    · rw [h]; rfl
    · exact absurd h.2 (hn _ (by omega))
  | j + 1, x, hx, hn => by
    refine rg_R_handLeft_2 hA (And.intro (fun h => absurd h (by rw [h0]; omega)) (fun _ => And.intro (by omega) (And.intro (by omega) ?_)))
    rw [Int.toNat_natCast, hu x (by omega)]
    refine And.intro (fun h => And.intro (by unfold qm_R; omega) (lp_R_handLeft hA h0 hu hm h8 hN hb hK j (x + 1) (by omega) (fun y hy z => ?_))) (fun h => qk_eq hK ?_)
    · by_cases hyx : y = x
      · subst hyx
        exact h ((mz_eq (by omega)).mpr z)
      · exact hn y (by omega) z
    · have h1 : u x = b := (mz_eq (by omega)).mp (Classical.not_not.mp h)
      rcases hm.1 x (by omega) with h2 | h2
      · omega
      · rw [h1] at h2
        rw [h2.2, mz_n (by omega)]
theorem s_R_handLeft {a N : Nat} {n : Nat} {u v : Nat → Nat} {d : Nat} {K : qm_K} {M : qm_M} {r : Int} (hA : qArr (qL qLM) a N) (hp0 : M 71 0 = (n : Int) ∧ qHa M a n u ∧ qPm n u v ∧ n ≤ 8 ∧ n ≤ (N : Nat)) (hp1 : 0 ≤ (r : Int) ∧ (r : Int) < (n : Int)) (hK : K (.inl ((mz (v (Int.toNat r))))) (qL qLM) M) : qm_Runs qm_P (d + 1) 204 [(.inr (some 71)), (.inr (some a)), (.inl r)] (qL qLM) M K := by
  obtain ⟨h0, hu, hm, h8, hN⟩ := hp0
  obtain ⟨b, rfl⟩ : ∃ b : Nat, r = (b : Int) := ⟨r.toNat, by omega⟩
  rw [Int.toNat_natCast] at hK
  have hb : b < n := by omega
  exact en_R_handLeft hA (lp_R_handLeft hA h0 hu hm h8 hN hb hK n 0 (by omega) (fun y hy => absurd hy (Nat.not_lt_zero _)))
theorem en_R_stirs {a N : Nat}  {d : Nat} {K : qm_K} {M : qm_M} {s : Int} {l : Int} {k : Int} (hA : qArr (qL qLM) a N) (h :
    (0 ≤ (s : Int) ∧ (s : Int) ≤ 1 ∧ 0 ≤ (l : Int) ∧ (l : Int) ≤ 8 ∧ 0 ≤ (k : Int) ∧ (k : Int) ≤ 8) ∧
    0 ≤ (64 * s + 8 * l + k) ∧ (64 * s + 8 * l + k) < N ∧
    qm_R ((64 * s + 8 * l + k) + 1) ∧
    0 ≤ ((64 * s + 8 * l + k) + 1) ∧ ((64 * s + 8 * l + k) + 1) < N ∧
    0 ≤ (64 * s + 8 * l + k) ∧ (64 * s + 8 * l + k) < N ∧
    qm_R ((64 * s + 8 * l + k) + 1) ∧
    0 ≤ ((64 * s + 8 * l + k) + 1) ∧ ((64 * s + 8 * l + k) + 1) < N ∧
    K (.inl 0) (qL qLM) (qm_u (qm_u M a (Int.toNat (64 * s + 8 * l + k)) (M a (Int.toNat ((64 * s + 8 * l + k) + 1)))) a (Int.toNat ((64 * s + 8 * l + k) + 1)) (M a (Int.toNat (64 * s + 8 * l + k))))) : qm_Runs qm_P (d + 2) 161 [(.inr (some 71)), (.inr (some a)), (.inl s), (.inl l), (.inl k)] (qL qLM) M K :=
  And.intro (Nat.le_of_ble_eq_true rfl) (show qm_TT qi_161 (qm_Runs qm_P (d + 1)) K 0 [some (.inr (some 71)), some (.inr (some a)), some (.inl s), some (.inl l), some (.inl k), none, none] [] (qL qLM) M 0 0 from qm_wp_TT [] 27 (And.intro True.intro (s_R_at (d := d + 0)  (h.1) (Exists.intro N (And.intro hA.1 (And.intro h.2.1 (And.intro h.2.2.1 (And.intro h.2.2.2.1 (Exists.intro N (And.intro hA.1 (And.intro h.2.2.2.2.1 (And.intro h.2.2.2.2.2.1 (Exists.intro N (And.intro hA.1 (And.intro h.2.2.2.2.2.2.1 (And.intro h.2.2.2.2.2.2.2.1 (And.intro h.2.2.2.2.2.2.2.2.1 (Exists.intro N (And.intro hA.1 (And.intro h.2.2.2.2.2.2.2.2.2.1 (And.intro h.2.2.2.2.2.2.2.2.2.2.1 (h.2.2.2.2.2.2.2.2.2.2.2))))))))))))))))))))))
theorem s_R_stirs {a N : Nat}  {d : Nat} {K : qm_K} {M : qm_M} {s : Int} {l : Int} {k : Int} (hA : qArr (qL qLM) a N) (hp0 : 0 ≤ (s : Int) ∧ (s : Int) ≤ 1 ∧ 0 ≤ (l : Int) ∧ (l : Int) ≤ 7 ∧ 0 ≤ (k : Int) ∧ (k : Int) ≤ 6 ∧ (N : Nat) = 128) (hK : K (.inl 0) (qL qLM) (sw2 M a (Int.toNat (64 * s + 8 * l + k)) (Int.toNat (64 * s + 8 * l + k + 1)))) : qm_Runs qm_P (d + 2) 161 [(.inr (some 71)), (.inr (some a)), (.inl s), (.inl l), (.inl k)] (qL qLM) M K := by
  refine en_R_stirs  hA ?_
  refine And.intro (by omega) (And.intro (by omega) (And.intro (by omega) (And.intro (by unfold qm_R; omega) (And.intro (by omega) (And.intro (by omega) (And.intro (by omega) (And.intro (by omega) (And.intro (by unfold qm_R; omega) (And.intro (by omega) (And.intro (by omega) hK))))))))))
theorem en_R_swaps   {d : Nat} {K : qm_K} {M : qm_M} {i : Int} {j : Int} (h :
    0 ≤ i ∧ i < 128 ∧
    0 ≤ j ∧ j < 128 ∧
    0 ≤ i ∧ i < 128 ∧
    0 ≤ j ∧ j < 128 ∧
    K (.inl 0) (qL qLM) (qm_u (qm_u M 72 (Int.toNat i) (M 72 (Int.toNat j))) 72 (Int.toNat j) (M 72 (Int.toNat i)))) : qm_Runs qm_P (d + 1) 201 [(.inr (some 71)), (.inl i), (.inl j)] (qL qLM) M K :=
  And.intro (Nat.le_of_ble_eq_true rfl) (show qm_TT qi_201 (qm_Runs qm_P (d + 0)) K 0 [some (.inr (some 71)), some (.inl i), some (.inl j), none] [] (qL qLM) M 0 0 from qm_wp_TT [] 22 (Exists.intro 72 (And.intro (lf_71_2 ()) (Exists.intro 128 (And.intro (la_72 ()) (And.intro h.1 (And.intro h.2.1 (Exists.intro 72 (And.intro (lf_71_2 ()) (Exists.intro 72 (And.intro (lf_71_2 ()) (Exists.intro 128 (And.intro (la_72 ()) (And.intro h.2.2.1 (And.intro h.2.2.2.1 (Exists.intro 128 (And.intro (la_72 ()) (And.intro h.2.2.2.2.1 (And.intro h.2.2.2.2.2.1 (Exists.intro 72 (And.intro (lf_71_2 ()) (Exists.intro 128 (And.intro (la_72 ()) (And.intro h.2.2.2.2.2.2.1 (And.intro h.2.2.2.2.2.2.2.1 (h.2.2.2.2.2.2.2.2))))))))))))))))))))))))))
theorem s_R_swaps   {d : Nat} {K : qm_K} {M : qm_M} {i : Int} {j : Int} (hp0 : 0 ≤ (i : Int) ∧ (i : Int) < 128 ∧ 0 ≤ (j : Int) ∧ (j : Int) < 128) (hK : K (.inl 0) (qL qLM) (sw2 M 72 (Int.toNat i) (Int.toNat j))) : qm_Runs qm_P (d + 1) 201 [(.inr (some 71)), (.inl i), (.inl j)] (qL qLM) M K := by
  refine en_R_swaps   ?_
  exact And.intro (by omega) (And.intro (by omega) (And.intro (by omega) (And.intro (by omega) (And.intro (by omega) (And.intro (by omega) (And.intro (by omega) (And.intro (by omega) hK)))))))
def at_R_firstAlone_2  (d : Nat) (K : qm_K) (M : qm_M) (x1 : Int) : Prop := ∀ (d2 d3 : Option qm_V), qm_TT qi_167 (qm_Runs qm_P (d + 0)) K 2 [some (.inr (some 71)), some (.inl x1), d2, d3] [] (qL qLM) M 0 0
def at_R_firstAlone_14  (d : Nat) (K : qm_K) (M : qm_M) (x1 x2 x3 : Int) : Prop := qm_TT qi_167 (qm_Runs qm_P (d + 0)) K 14 [some (.inr (some 71)), some (.inl x1), some (.inl x2), some (.inl x3)] [] (qL qLM) M 0 0
theorem rg_R_firstAlone_2   {d : Nat} {K : qm_K} {M : qm_M} {x1 : Int} (h :
    ((M 71 0) ≤ x1 →
     K (.inl ((M 71 0))) (qL qLM) M) ∧
    (¬ (M 71 0) ≤ x1 →
     at_R_firstAlone_14  d K M x1 1 0)) : at_R_firstAlone_2  d K M x1 :=
  fun d2 d3 => qm_wp_TT [2, 14] 21 (And.intro (lf_71_0 ()) (And.intro (fun q1 => And.intro (lf_71_0 ()) ((h.1 q1))) (fun q2 => (h.2 q2))))
theorem rg_R_firstAlone_14   {d : Nat} {K : qm_K} {M : qm_M} {x1 x2 x3 : Int} (h :
    ((M 71 0) ≤ x3 →
     (x2 = 0 →
      qm_R (x1 + 1) ∧
      at_R_firstAlone_2  d K M ((x1 + 1))) ∧
     (¬ x2 = 0 →
      K (.inl x1) (qL qLM) M)) ∧
    (¬ (M 71 0) ≤ x3 →
     (x2 = 0 →
      (x2 = 0 →
       qm_R (x1 + 1) ∧
       at_R_firstAlone_2  d K M ((x1 + 1))) ∧
      (¬ x2 = 0 →
       K (.inl x1) (qL qLM) M)) ∧
     (¬ x2 = 0 →
      0 ≤ x3 ∧ x3 < 8 ∧
      ((M 84 (Int.toNat x3)) = x1 →
       qm_R (x3 + 1) ∧
       at_R_firstAlone_14  d K M x1 0 ((x3 + 1))) ∧
      (¬ (M 84 (Int.toNat x3)) = x1 →
       qm_R (x3 + 1) ∧
       at_R_firstAlone_14  d K M x1 1 ((x3 + 1)))))) : at_R_firstAlone_14  d K M x1 x2 x3 :=
  qm_wp_TT [2, 14] 21 (And.intro (lf_71_0 ()) (And.intro (fun q3 => And.intro (fun q5 => And.intro ((h.1 q3).1 q5).1 (((h.1 q3).1 q5).2 _ _)) (fun q6 => ((h.1 q3).2 q6))) (fun q4 => And.intro (fun q7 => And.intro (fun q9 => And.intro (((h.2 q4).1 q7).1 q9).1 ((((h.2 q4).1 q7).1 q9).2 _ _)) (fun q10 => (((h.2 q4).1 q7).2 q10))) (fun q8 => Exists.intro 84 (And.intro (lf_71_19 ()) (Exists.intro 8 (And.intro (la_84 ()) (And.intro ((h.2 q4).2 q8).1 (And.intro ((h.2 q4).2 q8).2.1 (And.intro (fun q11 => And.intro (((h.2 q4).2 q8).2.2.1 q11).1 ((((h.2 q4).2 q8).2.2.1 q11).2)) (fun q12 => And.intro (((h.2 q4).2 q8).2.2.2 q12).1 ((((h.2 q4).2 q8).2.2.2 q12).2))))))))))))
theorem en_R_firstAlone   {d : Nat} {K : qm_K} {M : qm_M}  (h :
    at_R_firstAlone_2  d K M 0) : qm_Runs qm_P (d + 1) 167 [(.inr (some 71))] (qL qLM) M K :=
  And.intro (Nat.le_of_ble_eq_true rfl) (show qm_TT qi_167 (qm_Runs qm_P (d + 0)) K 0 [some (.inr (some 71)), none, none, none] [] (qL qLM) M 0 0 from qm_wp_TT [2, 14] 21 (h _ _))
theorem lp_R_firstAlone {d : Nat} {K : qm_K} {M : qm_M} {n : Nat} {h : Nat → Nat} (h0 : M 71 0 = (n : Int)) (h8 : n ≤ 8) (hh : ∀ y, y < n → M 84 y = mz (h y)) (hK : K (.inl (gfa n h : Int)) (qL qLM) M) : ∀ (j x : Nat), x + j = n → (∀ z, z < x → ¬ galone n h z) → at_R_firstAlone_2 d K M (x : Int)
  | 0, x, hx, hn => fun d2 d3 => by
    refine rg_R_firstAlone_2 (And.intro (fun _ => qk_eq hK ?_) (fun z => absurd z (by rw [h0]; omega))) d2 d3
    rw [h0, show gfa n h = n from lst_none (fun j hj => hn j (by omega))]
  | j + 1, x, hx, hn => fun d2 d3 => by
    have no : (∃ y, y < n ∧ h y = x) → at_R_firstAlone_2 d K M ((x : Int) + 1) := fun hy => lp_R_firstAlone h0 h8 hh hK j (x + 1) (by omega) (fun z hz hg => by
      by_cases hzx : z = x
      · subst hzx
        obtain ⟨y, h1, h2⟩ := hy
        exact hg y h1 h2
      · exact hn z (by omega) hg)
    have yes : galone n h x → K (.inl (x : Int)) (qL qLM) M := fun hg => qk_eq hK (by rw [show gfa n h = x from lst_eq (by omega) hg hn])
    have hr : qm_R ((x : Int) + 1) := by unfold qm_R; omega
    have in0 : ∀ y : Nat, y ≤ n → (∃ y, y < n ∧ h y = x) → at_R_firstAlone_14 d K M (x : Int) 0 (y : Int) := fun y hyn hy => rg_R_firstAlone_14 (And.intro (fun _ => And.intro (fun _ => And.intro hr (no hy)) (fun z => absurd rfl z)) (fun _ => And.intro (fun _ => And.intro (fun _ => And.intro hr (no hy)) (fun z => absurd rfl z)) (fun z => absurd rfl z)))
    have inner : ∀ (i y : Nat), y + i = n → (∀ z, z < y → h z ≠ x) → at_R_firstAlone_14 d K M (x : Int) 1 (y : Int) := by
      intro i
      induction i with
      | zero =>
        intro y hy hz
        exact rg_R_firstAlone_14 (And.intro (fun _ => And.intro (fun z => absurd z (by decide)) (fun _ => yes (fun z hz2 => hz z (by omega)))) (fun z => absurd z (by rw [h0]; omega)))
      | succ i ih =>
        intro y hy hz
        refine rg_R_firstAlone_14 (And.intro (fun z => absurd z (by rw [h0]; omega)) (fun _ => And.intro (fun z => absurd z (by decide)) (fun _ => And.intro (by omega) (And.intro (by omega) ?_))))
        rw [Int.toNat_natCast, hh y (by omega)]
        refine And.intro (fun q => And.intro (by unfold qm_R; omega) (in0 (y + 1) (by omega) ⟨y, by omega, (mz_eq (by omega)).mp q⟩)) (fun q => And.intro (by unfold qm_R; omega) (ih (y + 1) (by omega) (fun z hz2 e => ?_)))
        by_cases hzy : z = y
        · exact q ((mz_eq (by omega)).mpr (by rw [← hzy]; exact e))
        · exact hz z (by omega) e
    refine rg_R_firstAlone_2 (And.intro (fun z => absurd z (by rw [h0]; omega)) (fun _ => ?_)) d2 d3
    exact inner n 0 (by omega) (fun z hz => absurd hz (Nat.not_lt_zero _))
theorem s_R_firstAlone  {n : Nat} {h : Nat → Nat} {d : Nat} {K : qm_K} {M : qm_M}  (hp0 : M 71 0 = (n : Int) ∧ n ≤ 8 ∧ ∀ y, y < n → M 84 y = mz (h y)) (hK : K (.inl ((gfa n h : Int))) (qL qLM) M) : qm_Runs qm_P (d + 1) 167 [(.inr (some 71))] (qL qLM) M K := by
  refine en_R_firstAlone   ?_
  obtain ⟨h0, h8, hh⟩ := hp0
  exact lp_R_firstAlone h0 h8 hh hK n 0 (by omega) (fun z hz => absurd hz (Nat.not_lt_zero _))
