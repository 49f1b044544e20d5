/-! the reference: what is small in it -/
def qArr (L : qm_L) (a n : Nat) : Prop := qm_isA L a n ∧ n < 2147483648
def cpM (M : qm_M) (a : Nat) (i : Int) (b : Nat) (j k : Int) : qm_M := fun c x => if c = b then (if j ≤ (x : Int) ∧ (x : Int) < j + k then M a (Int.toNat (i + ((x : Int) - j))) else M c x) else M c x
theorem cpM_c {M : qm_M} {a b c : Nat} {i j k : Int} (h : c ≠ b) : cpM M a i b j k c = M c := by
  funext x
  unfold cpM
  rw [if_neg h]
theorem cpM_in {M : qm_M} {a b x : Nat} {i j k : Int} (h : j ≤ (x : Int) ∧ (x : Int) < j + k) : cpM M a i b j k b x = M a (Int.toNat (i + ((x : Int) - j))) := by
  unfold cpM
  rw [if_pos rfl, if_pos h]
theorem cpM_out {M : qm_M} {a b x : Nat} {i j k : Int} (h : ¬ (j ≤ (x : Int) ∧ (x : Int) < j + k)) : cpM M a i b j k b x = M b x := by
  unfold cpM
  rw [if_pos rfl, if_neg h]
/-- one to one copies -/
theorem cpM_0 {M : qm_M} {a b x k : Nat} (h : x < k) : cpM M a 0 b 0 (k : Int) b x = M a x := by
  rw [cpM_in (by omega)]
  congr 1
  omega
def qMR (M : qm_M) (n : Nat) (w p : Nat → Nat) : Prop := M 71 0 = (n : Int) ∧ qAt M 72 n w ∧ qAt M 73 n p ∧ qInv n w p
def qAr (M : qm_M) (c n : Nat) (u : Nat → Nat) : Prop := ∀ a, a < n → M c a = (u a : Int)
theorem en_R_isIn   {d : Nat} {K : qm_K} {M : qm_M} {x : Int} {y : Int} {z : Int} (h :
    (x < y →
     K (.inl 0) (qL qLM) M) ∧
    (¬ x < y →
     (z < x →
      K (.inl 0) (qL qLM) M) ∧
     (¬ z < x →
      K (.inl 1) (qL qLM) M))) : qm_Runs qm_P (d + 1) 142 [(.inl x), (.inl y), (.inl z)] (qL qLM) M K :=
  And.intro (Nat.le_of_ble_eq_true rfl) (show qm_TT qi_142 (qm_Runs qm_P (d + 0)) K 0 [some (.inl x), some (.inl y), some (.inl z)] [] (qL qLM) M 0 0 from qm_wp_TT [] 12 (And.intro (fun q1 => And.intro (Or.inl rfl) (h.1 q1)) (fun q2 => And.intro (fun q3 => And.intro (Or.inl rfl) ((h.2 q2).1 q3)) (fun q4 => And.intro (Or.inr rfl) ((h.2 q2).2 q4)))))
theorem s_R_isIn   {d : Nat} {K : qm_K} {M : qm_M} {x : Int} {y : Int} {z : Int}  (hK : K (.inl (qm_b (y ≤ x ∧ x ≤ z))) (qL qLM) M) : qm_Runs qm_P (d + 1) 142 [(.inl x), (.inl y), (.inl z)] (qL qLM) M K := by
  refine en_R_isIn   ?_
  repeat' first | (intro _) | (refine And.intro ?_ ?_)
  all_goals first | exact qk_eq hK (qm_bt (by omega)) | exact qk_eq hK (qm_bff (by omega))
theorem en_R_isOne   {d : Nat} {K : qm_K} {M : qm_M} {x : Int} (h :
    qm_R ((M 71 0) - 1) ∧
    K (.inl (qm_b (0 ≤ x ∧ x ≤ ((M 71 0) - 1)))) (qL qLM) M) : qm_Runs qm_P (d + 2) 143 [(.inr (some 71)), (.inl x)] (qL qLM) M K :=
  And.intro (Nat.le_of_ble_eq_true rfl) (show qm_TT qi_143 (qm_Runs qm_P (d + 1)) K 0 [some (.inr (some 71)), some (.inl x)] [] (qL qLM) M 0 0 from qm_wp_TT [] 11 (And.intro (lf_71_0 ()) (And.intro h.1 (And.intro True.intro (s_R_isIn (d := d + 0)   (And.intro (qm_b01 _) h.2))))))
theorem s_R_isOne   {d : Nat} {K : qm_K} {M : qm_M} {x : Int} (hp0 : 1 ≤ M 71 0 ∧ M 71 0 ≤ 8) (hK : K (.inl (qm_b (0 ≤ x ∧ x < M 71 0))) (qL qLM) M) : qm_Runs qm_P (d + 2) 143 [(.inr (some 71)), (.inl x)] (qL qLM) M K := by
  refine en_R_isOne   ?_
  refine And.intro (by unfold qm_R; omega) ?_
  rw [show (0 ≤ x ∧ x ≤ M 71 0 - 1) = (0 ≤ x ∧ x < M 71 0) from propext (by omega)]
  exact hK
theorem en_R_has   {d : Nat} {K : qm_K} {M : qm_M} {x : Int} {t : Int} (h :
    ((qm_and (qm_shr x t) 1) ≠ 1 →
     K (.inl 0) (qL qLM) M) ∧
    (¬ (qm_and (qm_shr x t) 1) ≠ 1 →
     K (.inl 1) (qL qLM) M)) : qm_Runs qm_P (d + 1) 144 [(.inl x), (.inl t)] (qL qLM) M K :=
  And.intro (Nat.le_of_ble_eq_true rfl) (show qm_TT qi_144 (qm_Runs qm_P (d + 0)) K 0 [some (.inl x), some (.inl t)] [] (qL qLM) M 0 0 from qm_wp_TT [] 13 (And.intro (fun q1 => And.intro (Or.inl rfl) (h.1 q1)) (fun q2 => And.intro (Or.inr rfl) (h.2 q2))))
theorem s_R_has   {d : Nat} {K : qm_K} {M : qm_M} {x : Int} {t : Int}  (hK : K (.inl (qm_b (qm_and (qm_shr x t) 1 = 1))) (qL qLM) M) : qm_Runs qm_P (d + 1) 144 [(.inl x), (.inl t)] (qL qLM) M K := by
  refine en_R_has   ?_
  repeat' first | (intro _) | (refine And.intro ?_ ?_)
  all_goals first | exact qk_eq hK (qm_bt (Classical.not_not.mp (by assumption))) | exact qk_eq hK (qm_bff (by assumption))
theorem en_R_at   {d : Nat} {K : qm_K} {M : qm_M} {s : Int} {a : Int} {k : Int} (h :
    qm_R (64 * s) ∧
    qm_R (8 * a) ∧
    qm_R ((64 * s) + (8 * a)) ∧
    qm_R (((64 * s) + (8 * a)) + k) ∧
    K (.inl ((((64 * s) + (8 * a)) + k))) (qL qLM) M) : qm_Runs qm_P (d + 1) 145 [(.inl s), (.inl a), (.inl k)] (qL qLM) M K :=
  And.intro (Nat.le_of_ble_eq_true rfl) (show qm_TT qi_145 (qm_Runs qm_P (d + 0)) K 0 [some (.inl s), some (.inl a), some (.inl k)] [] (qL qLM) M 0 0 from qm_wp_TT [] 13 (And.intro h.1 (And.intro h.2.1 (And.intro h.2.2.1 (And.intro h.2.2.2.1 (h.2.2.2.2))))))
theorem s_R_at   {d : Nat} {K : qm_K} {M : qm_M} {s : Int} {a : Int} {k : Int} (hp0 : 0 ≤ (s : Int) ∧ (s : Int) ≤ 1 ∧ 0 ≤ (a : Int) ∧ (a : Int) ≤ 8 ∧ 0 ≤ (k : Int) ∧ (k : Int) ≤ 8) (hK : K (.inl ((64 * s + 8 * a + k))) (qL qLM) M) : qm_Runs qm_P (d + 1) 145 [(.inl s), (.inl a), (.inl k)] (qL qLM) M K := by
  refine en_R_at   ?_
  exact And.intro (by unfold qm_R; omega) (And.intro (by unfold qm_R; omega) (And.intro (by unfold qm_R; omega) (And.intro (by unfold qm_R; omega) hK)))
def at_R_copies_3 (a b N N2 : Nat) (d : Nat) (K : qm_K) (M : qm_M) (x1 x3 x4 x5 : Int) : Prop := qm_TT qi_146 (qm_Runs qm_P (d + 0)) K 3 [some (.inr (some a)), some (.inl x1), some (.inr (some b)), some (.inl x3), some (.inl x4), some (.inl x5)] [] (qL qLM) M 0 0
theorem rg_R_copies_3 {a b N N2 : Nat}  {d : Nat} {K : qm_K} {M : qm_M} {x1 x3 x4 x5 : Int} (hA : qArr (qL qLM) a N) (hB : qArr (qL qLM) b N2) (h :
    (x4 ≤ x5 →
     K (.inl 0) (qL qLM) M) ∧
    (¬ x4 ≤ x5 →
     qm_R (x3 + x5) ∧
     qm_R (x1 + x5) ∧
     0 ≤ (x1 + x5) ∧ (x1 + x5) < N ∧
     0 ≤ (x3 + x5) ∧ (x3 + x5) < N2 ∧
     qm_R (x5 + 1) ∧
     at_R_copies_3 a b N N2 d K (qm_u M b (Int.toNat (x3 + x5)) (M a (Int.toNat (x1 + x5)))) x1 x3 x4 ((x5 + 1)))) : at_R_copies_3 a b N N2 d K M x1 x3 x4 x5 :=
  qm_wp_TT [3] 19 (And.intro (fun q1 => (h.1 q1)) (fun q2 => And.intro (h.2 q2).1 (And.intro (h.2 q2).2.1 (Exists.intro N (And.intro hA.1 (And.intro (h.2 q2).2.2.1 (And.intro (h.2 q2).2.2.2.1 (Exists.intro N2 (And.intro hB.1 (And.intro (h.2 q2).2.2.2.2.1 (And.intro (h.2 q2).2.2.2.2.2.1 (And.intro (h.2 q2).2.2.2.2.2.2.1 ((h.2 q2).2.2.2.2.2.2.2)))))))))))))
theorem en_R_copies {a b N N2 : Nat}  {d : Nat} {K : qm_K} {M : qm_M} {i : Int} {j : Int} {k : Int} (hA : qArr (qL qLM) a N) (hB : qArr (qL qLM) b N2) (h :
    at_R_copies_3 a b N N2 d K M i j k 0) : qm_Runs qm_P (d + 1) 146 [(.inr (some a)), (.inl i), (.inr (some b)), (.inl j), (.inl k)] (qL qLM) M K :=
  And.intro (Nat.le_of_ble_eq_true rfl) (show qm_TT qi_146 (qm_Runs qm_P (d + 0)) K 0 [some (.inr (some a)), some (.inl i), some (.inr (some b)), some (.inl j), some (.inl k), none] [] (qL qLM) M 0 0 from qm_wp_TT [3] 19 (h))
theorem lp_R_copies {a b N N2 d : Nat} {K : qm_K} {M0 : qm_M} {i j k : Int} (hA : qArr (qL qLM) a N) (hB : qArr (qL qLM) b N2) (h : 0 ≤ i ∧ 0 ≤ j ∧ 0 ≤ k ∧ i + k ≤ (N : Int) ∧ j + k ≤ (N2 : Int)) (h2 : a ≠ b ∨ j ≤ i) (hK : K (.inl 0) (qL qLM) (cpM M0 a i b j k)) : ∀ (m x : Nat) (M : qm_M), (x : Int) + (m : Int) = k → M = cpM M0 a i b j (x : Int) → at_R_copies_3 a b N N2 d K M i j k (x : Int)
  | 0, x, M, hx, hM => by
    refine rg_R_copies_3 hA hB (And.intro (fun _ => ?_) (fun z => absurd z (by omega)))
    rw [hM, show (x : Int) = k by omega]
    exact hK
  | m + 1, x, M, hx, hM => by
    have q1 := hA.2
    have q2 := hB.2
    refine rg_R_copies_3 hA hB (And.intro (fun z => absurd z (by omega)) (fun _ => And.intro (by unfold qm_R; omega) (And.intro (by unfold qm_R; omega) (And.intro (by omega) (And.intro (by omega) (And.intro (by omega) (And.intro (by omega) (And.intro (by unfold qm_R; omega) ?_))))))))
    refine lp_R_copies hA hB h h2 hK m (x + 1) _ (by omega) ?_
    have hr : M a (Int.toNat (i + (x : Int))) = M0 a (Int.toNat (i + (x : Int))) := by
      rw [hM]
      by_cases hab : a = b
      · subst hab
        exact cpM_out (by omega)
      · rw [cpM_c hab]
    rw [hr, hM]
    funext c y
    unfold qm_u cpM
    by_cases hc : c = b
    · subst hc
      repeat rw [if_pos (Eq.refl c)]
      by_cases hy : y = Int.toNat (j + (x : Int))
      · rw [if_pos hy, if_pos (show j ≤ (y : Int) ∧ (y : Int) < j + ((x + 1 : Nat) : Int) by omega)]
        congr 1
        omega
      · rw [if_neg hy]
        by_cases hlt : j ≤ (y : Int) ∧ (y : Int) < j + (x : Int)
        · rw [if_pos hlt, if_pos (show j ≤ (y : Int) ∧ (y : Int) < j + ((x + 1 : Nat) : Int) by omega)]
        · rw [if_neg hlt, if_neg (show ¬ (j ≤ (y : Int) ∧ (y : Int) < j + ((x + 1 : Nat) : Int)) by omega)]
    · repeat rw [if_neg hc]
theorem s_R_copies {a b N N2 : Nat}  {d : Nat} {K : qm_K} {M : qm_M} {i : Int} {j : Int} {k : Int} (hA : qArr (qL qLM) a N) (hB : qArr (qL qLM) b N2) (hp0 : 0 ≤ (i : Int) ∧ 0 ≤ (j : Int) ∧ 0 ≤ (k : Int) ∧ (i : Int) + k ≤ (N : Int) ∧ (j : Int) + k ≤ (N2 : Int)) (hp1 : (a : Nat) ≠ b ∨ (j : Int) ≤ i) (hK : K (.inl 0) (qL qLM) (cpM M a i b j k)) : qm_Runs qm_P (d + 1) 146 [(.inr (some a)), (.inl i), (.inr (some b)), (.inl j), (.inl k)] (qL qLM) M K := by
  refine en_R_copies hA hB (lp_R_copies hA hB hp0 hp1 hK (Int.toNat k) 0 M (by omega) ?_)
  funext c x
  unfold cpM
  split
  · rw [if_neg (by omega)]
  · rfl
def mB (M : qm_M) (c N : Nat) : Prop := ∀ x, x < N → 0 ≤ M c x ∧ M c x < 8
def idw (x : Nat) : Nat := x % 8
theorem ix_idw {s a k : Nat} (hk : k < 8) : idw (ix s a k) = k := by unfold idw ix; omega
theorem qInv_id {n : Nat} (h : 1 ≤ n ∧ n ≤ 8) : qInv n idw idw := ⟨h.1, h.2, fun s a hs ha k hk => by
  have e : idw (ix s a k) = k := ix_idw (by omega)
  rw [e, e]
  exact ⟨hk, rfl, hk, rfl⟩⟩
theorem ix_of {x : Nat} (h : x < 128) : x = ix (x / 64) (x / 8 % 8) (x % 8) ∧ x / 64 < 2 ∧ x / 8 % 8 < 8 ∧ x % 8 < 8 := by unfold ix; omega
theorem tm8 (x : Nat) : Int.tmod ((x : Nat) : Int) 8 = ((x % 8 : Nat) : Int) := rfl
def at_R_places_2  (d : Nat) (K : qm_K) (M : qm_M) (x1 : Int) : Prop := qm_TT qi_148 (qm_Runs qm_P (d + 0)) K 2 [some (.inr (some 71)), some (.inl x1)] [] (qL qLM) M 0 0
theorem rg_R_places_2   {d : Nat} {K : qm_K} {M : qm_M} {x1 : Int} (h :
    (128 ≤ x1 →
     ∀ (M1 : qm_M), M1 = (qm_u M 71 35 0) →
     K (.inl 0) (qL qLM) M1) ∧
    (¬ 128 ≤ x1 →
     (0 : Int) < 8 ∧
     ((M 71 0) ≤ (Int.tmod x1 8) →
      qm_R (x1 + 1) ∧
      at_R_places_2  d K M ((x1 + 1))) ∧
     (¬ (M 71 0) ≤ (Int.tmod x1 8) →
      (0 : Int) < 8 ∧
      qm_R (x1 - (Int.tmod x1 8)) ∧
      0 ≤ x1 ∧ x1 < 128 ∧
      qm_R ((x1 - (Int.tmod x1 8)) + (M 72 (Int.toNat x1))) ∧
      (0 : Int) < 8 ∧
      0 ≤ ((x1 - (Int.tmod x1 8)) + (M 72 (Int.toNat x1))) ∧ ((x1 - (Int.tmod x1 8)) + (M 72 (Int.toNat x1))) < 128 ∧
      ∀ (M2 : qm_M), M2 = (qm_u M 73 (Int.toNat ((x1 - (Int.tmod x1 8)) + (M 72 (Int.toNat x1)))) (Int.tmod x1 8)) →
      qm_R (x1 + 1) ∧
      at_R_places_2  d K M2 ((x1 + 1))))) : at_R_places_2  d K M x1 :=
  qm_wp_TT [2] 31 (And.intro (fun q3 => And.intro (Or.inl rfl) (And.intro (lf_71_35 ()) (((h.1 q3) _ rfl)))) (fun q4 => And.intro (h.2 q4).1 (And.intro (lf_71_0 ()) (And.intro (fun q5 => And.intro ((h.2 q4).2.1 q5).1 (((h.2 q4).2.1 q5).2)) (fun q6 => Exists.intro 73 (And.intro (lf_71_3 ()) (And.intro ((h.2 q4).2.2 q6).1 (And.intro ((h.2 q4).2.2 q6).2.1 (Exists.intro 72 (And.intro (lf_71_2 ()) (Exists.intro 128 (And.intro (la_72 ()) (And.intro ((h.2 q4).2.2 q6).2.2.1 (And.intro ((h.2 q4).2.2 q6).2.2.2.1 (And.intro ((h.2 q4).2.2 q6).2.2.2.2.1 (And.intro ((h.2 q4).2.2 q6).2.2.2.2.2.1 (Exists.intro 128 (And.intro (la_73 ()) (And.intro ((h.2 q4).2.2 q6).2.2.2.2.2.2.1 (And.intro ((h.2 q4).2.2 q6).2.2.2.2.2.2.2.1 (And.intro (((h.2 q4).2.2 q6).2.2.2.2.2.2.2.2 _ rfl).1 ((((h.2 q4).2.2 q6).2.2.2.2.2.2.2.2 _ rfl).2))))))))))))))))))))))
theorem en_R_places   {d : Nat} {K : qm_K} {M : qm_M}  (h :
    at_R_places_2  d K M 0) : qm_Runs qm_P (d + 1) 148 [(.inr (some 71))] (qL qLM) M K :=
  And.intro (Nat.le_of_ble_eq_true rfl) (show qm_TT qi_148 (qm_Runs qm_P (d + 0)) K 0 [some (.inr (some 71)), none] [] (qL qLM) M 0 0 from qm_wp_TT [2] 31 (h))
theorem lp_R_places {d : Nat} {K : qm_K} {M0 : qm_M} {n : Nat} {w p : Nat → Nat} (h0 : M0 71 0 = (n : Int)) (hw : qAt M0 72 n w) (hI : qInv n w p) (hB : mB M0 72 128) (hK : ∀ M2 : qm_M, (qMR M2 n w p ∧ M2 71 35 = 0 ∧ ∀ c x, c ≠ 73 → c ≠ 71 ∨ x ≠ 35 → M2 c x = M0 c x) → K (.inl 0) (qL qLM) M2) : ∀ (j x : Nat) (M : qm_M), x + j = 128 → (∀ c, c ≠ 73 → M c = M0 c) → (∀ s a k, s < 2 → a < n → k < n → ix s a k < x → M 73 (64 * s + 8 * a + w (ix s a k)) = (k : Int)) → at_R_places_2 d K M (x : Int)
  | 0, x, M, hx, hc, hS => by
    have hx : x = 128 := by omega
    subst hx
    have h8 := hI.2.1
    refine rg_R_places_2 (And.intro (fun _ => ?_) (fun z => absurd z (by omega)))
    intro M1 e1
    refine hK M1 ⟨⟨?_, fun s a k hs ha hk => ?_, fun s a k hs ha hk => ?_, hI⟩, ?_, fun c x h1 h2 => ?_⟩
    · rw [e1, qu_k (by decide), hc 71 (by decide)]; exact h0
    · rw [e1, qu_c (by decide), hc 72 (by decide)]; exact hw s a k hs ha hk
    · rw [e1, qu_c (by decide)]
      have hi := hI.2.2 s a hs ha k hk
      have := hS s a (p (ix s a k)) hs ha hi.2.2.1 (ix_lt hs (by omega) (by omega))
      rw [hi.2.2.2] at this
      exact this
    · rw [e1, qu_s]
    · rw [e1]
      rcases h2 with h2 | h2
      · rw [qu_c h2, hc c h1]
      · rw [qu_k h2, hc c h1]
  | j + 1, x, M, hx, hc, hS => by
    have h8 := hI.2.1
    have hxo := ix_of (show x < 128 by omega)
    have hb := hB x (by omega)
    have hr : qm_R ((x : Int) + 1) := by unfold qm_R; omega
    refine rg_R_places_2 (And.intro (fun z => absurd z (by omega)) (fun _ => And.intro (by decide) (And.intro (fun z => ?_) (fun z => ?_))))
    · refine And.intro hr (lp_R_places h0 hw hI hB hK j (x + 1) M (by omega) hc (fun s a k hs ha hk hlt => ?_))
      rw [tm8, hc 71 (by decide), h0] at z
      have : ix s a k ≠ x := fun q => by unfold ix at q; omega
      exact hS s a k hs ha hk (by omega)
    · rw [tm8, hc 71 (by decide), h0] at z
      rw [tm8, hc 72 (by decide)]
      have ei : (x : Int) - ((x % 8 : Nat) : Int) + M0 72 (Int.toNat (x : Int)) = ((x - x % 8 + (M0 72 x).toNat : Nat) : Int) := by rw [Int.toNat_natCast]; omega
      refine And.intro (by decide) (And.intro (by unfold qm_R; omega) (And.intro (by omega) (And.intro (by omega) (And.intro (by rw [ei]; unfold qm_R; omega) (And.intro (by decide) (And.intro (by rw [ei]; omega) (And.intro (by rw [ei]; omega) ?_)))))))
      intro M1 e1
      rw [ei, Int.toNat_natCast] at e1
      refine And.intro hr (lp_R_places h0 hw hI hB hK j (x + 1) M1 (by omega) (fun c hcc => by rw [e1, qu_cf hcc]; exact hc c hcc) (fun s a k hs ha hk hlt => ?_))
      have hi := hI.2.2 s a hs ha k hk
      by_cases hxk : ix s a k = x
      · have hv : M0 72 x = (w x : Int) := by rw [← hxk]; exact hw s a k hs ha hk
        have e2 : 64 * s + 8 * a + w (ix s a k) = x - x % 8 + (M0 72 x).toNat := by
          rw [hxk, hv, Int.toNat_natCast, ← hxk]
          unfold ix
          omega
        rw [e1, e2, qu_s]
        rw [← hxk]
        unfold ix
        omega
      · rw [e1, qu_k]
        · exact hS s a k hs ha hk (by omega)
        · intro q
          -- the same row, so the same place
          by_cases hrow : x / 8 = 8 * s + a
          · have hx2 : x = ix s a (x % 8) := by unfold ix; omega
            have hkn : x % 8 < n := by omega
            have hv : M0 72 x = (w x : Int) := by
              have := hw s a (x % 8) hs ha hkn
              rw [← hx2] at this
              exact this
            have hwe : w (ix s a k) = w (ix s a (x % 8)) := by
              rw [← hx2]
              have h7 : (M0 72 x).toNat = w x := by rw [hv]; rfl
              omega
            have i1 := hi.2.1
            have i2 := (hI.2.2 s a hs ha (x % 8) hkn).2.1
            rw [hwe, i2] at i1
            exact hxk (by rw [← i1]; exact hx2.symm)
          · have := hi.1
            omega
theorem s_R_places  {n : Nat} {w p : Nat → Nat} {d : Nat} {K : qm_K} {M : qm_M}  (hp0 : M 71 0 = (n : Int) ∧ qAt M 72 n w ∧ qInv n w p) (hp1 : mB M 72 128) (hK : ∀ (M2 : qm_M), (qMR M2 n w p ∧ M2 71 35 = 0 ∧ ∀ c x, c ≠ 73 → c ≠ 71 ∨ x ≠ 35 → M2 c x = M c x) → K (.inl 0) (qL qLM) M2) : qm_Runs qm_P (d + 1) 148 [(.inr (some 71))] (qL qLM) M K := by
  exact en_R_places (lp_R_places hp0.1 hp0.2.1 hp0.2.2 hp1 hK 128 0 M (by omega) (fun _ _ => rfl) (fun s a k _ _ _ h => absurd h (Nat.not_lt_zero _)))
