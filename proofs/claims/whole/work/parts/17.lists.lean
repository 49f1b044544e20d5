theorem sPut_n {M : qm_M} {o s a k x : Nat} (hs : s < 2) (ha : a < 8) (hk : k < 8) (hx : x < 8) : sPut M o (s : Int) (a : Int) (k : Int) (x : Int) = qm_u (qm_u M (o + 2) (ix s a k) (x : Int)) (o + 4) (ix s a x) (k : Int) := by
  unfold sPut
  rw [cell3_ix hs ha hk, cell3_ix hs ha hx, sRow_in (ix_lt hs ha hk), sRow_in (ix_lt hs ha hx)]
theorem qu_s {M : qm_M} {c k : Nat} {v : Int} : qm_u M c k v c k = v := by unfold qm_u; simp
theorem qu_c {M : qm_M} {c k a b : Nat} {v : Int} (h : a ≠ c) : qm_u M c k v a b = M a b := by unfold qm_u; rw [if_neg h]
theorem qu_k {M : qm_M} {c k a b : Nat} {v : Int} (h : b ≠ k) : qm_u M c k v a b = M a b := by
  unfold qm_u
  split <;> simp [h]
theorem ix_inj {s a k s2 a2 k2 : Nat} (ha : a < 8) (hk : k < 8) (ha2 : a2 < 8) (hk2 : k2 < 8) (h : ix s a k = ix s2 a2 k2) : s = s2 ∧ a = a2 ∧ k = k2 := by unfold ix at h; omega
def svRow (M : qm_M) (c b c2 : Nat) : qm_M := fun a j => if a = c then (if b ≤ j ∧ j < b + 128 then M c2 (j - b) else M a j) else M a j
def qTot (n : Nat) (u : Nat → Nat) : Prop := ∀ a, a < n → u a < n
def cs0 (n : Nat) (p u : Nat → Nat) : Nat := sumN (fun a => p (ix 0 a (u a))) n
def cs1 (n : Nat) (p u : Nat → Nat) : Nat := sumN (fun a => p (ix 1 (u a) a)) n
def csm (n : Nat) (p u : Nat → Nat) : Nat := maxN (fun a => max (p (ix 0 a (u a))) (p (ix 1 (u a) a))) n
def csF (n : Nat) (p u : Nat → Nat) (c : Int) : Int := if c = 0 then (cs0 n p u : Int) else if c = 1 then (cs1 n p u : Int) else if c = 2 then (cs0 n p u : Int) + (cs1 n p u : Int) else if c = 3 then Int.ofNat (Int.natAbs ((cs0 n p u : Int) - (cs1 n p u : Int))) else (csm n p u : Int)
theorem en_Lists_copyFrom {L : qm_L} {o q : Nat}  {d : Nat} {K : qm_K} {M : qm_M}  (hL : qLs L o) (hQ : qLs L q) (h :
    (¬ (q + 2) = (o + 2)) ∧
    (¬ (q + 4) = (o + 4)) ∧
    K (.inl 0) L (cRow (cRow (qm_u M o 2 (M q 2)) (o + 2) 128 (q + 2)) (o + 4) 128 (q + 4))) : qm_Runs qm_P (d + 3) 22 [(.inr (some o)), (.inr (some q))] L M K :=
  And.intro (Nat.le_of_ble_eq_true rfl) (show qm_TT qi_22 (qm_Runs qm_P (d + 2)) K 0 [some (.inr (some o)), some (.inr (some q))] [] L M 0 0 from qm_wp_TT [] 18 (And.intro hQ.2.2.1 (And.intro hL.2.2.1 (Exists.intro (o + 1) (And.intro hL.1 (Exists.intro (q + 1) (And.intro hQ.1 (And.intro (qm_FO hL.2.2.2.1.1) (s_Row_copyFrom (d := d + 0) hL.2.2.2.1 hQ.2.2.2.1 (h.1) (Exists.intro (o + 3) (And.intro hL.2.1 (Exists.intro (q + 3) (And.intro hQ.2.1 (And.intro (qm_FO hL.2.2.2.2.1) (s_Row_copyFrom (d := d + 0) hL.2.2.2.2 hQ.2.2.2.2 (h.2.1) (h.2.2))))))))))))))))
theorem s_Lists_copyFrom {L : qm_L} {o q : Nat}  {d : Nat} {K : qm_K} {M : qm_M}  (hL : qLs L o) (hQ : qLs L q) (hp0 : ¬ (q + 2) = (o + 2)) (hp1 : ¬ (q + 4) = (o + 4)) (hK : K (.inl 0) L (cRow (cRow (qm_u M o 2 (M q 2)) (o + 2) 128 (q + 2)) (o + 4) 128 (q + 4))) : qm_Runs qm_P (d + 3) 22 [(.inr (some o)), (.inr (some q))] L M K := by
  refine en_Lists_copyFrom  hL hQ ?_
  exact And.intro hp0 (And.intro hp1 hK)
def at_Lists_begin_7 (L : qm_L) (o : Nat) (d : Nat) (K : qm_K) (M : qm_M) (x1 x2 : Int) : Prop := ∀ (d3 : Option qm_V), qm_TT qi_21 (qm_Runs qm_P (d + 2)) K 7 [some (.inr (some o)), some (.inl x1), some (.inl x2), d3] [] L M 0 0
def at_Lists_begin_14 (L : qm_L) (o : Nat) (d : Nat) (K : qm_K) (M : qm_M) (x1 x2 x3 : Int) : Prop := qm_TT qi_21 (qm_Runs qm_P (d + 2)) K 14 [some (.inr (some o)), some (.inl x1), some (.inl x2), some (.inl x3)] [] L M 0 0
theorem rg_Lists_begin_7 {L : qm_L} {o : Nat}  {d : Nat} {K : qm_K} {M : qm_M} {x1 x2 : Int} (hL : qLs L o) (h :
    (x1 ≤ x2 →
     K (.inl 0) L M) ∧
    (¬ x1 ≤ x2 →
     at_Lists_begin_14 L o d K M x1 x2 0)) : at_Lists_begin_7 L o d K M x1 x2 :=
  fun d3 => qm_wp_TT [7, 14] 21 (And.intro (fun q1 => (h.1 q1)) (fun q2 => (h.2 q2)))
theorem rg_Lists_begin_14 {L : qm_L} {o : Nat}  {d : Nat} {K : qm_K} {M : qm_M} {x1 x2 x3 : Int} (hL : qLs L o) (h :
    (x1 ≤ x3 →
     qm_R (x2 + 1) ∧
     at_Lists_begin_7 L o d K M x1 ((x2 + 1))) ∧
    (¬ x1 ≤ x3 →
     qm_R (x3 + 1) ∧
     at_Lists_begin_14 L o d K (sPut (sPut M o 0 x2 x3 x3) o 1 x2 x3 x3) x1 x2 ((x3 + 1)))) : at_Lists_begin_14 L o d K M x1 x2 x3 :=
  qm_wp_TT [7, 14] 21 (And.intro (fun q3 => And.intro (h.1 q3).1 ((h.1 q3).2 (some (.inl x3)))) (fun q4 => And.intro (qm_FO hL.1) (s_Lists_put (d := d + 0) hL  (And.intro (qm_FO hL.1) (s_Lists_put (d := d + 0) hL  (And.intro (h.2 q4).1 ((h.2 q4).2)))))))
theorem en_Lists_begin {L : qm_L} {o : Nat}  {d : Nat} {K : qm_K} {M : qm_M} {m : Int} (hL : qLs L o) (h :
    at_Lists_begin_7 L o d K (qm_u M o 2 m) m 0) : qm_Runs qm_P (d + 3) 21 [(.inr (some o)), (.inl m)] L M K :=
  And.intro (Nat.le_of_ble_eq_true rfl) (show qm_TT qi_21 (qm_Runs qm_P (d + 2)) K 0 [some (.inr (some o)), some (.inl m), none, none] [] L M 0 0 from qm_wp_TT [7, 14] 21 (And.intro hL.2.2.1 (h (none))))
theorem lp_Lists_begin {L : qm_L} {o d : Nat} {K : qm_K} {M0 : qm_M} {n : Nat} (hL : qLs L o) (h8 : n ≤ 8) (hK : ∀ M2 : qm_M, (M2 o 2 = (n : Int) ∧ (∀ s a k : Nat, s < 2 → (a : Int) < n → (k : Int) < n → M2 (o + 2) (ix s a k) = (k : Int) ∧ M2 (o + 4) (ix s a k) = (k : Int)) ∧ ∀ c b : Nat, c ≠ o → c ≠ o + 2 → c ≠ o + 4 → M2 c b = M0 c b) → K (.inl 0) L M2) :
    ∀ (j a : Nat) (M : qm_M), a + j = n → (M o 2 = (n : Int) ∧ (∀ s a2 k : Nat, s < 2 → a2 < a → k < n → M (o + 2) (ix s a2 k) = (k : Int) ∧ M (o + 4) (ix s a2 k) = (k : Int)) ∧ ∀ c b : Nat, c ≠ o → c ≠ o + 2 → c ≠ o + 4 → M c b = M0 c b) → at_Lists_begin_7 L o d K M (n : Int) (a : Int)
  | 0, a, M, ha, hM => by
    refine rg_Lists_begin_7 hL (And.intro (fun _ => hK M ⟨hM.1, fun s a2 k hs h1 h2 => hM.2.1 s a2 k hs (by omega) (by omega), hM.2.2⟩) (fun h => absurd h (by omega)))
  | j + 1, a, M, ha, hM => by
    refine rg_Lists_begin_7 hL (And.intro (fun h => absurd h (by omega)) (fun _ => ?_))
    have hin : ∀ (i k : Nat) (M : qm_M), k + i = n → (M o 2 = (n : Int) ∧ (∀ s a2 k2 : Nat, s < 2 → k2 < n → (a2 < a ∨ (a2 = a ∧ k2 < k)) → M (o + 2) (ix s a2 k2) = (k2 : Int) ∧ M (o + 4) (ix s a2 k2) = (k2 : Int)) ∧ ∀ c b : Nat, c ≠ o → c ≠ o + 2 → c ≠ o + 4 → M c b = M0 c b) → at_Lists_begin_14 L o d K M (n : Int) (a : Int) (k : Int) := by
      intro i
      induction i with
      | zero =>
        intro k M hk hM
        refine rg_Lists_begin_14 hL (And.intro (fun _ => And.intro (by unfold qm_R; omega) ?_) (fun h => absurd h (by omega)))
        exact lp_Lists_begin hL h8 hK j (a + 1) M (by omega) ⟨hM.1, fun s a2 k2 hs h1 h2 => hM.2.1 s a2 k2 hs h2 (by omega), hM.2.2⟩
      | succ i ih =>
        intro k M hk hM
        refine rg_Lists_begin_14 hL (And.intro (fun h => absurd h (by omega)) (fun _ => And.intro (by unfold qm_R; omega) ?_))
        rw [show sPut M o 0 (a : Int) (k : Int) (k : Int) = _ from sPut_n (s := 0) (by omega) (by omega) (by omega) (by omega)]
        rw [show ∀ M', sPut M' o 1 (a : Int) (k : Int) (k : Int) = _ from fun M' => sPut_n (s := 1) (by omega) (by omega) (by omega) (by omega)]
        refine ih (k + 1) _ (by omega) ⟨?_, fun s a2 k2 hs h2 h3 => ?_, fun c b h1 h2 h3 => ?_⟩
        · rw [qu_c (by omega), qu_c (by omega), qu_c (by omega), qu_c (by omega)]; exact hM.1
        · have ha8 : a2 < 8 := by omega
          by_cases he : a2 = a ∧ k2 = k
          · obtain ⟨rfl, rfl⟩ := he
            rcases (show s = 0 ∨ s = 1 by omega) with rfl | rfl
            · constructor
              · rw [qu_c (by omega), qu_k (fun z => by have := (ix_inj (by omega) (by omega) (by omega) (by omega) z).1; omega), qu_c (by omega), qu_s]
              · rw [qu_k (fun z => by have := (ix_inj (by omega) (by omega) (by omega) (by omega) z).1; omega), qu_c (by omega), qu_s]
            · constructor
              · rw [qu_c (by omega), qu_s]
              · rw [qu_s]
          · have hne : ∀ s2, ix s a2 k2 ≠ ix s2 a k := fun s2 z => he (by have := ix_inj (by omega) (by omega) (by omega) (by omega) z; exact ⟨this.2.1, this.2.2⟩)
            have := hM.2.1 s a2 k2 hs h2 (by omega)
            constructor
            · rw [qu_c (by omega), qu_k (hne 1), qu_c (by omega), qu_k (hne 0)]; exact this.1
            · rw [qu_k (hne 1), qu_c (by omega), qu_k (hne 0), qu_c (by omega)]; exact this.2
        · rw [qu_c h3, qu_c h2, qu_c h3, qu_c h2]; exact hM.2.2 c b h1 h2 h3
    exact hin n 0 M (by omega) ⟨hM.1, fun s a2 k2 hs h2 h3 => hM.2.1 s a2 k2 hs (by omega) h2, hM.2.2⟩
theorem s_Lists_begin {L : qm_L} {o : Nat}  {d : Nat} {K : qm_K} {M : qm_M} {m : Int} (hL : qLs L o) (hp0 : 1 ≤ m ∧ m ≤ 8) (hK : ∀ (M2 : qm_M), (M2 o 2 = m ∧ (∀ s a k : Nat, s < 2 → (a : Int) < m → (k : Int) < m → M2 (o + 2) (ix s a k) = (k : Int) ∧ M2 (o + 4) (ix s a k) = (k : Int)) ∧ ∀ c b : Nat, c ≠ o → c ≠ (o + 2) → c ≠ (o + 4) → M2 c b = M c b) → K (.inl 0) L M2) : qm_Runs qm_P (d + 3) 21 [(.inr (some o)), (.inl m)] L M K := by
  refine en_Lists_begin  hL ?_
  obtain ⟨n, rfl⟩ : ∃ n : Nat, m = (n : Int) := ⟨m.toNat, by omega⟩
  exact lp_Lists_begin (M0 := M) hL (by omega) hK n 0 _ (by omega) ⟨qu_s, fun s a2 k hs h => absurd h (Nat.not_lt_zero _), fun c b h1 h2 h3 => qu_c h1⟩
def at_Lists_saveTo_2 (L : qm_L) (o r N : Nat) (d : Nat) (K : qm_K) (M : qm_M) (x2 x3 : Int) : Prop := qm_TT qi_35 (qm_Runs qm_P (d + 1)) K 2 [some (.inr (some o)), some (.inr (some r)), some (.inl x2), some (.inl x3)] [] L M 0 0
theorem rg_Lists_saveTo_2 {L : qm_L} {o r N : Nat}  {d : Nat} {K : qm_K} {M : qm_M} {x2 x3 : Int} (hL : qLs L o) (hR : qRow L r N) (h :
    (128 ≤ x3 →
     K (.inl 0) L M) ∧
    (¬ 128 ≤ x3 →
     qm_R (x2 + x3) ∧
     qm_R (x3 + 1) ∧
     at_Lists_saveTo_2 L o r N d K (sRow M (r + 1) N (x2 + x3) (gRow M (o + 2) 128 x3)) x2 ((x3 + 1)))) : at_Lists_saveTo_2 L o r N d K M x2 x3 :=
  qm_wp_TT [2] 18 (And.intro (fun q1 => (h.1 q1)) (fun q2 => And.intro (h.2 q2).1 (Exists.intro (o + 1) (And.intro hL.1 (And.intro (qm_FO hL.2.2.2.1.1) (s_Row_get (d := d + 0) hL.2.2.2.1  (And.intro (qm_FO hR.1) (s_Row_set (d := d + 0) hR  (And.intro (h.2 q2).2.1 ((h.2 q2).2.2))))))))))
theorem en_Lists_saveTo {L : qm_L} {o r N : Nat}  {d : Nat} {K : qm_K} {M : qm_M} {b : Int} (hL : qLs L o) (hR : qRow L r N) (h :
    at_Lists_saveTo_2 L o r N d K M b 0) : qm_Runs qm_P (d + 2) 35 [(.inr (some o)), (.inr (some r)), (.inl b)] L M K :=
  And.intro (Nat.le_of_ble_eq_true rfl) (show qm_TT qi_35 (qm_Runs qm_P (d + 1)) K 0 [some (.inr (some o)), some (.inr (some r)), some (.inl b), none] [] L M 0 0 from qm_wp_TT [2] 18 (h))
theorem lp_Lists_saveTo {L : qm_L} {o r N d : Nat} {K : qm_K} {M0 : qm_M} {b : Nat} (hL : qLs L o) (hR : qRow L r N) (hb : b + 128 ≤ N) (hne : r + 1 ≠ o + 2) (hK : K (.inl 0) L (svRow M0 (r + 1) b (o + 2))) :
    ∀ (j i : Nat) (M : qm_M), i + j = 128 → (M = fun a x => if a = r + 1 then (if b ≤ x ∧ x < b + i then M0 (o + 2) (x - b) else M0 a x) else M0 a x) → at_Lists_saveTo_2 L o r N d K M (b : Int) (i : Int)
  | 0, i, M, hi, hM => by
    refine rg_Lists_saveTo_2 hL hR (And.intro (fun _ => qk_eqM hK rfl ?_) (fun h => absurd h (by omega)))
    rw [hM, show i = 128 by omega]; rfl
  | j + 1, i, M, hi, hM => by
    have hN := hR.2.2
    refine rg_Lists_saveTo_2 hL hR (And.intro (fun h => absurd h (by omega)) (fun _ => And.intro (by unfold qm_R; omega) (And.intro (by unfold qm_R; omega) ?_)))
    rw [gRow_in (by omega), show ((b : Int) + (i : Int)) = ((b + i : Nat) : Int) from rfl, sRow_in (by omega)]
    refine lp_Lists_saveTo hL hR hb hne hK j (i + 1) _ (by omega) ?_
    have h1 : M (o + 2) i = M0 (o + 2) i := by rw [hM]; simp only; rw [if_neg (Ne.symm hne)]
    rw [h1, hM]
    funext a x
    unfold qm_u
    dsimp only
    by_cases ha : a = r + 1
    · rw [if_pos ha, if_pos ha, if_pos ha]
      by_cases hx : x = b + i
      · rw [if_pos hx, if_pos (by omega), hx]; congr 1; omega
      · rw [if_neg hx]
        by_cases hx2 : b ≤ x ∧ x < b + i
        · rw [if_pos hx2, if_pos (by omega)]
        · rw [if_neg hx2, if_neg (by omega)]
    · rw [if_neg ha, if_neg ha, if_neg ha]
theorem s_Lists_saveTo {L : qm_L} {o r N : Nat}  {d : Nat} {K : qm_K} {M : qm_M} {b : Int} (hL : qLs L o) (hR : qRow L r N) (hp0 : 0 ≤ b ∧ b + 128 ≤ (N : Int)) (hp1 : (r + 1) ≠ (o + 2)) (hK : K (.inl 0) L (svRow M (r + 1) (Int.toNat b) (o + 2))) : qm_Runs qm_P (d + 2) 35 [(.inr (some o)), (.inr (some r)), (.inl b)] L M K := by
  refine en_Lists_saveTo  hL hR ?_
  obtain ⟨b', rfl⟩ : ∃ b' : Nat, b = (b' : Int) := ⟨b.toNat, by omega⟩
  refine lp_Lists_saveTo (M0 := M) (b := b') hL hR (by omega) hp1 hK 128 0 M (by omega) ?_
  funext a x
  split
  · rw [if_neg (by omega)]
  · rfl
def at_Lists_loadFrom_2 (L : qm_L) (o r N : Nat) (d : Nat) (K : qm_K) (M : qm_M) (x2 x3 : Int) : Prop := ∀ (d4 : Option qm_V), qm_TT qi_36 (qm_Runs qm_P (d + 2)) K 2 [some (.inr (some o)), some (.inr (some r)), some (.inl x2), some (.inl x3), d4] [] L M 0 0
def at_Lists_loadFrom_32 (L : qm_L) (o r N : Nat) (d : Nat) (K : qm_K) (M : qm_M) (x3 : Int) : Prop := ∀ (d1 d2 d4 : Option qm_V), qm_TT qi_36 (qm_Runs qm_P (d + 2)) K 32 [some (.inr (some o)), d1, d2, some (.inl x3), d4] [] L M 0 0
def at_Lists_loadFrom_43 (L : qm_L) (o r N : Nat) (d : Nat) (K : qm_K) (M : qm_M) (x3 x4 : Int) : Prop := ∀ (d1 d2 : Option qm_V), qm_TT qi_36 (qm_Runs qm_P (d + 2)) K 43 [some (.inr (some o)), d1, d2, some (.inl x3), some (.inl x4)] [] L M 0 0
theorem rg_Lists_loadFrom_2 {L : qm_L} {o r N : Nat} {n : Nat} {w p : Nat → Nat} {d : Nat} {K : qm_K} {M : qm_M} {x2 x3 : Int} (hL : qLs L o) (hR : qRow L r N) (h :
    (128 ≤ x3 →
     at_Lists_loadFrom_32 L o r N d K M 0) ∧
    (¬ 128 ≤ x3 →
     qm_R (x2 + x3) ∧
     qm_R (x3 + 1) ∧
     at_Lists_loadFrom_2 L o r N d K (sRow M (o + 2) 128 x3 (gRow M (r + 1) N (x2 + x3))) x2 ((x3 + 1)))) : at_Lists_loadFrom_2 L o r N d K M x2 x3 :=
  fun d4 => qm_wp_TT [2, 32, 43] 30 (And.intro (fun q1 => (h.1 q1) (some (.inr (some r))) (some (.inl x2)) (d4)) (fun q2 => Exists.intro (o + 1) (And.intro hL.1 (And.intro (h.2 q2).1 (And.intro (qm_FO hR.1) (s_Row_get (d := d + 1) hR  (And.intro (qm_FO hL.2.2.2.1.1) (s_Row_set (d := d + 1) hL.2.2.2.1  (And.intro (h.2 q2).2.1 ((h.2 q2).2.2 (d4)))))))))))
theorem rg_Lists_loadFrom_32 {L : qm_L} {o r N : Nat} {n : Nat} {w p : Nat → Nat} {d : Nat} {K : qm_K} {M : qm_M} {x3 : Int} (hL : qLs L o) (hR : qRow L r N) (h :
    ((M o 2) ≤ x3 →
     K (.inl 0) L M) ∧
    (¬ (M o 2) ≤ x3 →
     at_Lists_loadFrom_43 L o r N d K M x3 0)) : at_Lists_loadFrom_32 L o r N d K M x3 :=
  fun d1 d2 d4 => qm_wp_TT [2, 32, 43] 30 (And.intro hL.2.2.1 (And.intro (fun q3 => (h.1 q3)) (fun q4 => (h.2 q4) (d1) (d2))))
theorem rg_Lists_loadFrom_43 {L : qm_L} {o r N : Nat} {n : Nat} {w p : Nat → Nat} {d : Nat} {K : qm_K} {M : qm_M} {x3 x4 : Int} (hL : qLs L o) (hR : qRow L r N) (h :
    ((M o 2) ≤ x4 →
     qm_R (x3 + 1) ∧
     at_Lists_loadFrom_32 L o r N d K M ((x3 + 1))) ∧
    (¬ (M o 2) ≤ x4 →
     qm_R (x4 + 1) ∧
     at_Lists_loadFrom_43 L o r N d K (sPut (sPut M o 0 x3 x4 (gWho M o 0 x3 x4)) o 1 x3 x4 (gWho (sPut M o 0 x3 x4 (gWho M o 0 x3 x4)) o 1 x3 x4)) x3 ((x4 + 1)))) : at_Lists_loadFrom_43 L o r N d K M x3 x4 :=
  fun d1 d2 => qm_wp_TT [2, 32, 43] 30 (And.intro hL.2.2.1 (And.intro (fun q5 => And.intro (h.1 q5).1 ((h.1 q5).2 (d1) (d2) (some (.inl x4)))) (fun q6 => And.intro (qm_FO hL.1) (s_Lists_who (d := d + 0) hL  (And.intro (qm_FO hL.1) (s_Lists_put (d := d + 0) hL  (And.intro (qm_FO hL.1) (s_Lists_who (d := d + 0) hL  (And.intro (qm_FO hL.1) (s_Lists_put (d := d + 0) hL  (And.intro (h.2 q6).1 ((h.2 q6).2 (d1) (d2)))))))))))))
theorem en_Lists_loadFrom {L : qm_L} {o r N : Nat} {n : Nat} {w p : Nat → Nat} {d : Nat} {K : qm_K} {M : qm_M} {b : Int} (hL : qLs L o) (hR : qRow L r N) (h :
    at_Lists_loadFrom_2 L o r N d K M b 0) : qm_Runs qm_P (d + 3) 36 [(.inr (some o)), (.inr (some r)), (.inl b)] L M K :=
  And.intro (Nat.le_of_ble_eq_true rfl) (show qm_TT qi_36 (qm_Runs qm_P (d + 2)) K 0 [some (.inr (some o)), some (.inr (some r)), some (.inl b), none, none] [] L M 0 0 from qm_wp_TT [2, 32, 43] 30 (h (none)))
theorem lp_Lists_loadFrom1 {L : qm_L} {o r N d : Nat} {K : qm_K} {M0 : qm_M} {b : Nat} (hL : qLs L o) (hR : qRow L r N) (hb : b + 128 ≤ N) (hne : r + 1 ≠ o + 2) (hK : ∀ M : qm_M, (∀ x, x < 128 → M (o + 2) x = M0 (r + 1) (b + x)) → (∀ c x, c ≠ o + 2 → M c x = M0 c x) → at_Lists_loadFrom_32 L o r N d K M 0) :
    ∀ (j i : Nat) (M : qm_M), i + j = 128 → (∀ x, x < i → M (o + 2) x = M0 (r + 1) (b + x)) → (∀ c x, c ≠ o + 2 → M c x = M0 c x) → at_Lists_loadFrom_2 L o r N d K M (b : Int) (i : Int)
  | 0, i, M, hi, h1, h2 => fun d4 => by
    refine rg_Lists_loadFrom_2 (n := 0) (w := id) (p := id) hL hR (And.intro (fun _ => hK M (fun x hx => h1 x (by omega)) h2) (fun h => absurd h (by omega))) d4
  | j + 1, i, M, hi, h1, h2 => by
    have hN := hR.2.2
    refine rg_Lists_loadFrom_2 (n := 0) (w := id) (p := id) hL hR (And.intro (fun h => absurd h (by omega)) (fun _ => And.intro (by unfold qm_R; omega) (And.intro (by unfold qm_R; omega) ?_)))
    rw [show ((b : Int) + (i : Int)) = ((b + i : Nat) : Int) from rfl, gRow_in (by omega), sRow_in (by omega)]
    refine lp_Lists_loadFrom1 hL hR hb hne hK j (i + 1) _ (by omega) (fun x hx => ?_) (fun c x hc => ?_)
    · by_cases hxi : x = i
      · rw [hxi, qu_s, h2 _ _ hne]
      · rw [qu_k hxi]; exact h1 x (by omega)
    · rw [qu_c hc]; exact h2 c x hc
theorem lp_Lists_loadFrom2 {L : qm_L} {o r N d : Nat} {K : qm_K} {M0 : qm_M} {n : Nat} {w p : Nat → Nat} (hL : qLs L o) (hR : qRow L r N) (hI : qInv n w p) (hK : ∀ M2 : qm_M, (qLR M2 o n w p ∧ ∀ c b : Nat, c ≠ o + 2 → c ≠ o + 4 → M2 c b = M0 c b) → K (.inl 0) L M2) :
    ∀ (j a : Nat) (M : qm_M), a + j = n → M o 2 = (n : Int) → qAt M (o + 2) n w → (∀ s a2 k, s < 2 → a2 < a → k < n → M (o + 4) (ix s a2 (w (ix s a2 k))) = (k : Int)) → (∀ c b : Nat, c ≠ o + 2 → c ≠ o + 4 → M c b = M0 c b) → at_Lists_loadFrom_32 L o r N d K M (a : Int)
  | 0, a, M, ha, h1, h2, h3, h4 => by
    refine rg_Lists_loadFrom_32 (n := n) (w := w) (p := p) hL hR (And.intro (fun _ => hK M ⟨⟨h1, h2, fun s a2 x hs ha2 hx => ?_, hI⟩, h4⟩) (fun h => absurd h (by rw [h1]; omega)))
    have := hI.2.2 s a2 hs ha2 x hx
    have h5 := h3 s a2 (p (ix s a2 x)) hs (by omega) this.2.2.1
    rw [this.2.2.2] at h5
    exact h5
  | j + 1, a, M, ha, h1, h2, h3, h4 => by
    have h8 := hI.2.1
    refine rg_Lists_loadFrom_32 (n := n) (w := w) (p := p) hL hR (And.intro (fun h => absurd h (by rw [h1]; omega)) (fun _ => ?_))
    have hin : ∀ (i k : Nat) (M : qm_M), k + i = n → M o 2 = (n : Int) → qAt M (o + 2) n w → (∀ s a2 k2, s < 2 → k2 < n → (a2 < a ∨ (a2 = a ∧ k2 < k)) → M (o + 4) (ix s a2 (w (ix s a2 k2))) = (k2 : Int)) → (∀ c b : Nat, c ≠ o + 2 → c ≠ o + 4 → M c b = M0 c b) → at_Lists_loadFrom_43 L o r N d K M (a : Int) (k : Int) := by
      intro i
      induction i with
      | zero =>
        intro k M hk h1 h2 h3 h4
        refine rg_Lists_loadFrom_43 (n := n) (w := w) (p := p) hL hR (And.intro (fun _ => And.intro (by unfold qm_R; omega) ?_) (fun h => absurd h (by rw [h1]; omega)))
        exact lp_Lists_loadFrom2 hL hR hI hK j (a + 1) M (by omega) h1 h2 (fun s a2 k2 hs h5 h6 => h3 s a2 k2 hs h6 (by omega)) h4
      | succ i ih =>
        intro k M hk h1 h2 h3 h4
        refine rg_Lists_loadFrom_43 (n := n) (w := w) (p := p) hL hR (And.intro (fun h => absurd h (by rw [h1]; omega)) (fun _ => And.intro (by unfold qm_R; omega) ?_))
        have g : ∀ (M : qm_M) (s : Nat), s < 2 → M (o + 2) (ix s a k) = (w (ix s a k) : Int) → gWho M o (s : Int) (a : Int) (k : Int) = (w (ix s a k) : Int) := fun M s hs h => by
          unfold gWho
          rw [cell3_ix hs (by omega) (by omega), gRow_in (ix_lt hs (by omega) (by omega))]
          exact h
        have i0 := (hI.2.2 0 a (by omega) (by omega) k (by omega))
        have i1 := (hI.2.2 1 a (by omega) (by omega) k (by omega))
        rw [show gWho M o 0 (a : Int) (k : Int) = _ from g M 0 (by omega) (h2 0 a k (by omega) (by omega) (by omega))]
        rw [show sPut M o 0 (a : Int) (k : Int) (w (ix 0 a k) : Int) = _ from sPut_n (s := 0) (by omega) (by omega) (by omega) (by omega)]
        rw [show gWho _ o 1 (a : Int) (k : Int) = _ from g _ 1 (by omega) (by rw [qu_c (by omega), qu_k (fun z => by have := (ix_inj (by omega) (by omega) (by omega) (by omega) z).1; omega)]; exact h2 1 a k (by omega) (by omega) (by omega))]
        rw [show ∀ M', sPut M' o 1 (a : Int) (k : Int) (w (ix 1 a k) : Int) = _ from fun M' => sPut_n (s := 1) (by omega) (by omega) (by omega) (by omega)]
        refine ih (k + 1) _ (by omega) ?_ (fun s a2 k2 hs ha2 hk2 => ?_) (fun s a2 k2 hs h6 h5 => ?_) (fun c b h5 h6 => ?_)
        · rw [qu_c (by omega), qu_c (by omega), qu_c (by omega), qu_c (by omega)]; exact h1
        · rw [qu_c (by omega)]
          by_cases e1 : ix s a2 k2 = ix 1 a k
          · rw [e1, qu_s]
          · rw [qu_k e1, qu_c (by omega)]
            by_cases e0 : ix s a2 k2 = ix 0 a k
            · rw [e0, qu_s]
            · rw [qu_k e0]; exact h2 s a2 k2 hs ha2 hk2
        · have ia := hI.2.2 s a2 hs (by omega) k2 h6
          have hget : ∀ s3, s3 < 2 → ix s a2 (w (ix s a2 k2)) = ix s3 a (w (ix s3 a k)) → s = s3 ∧ a2 = a ∧ k2 = k := fun s3 hs3 z => by
            have i3 := hI.2.2 s3 a hs3 (by omega) k (by omega)
            obtain ⟨z1, z2, z3⟩ := ix_inj (by omega) (by omega) (by omega) (by omega) z
            subst z1; subst z2
            have := i3.2.1
            rw [← z3, ia.2.1] at this
            exact ⟨rfl, rfl, this⟩
          by_cases e1 : ix s a2 (w (ix s a2 k2)) = ix 1 a (w (ix 1 a k))
          · obtain ⟨rfl, rfl, rfl⟩ := hget 1 (by omega) e1
            rw [qu_s]
          · rw [qu_k e1, qu_c (by omega)]
            by_cases e0 : ix s a2 (w (ix s a2 k2)) = ix 0 a (w (ix 0 a k))
            · obtain ⟨rfl, rfl, rfl⟩ := hget 0 (by omega) e0
              rw [qu_s]
            · rw [qu_k e0, qu_c (by omega)]
              refine h3 s a2 k2 hs h6 ?_
              rcases h5 with h5 | ⟨h5, h7⟩
              · exact Or.inl h5
              · right
                refine ⟨h5, ?_⟩
                rcases (show k2 < k ∨ k2 = k by omega) with h9 | h9
                · exact h9
                · exfalso
                  subst h5; subst h9
                  rcases (show s = 0 ∨ s = 1 by omega) with rfl | rfl
                  · exact e0 rfl
                  · exact e1 rfl
        · rw [qu_c h6, qu_c h5, qu_c h6, qu_c h5]; exact h4 c b h5 h6
    exact hin n 0 M (by omega) h1 h2 (fun s a2 k2 hs h6 h5 => h3 s a2 k2 hs (by omega) h6) h4
theorem s_Lists_loadFrom {L : qm_L} {o r N : Nat} {n : Nat} {w p : Nat → Nat} {d : Nat} {K : qm_K} {M : qm_M} {b : Int} (hL : qLs L o) (hR : qRow L r N) (hp0 : 0 ≤ b ∧ b + 128 ≤ (N : Int)) (hp1 : (r + 1) ≠ (o + 2) ∧ (r + 1) ≠ (o + 4)) (hp2 : M o 2 = (n : Int)) (hp3 : qInv n w p) (hp4 : ∀ s a k, s < 2 → a < n → k < n → M (r + 1) (Int.toNat b + ix s a k) = (w (ix s a k) : Int)) (hK : ∀ (M2 : qm_M), (qLR M2 o n w p ∧ ∀ c b : Nat, c ≠ (o + 2) → c ≠ (o + 4) → M2 c b = M c b) → K (.inl 0) L M2) : qm_Runs qm_P (d + 3) 36 [(.inr (some o)), (.inr (some r)), (.inl b)] L M K := by
  refine en_Lists_loadFrom (n := n) (w := w) (p := p) hL hR ?_
  obtain ⟨b', rfl⟩ : ∃ b' : Nat, b = (b' : Int) := ⟨b.toNat, by omega⟩
  simp only [Int.toNat_natCast] at hp4
  have h8 := hp3.2.1
  refine lp_Lists_loadFrom1 (M0 := M) (b := b') hL hR (by omega) hp1.1 (fun M1 h1 h2 => ?_) 128 0 M (by omega) (fun x hx => absurd hx (Nat.not_lt_zero _)) (fun _ _ _ => rfl)
  refine lp_Lists_loadFrom2 (M0 := M) hL hR hp3 hK n 0 M1 (by omega) (by rw [h2 _ _ (by omega)]; exact hp2) (fun s a k hs ha hk => ?_) (fun s a k hs ha => absurd ha (Nat.not_lt_zero _)) (fun c x h3 h4 => h2 c x h3)
  rw [h1 _ (ix_lt hs (by omega) (by omega))]
  exact hp4 s a k hs ha hk
def at_Lists_costOf_11 (L : qm_L) (o q : Nat) (d : Nat) (K : qm_K) (M : qm_M) (x2 x3 x4 x5 x6 : Int) : Prop := ∀ (d7 d8 d9 : Option qm_V), qm_TT qi_34 (qm_Runs qm_P (d + 2)) K 11 [some (.inr (some o)), some (.inr (some q)), some (.inl x2), some (.inl x3), some (.inl x4), some (.inl x5), some (.inl x6), d7, d8, d9] [] L M 0 0
theorem rg_Lists_costOf_11 {L : qm_L} {o q : Nat} {n : Nat} {w p u v : Nat → Nat} {d : Nat} {K : qm_K} {M : qm_M} {x2 x3 x4 x5 x6 : Int} (hL : qLs L o) (hP : qPr L q) (h :
    ((M o 2) ≤ x6 →
     (x2 = 0 →
      K (.inl x3) L M) ∧
     (x2 ≠ 0 →
      (x2 = 1 →
       K (.inl x4) L M) ∧
      (x2 ≠ 1 →
       (x2 = 2 →
        qm_R (x3 + x4) ∧
        K (.inl ((x3 + x4))) L M) ∧
       (x2 ≠ 2 →
        (x2 = 3 →
         qm_R (x3 - x4) ∧
         qm_R (-(x3 - x4)) ∧
         K (.inl ((Int.ofNat (Int.natAbs (x3 - x4))))) L M) ∧
        (x2 ≠ 3 →
         K (.inl x5) L M))))) ∧
    (¬ (M o 2) ≤ x6 →
     qm_R (x3 + (gPl M o 0 x6 (gPar M q 0 x6))) ∧
     qm_R (x4 + (gPl M o 1 (gPar M q 0 x6) x6)) ∧
     qm_R (x6 + 1) ∧
     at_Lists_costOf_11 L o q d K M x2 ((x3 + (gPl M o 0 x6 (gPar M q 0 x6)))) ((x4 + (gPl M o 1 (gPar M q 0 x6) x6))) ((max x5 (max (gPl M o 0 x6 (gPar M q 0 x6)) (gPl M o 1 (gPar M q 0 x6) x6)))) ((x6 + 1)))) : at_Lists_costOf_11 L o q d K M x2 x3 x4 x5 x6 :=
  fun d7 d8 d9 => qm_wp_TT [11] 41 (And.intro hL.2.2.1 (And.intro (fun q1 => And.intro (fun q3 => ((h.1 q1).1 q3)) (fun q4 => And.intro (fun q5 => (((h.1 q1).2 q4).1 q5)) (fun q6 => And.intro (fun q7 => And.intro ((((h.1 q1).2 q4).2 q6).1 q7).1 (((((h.1 q1).2 q4).2 q6).1 q7).2)) (fun q8 => And.intro (fun q9 => And.intro (((((h.1 q1).2 q4).2 q6).2 q8).1 q9).1 (And.intro (((((h.1 q1).2 q4).2 q6).2 q8).1 q9).2.1 ((((((h.1 q1).2 q4).2 q6).2 q8).1 q9).2.2))) (fun q10 => (((((h.1 q1).2 q4).2 q6).2 q8).2 q10)))))) (fun q2 => And.intro (qm_FO hP.1) (s_Pair_partner (d := d + 0) hP  (And.intro (qm_FO hL.1) (s_Lists_place (d := d + 0) hL  (And.intro (qm_FO hL.1) (s_Lists_place (d := d + 0) hL  (And.intro (h.2 q2).1 (And.intro (h.2 q2).2.1 (And.intro (h.2 q2).2.2.1 ((h.2 q2).2.2.2 (some (.inl ((gPar M q 0 x6)))) (some (.inl ((gPl M o 0 x6 (gPar M q 0 x6))))) (some (.inl ((gPl M o 1 (gPar M q 0 x6) x6))))))))))))))))
theorem en_Lists_costOf {L : qm_L} {o q : Nat} {n : Nat} {w p u v : Nat → Nat} {d : Nat} {K : qm_K} {M : qm_M} {c : Int} (hL : qLs L o) (hP : qPr L q) (h :
    at_Lists_costOf_11 L o q d K M c 0 0 0 0) : qm_Runs qm_P (d + 3) 34 [(.inr (some o)), (.inr (some q)), (.inl c)] L M K :=
  And.intro (Nat.le_of_ble_eq_true rfl) (show qm_TT qi_34 (qm_Runs qm_P (d + 2)) K 0 [some (.inr (some o)), some (.inr (some q)), some (.inl c), none, none, none, none, none, none, none] [] L M 0 0 from qm_wp_TT [11] 41 (h (none) (none) (none)))
theorem lp_Lists_costOf {L : qm_L} {o q n d : Nat} {w p u v : Nat → Nat} {K : qm_K} {M : qm_M} {c : Int} (hL : qLs L o) (hP : qPr L q) (hp0 : qLR M o n w p) (hp1 : qPR M q n u v) (hp2 : qTot n u) (hK : K (.inl (csF n p u c)) L M) :
    ∀ (j a : Nat), a + j = n → at_Lists_costOf_11 L o q d K M c (cs0 a p u : Int) (cs1 a p u : Int) (csm a p u : Int) (a : Int)
  | 0, a, ha => by
    have h8 := hp0.2.2.2.2.1
    have hI := hp0.2.2.2.2.2
    have b0 := sumN_le (f := fun a => p (ix 0 a (u a))) (b := 8) (n := a) (fun j hj => by have := (hI 0 j (by omega) (by omega) (u j) (hp2 j (by omega))).2.2.1; omega)
    have b1 := sumN_le (f := fun a => p (ix 1 (u a) a)) (b := 8) (n := a) (fun j hj => by have := (hI 1 (u j) (by omega) (hp2 j (by omega)) j (by omega)).2.2.1; omega)
    have ha : a = n := by omega
    subst ha
    refine rg_Lists_costOf_11 (n := a) (w := w) (p := p) (u := u) (v := v) hL hP (And.intro (fun _ => ?_) (fun h => absurd h (by rw [hp0.1]; omega)))
    unfold csF at hK
    refine And.intro (fun h0 => ?_) (fun h0 => And.intro (fun h1 => ?_) (fun h1 => And.intro (fun h2 => ?_) (fun h2 => And.intro (fun h3 => ?_) (fun h3 => ?_))))
    · rw [if_pos h0] at hK; exact hK
    · rw [if_neg h0, if_pos h1] at hK; exact hK
    · rw [if_neg h0, if_neg h1, if_pos h2] at hK
      refine And.intro ?_ hK
      unfold cs0 cs1 qm_R; omega
    · rw [if_neg h0, if_neg h1, if_neg h2, if_pos h3] at hK
      refine And.intro ?_ (And.intro ?_ hK)
      · unfold cs0 cs1 qm_R; omega
      · unfold cs0 cs1 qm_R; omega
    · rw [if_neg h0, if_neg h1, if_neg h2, if_neg h3] at hK; exact hK
  | j + 1, a, ha => by
    have h8 := hp0.2.2.2.2.1
    have hI := hp0.2.2.2.2.2
    have b0 := sumN_le (f := fun a => p (ix 0 a (u a))) (b := 8) (n := a) (fun j hj => by have := (hI 0 j (by omega) (by omega) (u j) (hp2 j (by omega))).2.2.1; omega)
    have b1 := sumN_le (f := fun a => p (ix 1 (u a) a)) (b := 8) (n := a) (fun j hj => by have := (hI 1 (u j) (by omega) (hp2 j (by omega)) j (by omega)).2.2.1; omega)
    have hu := hp2 a (by omega)
    have c0 := (hI 0 a (by omega) (by omega) (u a) hu).2.2.1
    have c1 := (hI 1 (u a) (by omega) hu a (by omega)).2.2.1
    refine rg_Lists_costOf_11 (n := n) (w := w) (p := p) (u := u) (v := v) hL hP (And.intro (fun h => absurd h (by rw [hp0.1]; omega)) (fun _ => ?_))
    rw [gPar_l hp1 h8 (by omega), cz_n (by omega), show gPl M o 0 (a : Int) (u a : Int) = _ from gPl_n (s := 0) hp0 (by omega) (by omega) hu, show gPl M o 1 (u a : Int) (a : Int) = _ from gPl_n (s := 1) hp0 (by omega) hu (by omega)]
    have hm : (max (csm a p u : Int) (max (p (ix 0 a (u a)) : Int) (p (ix 1 (u a) a) : Int))) = ((csm (a + 1) p u : Nat) : Int) := by
      show _ = ((max (csm a p u) (max (p (ix 0 a (u a))) (p (ix 1 (u a) a))) : Nat) : Int)
      omega
    rw [hm]
    refine And.intro ?_ (And.intro ?_ (And.intro (by unfold qm_R; omega) ?_))
    · unfold cs0 qm_R; omega
    · unfold cs1 qm_R; omega
    · exact lp_Lists_costOf hL hP hp0 hp1 hp2 hK j (a + 1) (by omega)
theorem s_Lists_costOf {L : qm_L} {o q : Nat} {n : Nat} {w p u v : Nat → Nat} {d : Nat} {K : qm_K} {M : qm_M} {c : Int} (hL : qLs L o) (hP : qPr L q) (hp0 : qLR M o n w p) (hp1 : qPR M q n u v) (hp2 : qTot n u) (hK : K (.inl ((csF n p u c))) L M) : qm_Runs qm_P (d + 3) 34 [(.inr (some o)), (.inr (some q)), (.inl c)] L M K := by
  refine en_Lists_costOf (n := n) (w := w) (p := p) (u := u) (v := v) hL hP ?_
  exact lp_Lists_costOf hL hP hp0 hp1 hp2 hK n 0 (by omega)
