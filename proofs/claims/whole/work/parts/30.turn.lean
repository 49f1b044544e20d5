def kpS (M : qm_M) (n : Nat) (w p : Nat → Nat) (t k : Nat) : Prop := (0 < k → M 31 t = (k : Int)) ∧ ∀ j, j < k → M 27 (8 * t + j) = (rle n w p t j : Int) ∧ M 29 (8 * t + j) = (rri n w p t j : Int)
/-- all but the row of a turn stays -/
def kpF (M M0 : qm_M) (t : Nat) : Prop := (∀ c, c ≠ 27 → c ≠ 29 → c ≠ 31 → M c = M0 c) ∧ (∀ x, x / 8 ≠ t → M 27 x = M0 27 x ∧ M 29 x = M0 29 x) ∧ ∀ x, x ≠ t → M 31 x = M0 31 x
def at_Turns_keepPairs_5 (T : qm_L) (d : Nat) (K : qm_K) (M : qm_M) (x1 x2 x3 x4 : Int) : Prop := qm_TT qi_89 (qm_Runs qm_P (d + 2)) K 5 [some (.inr (some 25)), some (.inl x1), some (.inl x2), some (.inl x3), some (.inl x4)] [] (qL T) M 0 0
theorem rg_Turns_keepPairs_5 {T : qm_L}  {d : Nat} {K : qm_K} {M : qm_M} {x1 x2 x3 x4 : Int} (h :
    (8 ≤ x4 →
     K (.inl 0) (qL T) M) ∧
    (¬ 8 ≤ x4 →
     qm_R (x1 * 8) ∧
     qm_R ((x1 * 8) + x4) ∧
     ∀ (M1 : qm_M), M1 = (sRow M 27 224 ((x1 * 8) + x4) x3) →
     qm_R (x1 * 8) ∧
     qm_R ((x1 * 8) + x4) ∧
     ∀ (y2 : Int), y2 = (gPar M1 38 0 x3) →
     ∀ (M3 : qm_M), M3 = (sRow M1 29 224 ((x1 * 8) + x4) y2) →
     qm_R (x4 + 1) ∧
     ∀ (M4 : qm_M), M4 = (sRow M3 31 28 x1 (x4 + 1)) →
     ∀ (y5 : Int), y5 = (gRow M4 42 8 x3) →
     (y5 ≠ x2 →
      qm_R (x4 + 1) ∧
      at_Turns_keepPairs_5 T d K M4 x1 x2 y5 ((x4 + 1))) ∧
     (¬ y5 ≠ x2 →
      K (.inl 0) (qL T) M4))) : at_Turns_keepPairs_5 T d K M x1 x2 x3 x4 :=
  qm_wp_TT [5] 46 (And.intro (fun q6 => (h.1 q6)) (fun q7 => Exists.intro 26 (And.intro (lf_25_0 T) (And.intro (h.2 q7).1 (And.intro (h.2 q7).2.1 (And.intro (lo_26 T) (s_Row_set (d := d + 1) (lRow_26 T)  (Exists.intro 28 (And.intro (lf_25_1 T) (And.intro ((h.2 q7).2.2 _ rfl).1 (And.intro ((h.2 q7).2.2 _ rfl).2.1 (Exists.intro 38 (And.intro (lf_25_7 T) (And.intro (lo_38 T) (s_Pair_partner (d := d + 0) (lPr_38 T)  (And.intro (lo_28 T) (s_Row_set (d := d + 1) (lRow_28 T)  (Exists.intro 30 (And.intro (lf_25_2 T) (And.intro ((((h.2 q7).2.2 _ rfl).2.2 _ rfl) _ rfl).1 (And.intro (lo_30 T) (s_Row_set (d := d + 1) (lRow_30 T)  (Exists.intro 41 (And.intro (lf_25_8 T) (And.intro (lo_41 T) (s_Row_get (d := d + 1) (lRow_41 T)  (And.intro (fun q8 => And.intro (((((((h.2 q7).2.2 _ rfl).2.2 _ rfl) _ rfl).2 _ rfl) _ rfl).1 q8).1 ((((((((h.2 q7).2.2 _ rfl).2.2 _ rfl) _ rfl).2 _ rfl) _ rfl).1 q8).2)) (fun q9 => (((((((h.2 q7).2.2 _ rfl).2.2 _ rfl) _ rfl).2 _ rfl) _ rfl).2 q9)))))))))))))))))))))))))))))
theorem en_Turns_keepPairs {T : qm_L}  {d : Nat} {K : qm_K} {M : qm_M} {t : Int} {l : Int} (h :
    at_Turns_keepPairs_5 T d K M t l l 0) : qm_Runs qm_P (d + 3) 89 [(.inr (some 25)), (.inl t), (.inl l)] (qL T) M K :=
  And.intro (Nat.le_of_ble_eq_true rfl) (show qm_TT qi_89 (qm_Runs qm_P (d + 2)) K 0 [some (.inr (some 25)), some (.inl t), some (.inl l), none, none] [] (qL T) M 0 0 from qm_wp_TT [5] 46 (h))
theorem lp_Turns_keepPairs {T : qm_L} {d : Nat} {K : qm_K} {M0 : qm_M} {n t : Nat} {w p : Nat → Nat} (hI : qInv n w p) (ht : t < 28) (hl : rL n w p t < n) (hp : qPR M0 38 n (rU n w p t) (rV n w p t)) (hF : qFl M0 n (rF n w p t)) (hK : ∀ M2 : qm_M, (qTp M2 n w p t ∧ kpF M2 M0 t) → K (.inl 0) (qL T) M2) : ∀ (j k : Nat) (M : qm_M), k + j = rlen n w p t → kpS M n w p t k → kpF M M0 t → k < rlen n w p t → at_Turns_keepPairs_5 T d K M (t : Int) (rL n w p t : Int) (rle n w p t k : Int) (k : Int)
  | 0, k, M, hk, hS, hc, hlt => absurd hlt (by omega)
  | j + 1, k, M, hk, hS, hc, hlt => by
    have hlen := rlen_ok hI hl
    have h8 := hI.2.1
    have hx := rle_lt hI hl k
    refine rg_Turns_keepPairs_5 (And.intro (fun h => absurd h (by omega)) (fun _ => And.intro (by unfold qm_R; omega) (And.intro (by unfold qm_R; omega) ?_)))
    intro M1 e1
    rw [show (t : Int) * 8 + (k : Int) = ((8 * t + k : Nat) : Int) by omega, sRow_in (by omega)] at e1
    refine And.intro (by unfold qm_R; omega) (And.intro (by unfold qm_R; omega) ?_)
    intro y2 e2
    have hp1 : qPR M1 38 n (rU n w p t) (rV n w p t) := qPR_mem hp (by rw [e1, qu_cf (by decide)]; exact hc.1 _ (by decide) (by decide) (by decide))
    rw [gPar_l hp1 h8 hx.1, cz_n (by have := ((r_qMt hI t).1 _ hx.1).1; omega)] at e2
    intro M3 e3
    rw [show (t : Int) * 8 + (k : Int) = ((8 * t + k : Nat) : Int) by omega, sRow_in (by omega), e2] at e3
    refine And.intro (by unfold qm_R; omega) ?_
    intro M4 e4
    rw [sRow_in ht] at e4
    intro y5 e5
    have c4 : ∀ c, c ≠ 27 → c ≠ 29 → c ≠ 31 → M4 c = M0 c := fun c h1 h2 h3 => by rw [e4, qu_cf h3, e3, qu_cf h2, e1, qu_cf h1]; exact hc.1 c h1 h2 h3
    have fl : M4 42 (rle n w p t k) = cz (rF n w p t (rle n w p t k)) := by rw [c4 42 (by decide) (by decide) (by decide)]; exact hF _ hx.1
    rw [gRow_in (by omega), fl] at e5
    have hx1 := rle_lt hI hl (k + 1)
    have ef : rF n w p t (rle n w p t k) = rle n w p t (k + 1) := rfl
    rw [ef, cz_n (by omega)] at e5
    have hS4 : kpS M4 n w p t (k + 1) := by
      refine ⟨fun _ => by rw [e4, qu_s]; rfl, fun i hi => ?_⟩
      rw [e4, qu_cf (by decide), qu_cf (by decide), e3, qu_cf (show (27 : Nat) ≠ 29 by decide), e1]
      by_cases hik : i = k
      · rw [hik, qu_s, qu_s]
        exact ⟨rfl, rfl⟩
      · rw [qu_k (by omega), qu_k (by omega), qu_cf (by decide)]
        exact hS.2 i (by omega)
    have hc4 : kpF M4 M0 t := by
      refine ⟨c4, fun x hx2 => ?_, fun x hx2 => ?_⟩
      · rw [e4, qu_cf (by decide), qu_cf (by decide), e3, qu_cf (show (27 : Nat) ≠ 29 by decide), e1, qu_k (by omega), qu_k (by omega), qu_cf (by decide)]
        exact hc.2.1 x hx2
      · rw [e4, qu_k hx2, e3, qu_cf (by decide), e1, qu_cf (by decide)]
        exact hc.2.2 x hx2
    have e0 : rle n w p t 0 = rL n w p t := rfl
    refine And.intro (fun h => And.intro (by unfold qm_R; omega) ?_) (fun h => hK M4 ⟨⟨?_, ?_⟩, hc4⟩)
    · rw [e5]
      refine lp_Turns_keepPairs hI ht hl hp hF hK j (k + 1) M4 (by omega) hS4 hc4 ?_
      rcases Nat.lt_or_ge (k + 1) (rlen n w p t) with q | q
      · exact q
      · exfalso
        have e6 : k + 1 = rlen n w p t := by omega
        rw [e5, e6, hlen.2.2.1] at h
        exact h rfl
    · have e7 : rle n w p t (k + 1) = rle n w p t 0 := by rw [e0]; omega
      have hkl : k + 1 = rlen n w p t := by
        rcases Nat.lt_or_ge (k + 1) (rlen n w p t) with q | q
        · have := hlen.2.2.2 (k + 1) 0 q (by omega) e7
          omega
        · omega
      rw [← hkl]
      exact hS4.1 (by omega)
    · have e7 : rle n w p t (k + 1) = rle n w p t 0 := by rw [e0]; omega
      have hkl : k + 1 = rlen n w p t := by
        rcases Nat.lt_or_ge (k + 1) (rlen n w p t) with q | q
        · have := hlen.2.2.2 (k + 1) 0 q (by omega) e7
          omega
        · omega
      rw [← hkl]
      exact hS4.2
theorem s_Turns_keepPairs {T : qm_L} {n i : Nat} {w p : Nat → Nat} {d : Nat} {K : qm_K} {M : qm_M} {t : Int} {l : Int} (hp0 : qInv n w p ∧ i < 28 ∧ t = (i : Int) ∧ rL n w p i < n ∧ l = (rL n w p i : Int)) (hp1 : qPR M 38 n (rU n w p i) (rV n w p i)) (hp2 : qFl M n (rF n w p i)) (hK : ∀ (M2 : qm_M), (qTp M2 n w p i ∧ kpF M2 M i) → K (.inl 0) (qL T) M2) : qm_Runs qm_P (d + 3) 89 [(.inr (some 25)), (.inl t), (.inl l)] (qL T) M K := by
  obtain ⟨hI, ht, rfl, hl, rfl⟩ := hp0
  have hlen := rlen_ok hI hl
  exact en_Turns_keepPairs (lp_Turns_keepPairs hI ht hl hp1 hp2 hK (rlen n w p i) 0 M (by omega) ⟨fun h => absurd h (Nat.not_lt_zero _), fun j hj => absurd hj (Nat.not_lt_zero _)⟩ ⟨fun _ _ _ _ => rfl, fun _ _ => ⟨rfl, rfl⟩, fun _ _ => rfl⟩ (by omega))
def at_Turns_depthBehind_5 (T : qm_L) (d : Nat) (K : qm_K) (M : qm_M) (x1 x2 x3 x4 : Int) : Prop := qm_TT qi_93 (qm_Runs qm_P (d + 2)) K 5 [some (.inr (some 25)), some (.inl x1), some (.inl x2), some (.inl x3), some (.inl x4)] [] (qL T) M 0 0
theorem rg_Turns_depthBehind_5 {T : qm_L}  {d : Nat} {K : qm_K} {M : qm_M} {x1 x2 x3 x4 : Int} (h :
    (x2 ≤ x4 →
     K (.inl x3) (qL T) M) ∧
    (¬ x2 ≤ x4 →
     ((qm_and (qm_shr x1 x4) 1) ≠ 1 →
      qm_R (x4 + 1) ∧
      at_Turns_depthBehind_5 T d K M x1 x2 x3 ((x4 + 1))) ∧
     (¬ (qm_and (qm_shr x1 x4) 1) ≠ 1 →
      qm_R ((gRow M 37 28 x4) + 1) ∧
      qm_R (x4 + 1) ∧
      at_Turns_depthBehind_5 T d K M x1 x2 ((max x3 ((gRow M 37 28 x4) + 1))) ((x4 + 1))))) : at_Turns_depthBehind_5 T d K M x1 x2 x3 x4 :=
  qm_wp_TT [5] 24 (And.intro (fun q1 => (h.1 q1)) (fun q2 => And.intro (fun q3 => And.intro ((h.2 q2).1 q3).1 (((h.2 q2).1 q3).2)) (fun q4 => And.intro (lo_25 T) (s_Turns_depth (d := d + 0)   (And.intro ((h.2 q2).2 q4).1 (And.intro ((h.2 q2).2 q4).2.1 (((h.2 q2).2 q4).2.2)))))))
theorem en_Turns_depthBehind {T : qm_L}  {d : Nat} {K : qm_K} {M : qm_M} {x : Int} {t : Int} (h :
    at_Turns_depthBehind_5 T d K M x t 0 0) : qm_Runs qm_P (d + 3) 93 [(.inr (some 25)), (.inl x), (.inl t)] (qL T) M K :=
  And.intro (Nat.le_of_ble_eq_true rfl) (show qm_TT qi_93 (qm_Runs qm_P (d + 2)) K 0 [some (.inr (some 25)), some (.inl x), some (.inl t), none, none] [] (qL T) M 0 0 from qm_wp_TT [5] 24 (h))
theorem lp_Turns_depthBehind {T : qm_L} {d : Nat} {K : qm_K} {M : qm_M} {n i z : Nat} {w p : Nat → Nat} (ht : i < 28) (hz : z < 2147483648) (hb : ∀ a, a < i → (bS z a ↔ rNd n w p i a)) (hd : ∀ u, u < i → M 37 u = (rdp n w p u : Int)) (hK : K (.inl (rdp n w p i : Int)) (qL T) M) : ∀ (j a : Nat), a + j = i → at_Turns_depthBehind_5 T d K M (z : Int) (i : Int) (maxN (fun a => @ite Nat (rNd n w p i a) (Classical.propDecidable _) (rdp n w p a + 1) 0) a : Int) (a : Int)
  | 0, a, ha => by
    have : a = i := by omega
    subst this
    refine rg_Turns_depthBehind_5 (And.intro (fun _ => ?_) (fun h => absurd h (by omega)))
    rw [← rdp_eq]
    exact hK
  | j + 1, a, ha => by
    have hr : qm_R ((a : Int) + 1) := by unfold qm_R; omega
    have hq := (bitq (t := a) hz (by omega)).1
    have ih := lp_Turns_depthBehind (d := d) ht hz hb hd hK j (a + 1) (by omega)
    have e : maxN (fun a => @ite Nat (rNd n w p i a) (Classical.propDecidable _) (rdp n w p a + 1) 0) (a + 1) = max (maxN (fun a => @ite Nat (rNd n w p i a) (Classical.propDecidable _) (rdp n w p a + 1) 0) a) (@ite Nat (rNd n w p i a) (Classical.propDecidable _) (rdp n w p a + 1) 0) := rfl
    rw [e] at ih
    refine rg_Turns_depthBehind_5 (And.intro (fun h => absurd h (by omega)) (fun _ => And.intro (fun h => And.intro hr ?_) (fun h => ?_)))
    · rw [if_neg (fun q => h (hq.mpr ((hb a (by omega)).mpr q))), Nat.max_zero] at ih
      exact ih
    · rw [if_pos ((hb a (by omega)).mp (hq.mp (Classical.not_not.mp h)))] at ih
      have hle := rdp_le (n := n) (w := w) (p := p) a
      rw [gRow_in (by omega), hd a (by omega)]
      refine And.intro (by unfold qm_R; omega) (And.intro hr ?_)
      rw [show max (maxN (fun a => @ite Nat (rNd n w p i a) (Classical.propDecidable _) (rdp n w p a + 1) 0) a : Int) ((rdp n w p a : Int) + 1) = ((max (maxN (fun a => @ite Nat (rNd n w p i a) (Classical.propDecidable _) (rdp n w p a + 1) 0) a) (rdp n w p a + 1) : Nat) : Int) by omega]
      exact ih
theorem s_Turns_depthBehind {T : qm_L} {n i z : Nat} {w p : Nat → Nat} {d : Nat} {K : qm_K} {M : qm_M} {x : Int} {t : Int} (hp0 : i < 28 ∧ t = (i : Int)) (hp1 : x = (z : Int) ∧ z < 2147483648 ∧ ∀ a, a < i → (bS z a ↔ rNd n w p i a)) (hp2 : ∀ u, u < i → M 37 u = (rdp n w p u : Int)) (hK : K (.inl ((rdp n w p i : Int))) (qL T) M) : qm_Runs qm_P (d + 3) 93 [(.inr (some 25)), (.inl x), (.inl t)] (qL T) M K := by
  refine en_Turns_depthBehind   ?_
  obtain ⟨ht, rfl⟩ := hp0
  obtain ⟨rfl, hz, hb⟩ := hp1
  exact lp_Turns_depthBehind ht hz hb hp2 hK i 0 (by omega)
/-- by which turn a left came to where it is; by which a right came past a left -/
def psd (n : Nat) (w p : Nat → Nat) (u b a : Nat) : Prop := p (ix 1 b (rV n w p (u + 1) b)) < p (ix 1 b a) ∧ p (ix 1 b a) < p (ix 1 b (rV n w p u b))
def brt (n : Nat) (w p : Nat → Nat) (t u a : Nat) : Prop := u < t ∧ rIn n w p u a ∧ ∀ x, u < x → x < t → ¬ rIn n w p x a
def qBr (M : qm_M) (n : Nat) (w p : Nat → Nat) (t : Nat) : Prop := ∀ a, a < n → (∃ u, M 44 a = ((u : Nat) : Int) ∧ brt n w p t u a) ∨ (M 44 a = -1 ∧ ∀ x, x < t → ¬ rIn n w p x a)
def qPs (M : qm_M) (n : Nat) (w p : Nat → Nat) (t : Nat) : Prop := ∀ b a, b < n → a < n → (∃ u, M 46 (8 * b + a) = ((u : Nat) : Int) ∧ u < t ∧ psd n w p u b a) ∨ (M 46 (8 * b + a) = -1 ∧ ∀ x, x < t → ¬ psd n w p x b a)
theorem psd_one {n : Nat} {w p : Nat → Nat} (hI : qInv n w p) {b a u x : Nat} (hb : b < n) (h1 : psd n w p u b a) (h2 : psd n w p x b a) : u = x := by
  have key : ∀ u x, psd n w p u b a → psd n w p x b a → ¬ u < x := fun u x h1 h2 hlt => by
    have := r_monoVle hI hb (show u + 1 ≤ x by omega)
    have := h1.1
    have := h2.2
    omega
  have := key u x h1 h2
  have := key x u h2 h1
  omega
theorem brt_one {n : Nat} {w p : Nat → Nat} {a t u x : Nat} (h1 : brt n w p t u a) (h2 : brt n w p t x a) : u = x := by
  rcases Nat.lt_trichotomy u x with q | q | q
  · exact absurd h2.2.1 (h1.2.2 x q h2.1)
  · exact q
  · exact absurd h1.2.1 (h2.2.2 u q h1.1)
/-- what one of a turn's lefts needs -/
def ndB (n : Nat) (w p : Nat → Nat) (t k x : Nat) : Prop := ∃ u, brt n w p t u (rle n w p t k) ∧ (x = u ∨ rNd n w p u x)
def ndP (n : Nat) (w p : Nat → Nat) (t k g x : Nat) : Prop := p (ix 0 (rle n w p t k) (rri n w p t k)) < g ∧ ∃ u, u < t ∧ psd n w p u (w (ix 0 (rle n w p t k) g)) (rle n w p t k) ∧ (x = u ∨ rNd n w p u x)
def ndA (n : Nat) (w p : Nat → Nat) (t k x : Nat) : Prop := ndB n w p t k x ∨ ∃ g, g < p (ix 0 (rle n w p t k) (rri n w p t (k + 1))) ∧ ndP n w p t k g x
def ndK (n : Nat) (w p : Nat → Nat) (t k x : Nat) : Prop := ∃ j, j < k ∧ ndA n w p t j x
def ndG (n : Nat) (w p : Nat → Nat) (t k g x : Nat) : Prop := ndK n w p t k x ∨ ndB n w p t k x ∨ ∃ h, h < g ∧ ndP n w p t k h x
theorem nd_all {n : Nat} {w p : Nat → Nat} (hI : qInv n w p) {t : Nat} (ht : t < rT n w p) {x : Nat} : ndK n w p t (rlen n w p t) x ↔ rNd n w p t x := by
  have hl := (T_lt hI ht).2
  constructor
  · rintro ⟨k, hk, h⟩
    have hin : rIn n w p t (rle n w p t k) := rle_in
    have hx := rle_lt hI hl k
    have hx1 := rle_lt hI hl (k + 1)
    rcases h with ⟨u, h1, h2⟩ | ⟨g, hg, h1, u, hu, h2, h3⟩
    · have hD : rD n w p t u := ⟨ht, h1.1, Or.inl ⟨_, hin, h1.2.1, h1.2.2⟩⟩
      rcases h2 with rfl | h2
      · exact Nd_D hD
      · exact Nd_DN hD h2
    · have hgn : g < n := by have := (hI.2.2 0 _ (by omega) hx.1 _ hx1.2).2.2.1; omega
      have hi := hI.2.2 0 _ (by omega) hx.1 g hgn
      have hnx := rri_next hI hl k
      have hD : rD n w p t u := ⟨ht, hu, Or.inr ⟨_, _, hi.1, hin, by rw [hi.2.1]; exact h1, by rw [hi.2.1, ← hnx]; exact hg, h2.1, h2.2⟩⟩
      rcases h3 with rfl | h3
      · exact Nd_D hD
      · exact Nd_DN hD h3
  · intro h
    obtain ⟨v, hD, hv⟩ := Nd_inv h
    have hv2 : x = v ∨ rNd n w p v x := hv.imp Eq.symm id
    obtain ⟨h1, h2, h3 | ⟨l, r, hr, hl2, q1, q2, q3, q4⟩⟩ := hD
    · obtain ⟨l, hl2, hl3, hl4⟩ := h3
      obtain ⟨k, hk, rfl⟩ := (rin_le hI hl).mp hl2
      exact ⟨k, hk, Or.inl ⟨v, ⟨h2, hl3, hl4⟩, hv2⟩⟩
    · obtain ⟨k, hk, rfl⟩ := (rin_le hI hl).mp hl2
      have hx := rle_lt hI hl k
      have hnx := rri_next hI hl k
      have hi := hI.2.2 0 _ (by omega) hx.1 r hr
      refine ⟨k, hk, Or.inr ⟨p (ix 0 (rle n w p t k) r), by rw [hnx]; exact q2, q1, v, h2, ?_, hv2⟩⟩
      rw [hi.2.2.2]
      exact ⟨q3, q4⟩
theorem bits_w {n : Nat} {w p : Nat → Nat} {M : qm_M} (hI : qInv n w p) {u t : Nat} (hu : u < t) (ht : t < 28) (hd : ∀ x, x < t → M 35 x = (rnd n w p x : Int)) : (if ((u : Nat) : Int) = -1 then 0 else qm_or (gRow M 35 28 (u : Int)) (qm_shl 1 (u : Int))) = (bits (fun x => x = u ∨ rNd n w p u x) 28 : Int) := by
  rw [if_neg (by omega), gRow_in (by omega), hd u hu]
  exact bits_i (by decide) (by omega) (fun x _ => ⟨fun h => h.symm, fun h => h.symm⟩)
theorem bits_ii {P Q R : Nat → Prop} {T : Nat} (hT : T ≤ 31) (h : ∀ x, x < T → (R x ↔ P x ∨ Q x)) : qm_or (bits P T : Int) (bits Q T : Int) = (bits R T : Int) := by
  rw [qb_or (bits_lt31 hT) (bits_lt31 hT)]
  congr 1
  refine bits_ext (fun u => ?_)
  rw [or_test, bits_test, bits_test, bits_test]
  constructor
  · rintro (⟨h1, h2⟩ | ⟨h1, h2⟩)
    · exact ⟨h1, (h u h1).mpr (Or.inl h2)⟩
    · exact ⟨h1, (h u h1).mpr (Or.inr h2)⟩
  · rintro ⟨h1, h2⟩
    exact ((h u h1).mp h2).imp (fun q => ⟨h1, q⟩) (fun q => ⟨h1, q⟩)
theorem or_0 {P : Nat → Prop} {T : Nat} (hT : T ≤ 31) : qm_or (bits P T : Int) 0 = (bits P T : Int) := by
  have := qb_or (a := bits P T) (b := 0) (bits_lt31 hT) (by decide)
  rw [show ((0 : Nat) : Int) = 0 from rfl] at this
  rw [this, Nat.or_zero]
def at_Turns_keepNeeds_5 (T : qm_L) (d : Nat) (K : qm_K) (M : qm_M) (x1 x3 x4 : Int) : Prop := ∀ (d5 d6 d7 : Option qm_V), qm_TT qi_91 (qm_Runs qm_P (d + 3)) K 5 [some (.inr (some 25)), some (.inl x1), some (.inr (some 4)), some (.inl x3), some (.inl x4), d5, d6, d7] [] (qL T) M 0 0
def at_Turns_keepNeeds_79 (T : qm_L) (d : Nat) (K : qm_K) (M : qm_M) (x1 x3 x4 x5 x6 x7 : Int) : Prop := qm_TT qi_91 (qm_Runs qm_P (d + 3)) K 79 [some (.inr (some 25)), some (.inl x1), some (.inr (some 4)), some (.inl x3), some (.inl x4), some (.inl x5), some (.inl x6), some (.inl x7)] [] (qL T) M 0 0
theorem rg_Turns_keepNeeds_5 {T : qm_L} {n i z : Nat} {w p : Nat → Nat} {d : Nat} {K : qm_K} {M : qm_M} {x1 x3 x4 : Int} (h :
    ∀ (y1 : Int), y1 = (gRow M 31 28 x1) →
    (y1 ≤ x4 →
     ∀ (M2 : qm_M), M2 = (sRow M 35 28 x1 x3) →
     (i < 28 ∧ x1 = (i : Int)) ∧
     (x3 = (z : Int) ∧ z < 2147483648 ∧ ∀ a, a < i → (bS z a ↔ rNd n w p i a)) ∧
     (∀ u, u < i → M2 37 u = (rdp n w p u : Int)) ∧
     ∀ (y3 : Int), y3 = (rdp n w p i : Int) →
     ∀ (M4 : qm_M), M4 = (sRow M2 37 28 x1 y3) →
     K (.inl 0) (qL T) M4) ∧
    (¬ y1 ≤ x4 →
     (0 ≤ x1 ∧ x1 ≤ 1000 ∧ 0 ≤ x4 ∧ x4 ≤ 1000) ∧
     ∀ (y5 : Int), y5 = (gRow M 27 224 (x1 * 8 + x4)) →
     ∀ (y6 : Int), y6 = (gRow M 44 8 y5) →
     ∀ (y7 : Int), y7 = (if y6 = -1 then 0 else qm_or (gRow M 35 28 y6) (qm_shl 1 y6)) →
     (0 ≤ x4 ∧ x4 ≤ 1000) ∧
     ∀ (y8 : Int), y8 = (if x4 + 1 < gRow M 31 28 x1 then x4 + 1 else 0) →
     (0 ≤ x1 ∧ x1 ≤ 1000 ∧ 0 ≤ y8 ∧ y8 ≤ 1000) ∧
     ∀ (y9 : Int), y9 = (gRow M 29 224 (x1 * 8 + y8)) →
     ∀ (y10 : Int), y10 = (gPl M 4 0 y5 y9) →
     (0 ≤ x1 ∧ x1 ≤ 1000 ∧ 0 ≤ x4 ∧ x4 ≤ 1000) ∧
     ∀ (y11 : Int), y11 = (gRow M 29 224 (x1 * 8 + x4)) →
     ∀ (y12 : Int), y12 = (gPl M 4 0 y5 y11) →
     qm_R (y12 + 1) ∧
     at_Turns_keepNeeds_79 T d K M x1 ((qm_or x3 y7)) x4 y5 y10 ((y12 + 1)))) : at_Turns_keepNeeds_5 T d K M x1 x3 x4 :=
  fun d5 d6 d7 => qm_wp_TT [5, 79] 46 (And.intro (lo_25 T) (s_Turns_length (d := d + 1)   (And.intro (fun q16 => Exists.intro 34 (And.intro (lf_25_4 T) (And.intro (lo_34 T) (s_Row_set (d := d + 2) (lRow_34 T)  (Exists.intro 36 (And.intro (lf_25_5 T) (And.intro (lo_25 T) (s_Turns_depthBehind (d := d + 0)  ((((h _ rfl).1 q16) _ rfl).1) ((((h _ rfl).1 q16) _ rfl).2.1) ((((h _ rfl).1 q16) _ rfl).2.2.1) (And.intro (lo_36 T) (s_Row_set (d := d + 2) (lRow_36 T)  ((((((h _ rfl).1 q16) _ rfl).2.2.2 _ rfl) _ rfl)))))))))))) (fun q17 => And.intro (lo_25 T) (s_Turns_left (d := d + 1)  (((h _ rfl).2 q17).1) (Exists.intro 43 (And.intro (lf_25_9 T) (And.intro (lo_43 T) (s_Row_get (d := d + 2) (lRow_43 T)  (And.intro (lo_25 T) (s_Turns_withNeeds (d := d + 0)   (And.intro (lo_25 T) (s_Turns_following (d := d + 0)  ((((((h _ rfl).2 q17).2 _ rfl) _ rfl) _ rfl).1) (And.intro (lo_25 T) (s_Turns_right (d := d + 1)  (((((((h _ rfl).2 q17).2 _ rfl) _ rfl) _ rfl).2 _ rfl).1) (And.intro (lo_4 T) (s_Lists_place (d := d + 1) (lLs_4 T)  (And.intro (lo_25 T) (s_Turns_right (d := d + 1)  (((((((((h _ rfl).2 q17).2 _ rfl) _ rfl) _ rfl).2 _ rfl).2 _ rfl) _ rfl).1) (And.intro (lo_4 T) (s_Lists_place (d := d + 1) (lLs_4 T)  (And.intro ((((((((((h _ rfl).2 q17).2 _ rfl) _ rfl) _ rfl).2 _ rfl).2 _ rfl) _ rfl).2 _ rfl) _ rfl).1 (((((((((((h _ rfl).2 q17).2 _ rfl) _ rfl) _ rfl).2 _ rfl).2 _ rfl) _ rfl).2 _ rfl) _ rfl).2)))))))))))))))))))))))
theorem rg_Turns_keepNeeds_79 {T : qm_L} {n i z : Nat} {w p : Nat → Nat} {d : Nat} {K : qm_K} {M : qm_M} {x1 x3 x4 x5 x6 x7 : Int} (h :
    (x6 ≤ x7 →
     qm_R (x4 + 1) ∧
     at_Turns_keepNeeds_5 T d K M x1 x3 ((x4 + 1))) ∧
    (¬ x6 ≤ x7 →
     ∀ (y13 : Int), y13 = (gWho M 4 0 x5 x7) →
     qm_R (y13 * 8) ∧
     qm_R ((y13 * 8) + x5) ∧
     ∀ (y14 : Int), y14 = (gRow M 46 64 ((y13 * 8) + x5)) →
     ∀ (y15 : Int), y15 = (if y14 = -1 then 0 else qm_or (gRow M 35 28 y14) (qm_shl 1 y14)) →
     qm_R (x7 + 1) ∧
     at_Turns_keepNeeds_79 T d K M x1 ((qm_or x3 y15)) x4 x5 x6 ((x7 + 1)))) : at_Turns_keepNeeds_79 T d K M x1 x3 x4 x5 x6 x7 :=
  qm_wp_TT [5, 79] 46 (And.intro (fun q18 => And.intro (h.1 q18).1 ((h.1 q18).2 _ _ _)) (fun q19 => Exists.intro 45 (And.intro (lf_25_10 T) (And.intro (lo_4 T) (s_Lists_who (d := d + 1) (lLs_4 T)  (And.intro ((h.2 q19) _ rfl).1 (And.intro ((h.2 q19) _ rfl).2.1 (And.intro (lo_45 T) (s_Row_get (d := d + 2) (lRow_45 T)  (And.intro (lo_25 T) (s_Turns_withNeeds (d := d + 0)   (And.intro ((((h.2 q19) _ rfl).2.2 _ rfl) _ rfl).1 (((((h.2 q19) _ rfl).2.2 _ rfl) _ rfl).2)))))))))))))
theorem en_Turns_keepNeeds {T : qm_L} {n i z : Nat} {w p : Nat → Nat} {d : Nat} {K : qm_K} {M : qm_M} {t : Int} (h :
    at_Turns_keepNeeds_5 T d K M t 0 0) : qm_Runs qm_P (d + 4) 91 [(.inr (some 25)), (.inl t), (.inr (some 4))] (qL T) M K :=
  And.intro (Nat.le_of_ble_eq_true rfl) (show qm_TT qi_91 (qm_Runs qm_P (d + 3)) K 0 [some (.inr (some 25)), some (.inl t), some (.inr (some 4)), none, none, none, none, none] [] (qL T) M 0 0 from qm_wp_TT [5, 79] 46 (h _ _ _))
theorem lp_Turns_keepNeeds {T : qm_L} {d : Nat} {K : qm_K} {M : qm_M} {n t : Nat} {w p : Nat → Nat} (hl : qLR M 4 n w p) (ht : t < rT n w p) (hT : qTp M n w p t) (hB : qBr M n w p t) (hP : qPs M n w p t) (hd : ∀ x, x < t → M 35 x = (rnd n w p x : Int) ∧ M 37 x = (rdp n w p x : Int)) (hK : ∀ M2 : qm_M, (M2 35 t = (rnd n w p t : Int) ∧ M2 37 t = (rdp n w p t : Int) ∧ ∀ c x, (c ≠ 35 ∧ c ≠ 37) ∨ x ≠ t → M2 c x = M c x) → K (.inl 0) (qL T) M2) : ∀ (j k : Nat), k + j = rlen n w p t → at_Turns_keepNeeds_5 T d K M (t : Int) (bits (ndK n w p t k) 28 : Int) (k : Int)
  | 0, k, hk => fun d5 d6 d7 => by
    have hI := hl.2.2.2
    have h28 := (T_lt hI ht).1
    have hk : k = rlen n w p t := by omega
    subst hk
    refine rg_Turns_keepNeeds_5 (n := n) (i := t) (z := rnd n w p t) (w := w) (p := p) ?_ d5 d6 d7
    intro y1 e1
    rw [Td_len hT h28] at e1
    refine And.intro (fun _ => ?_) (fun h => absurd h (by omega))
    have eb : bits (ndK n w p t (rlen n w p t)) 28 = rnd n w p t := bits_congr (fun x _ => nd_all hI ht)
    rw [eb]
    intro M2 e2
    rw [sRow_in h28] at e2
    refine And.intro ⟨h28, rfl⟩ (And.intro ⟨rfl, rnd_lt, fun a ha => rnd_test hI⟩ (And.intro (fun u hu => by rw [e2, qu_cf (by decide)]; exact (hd u hu).2) ?_))
    intro y3 e3y
    intro M3 e3
    rw [sRow_in h28, e3y] at e3
    refine hK M3 ⟨by rw [e3, qu_cf (by decide), e2, qu_s], by rw [e3, qu_s], fun c x h => ?_⟩
    rw [e3, e2]
    rcases h with h | h
    · rw [qu_c h.2, qu_c h.1]
    · rw [qu_k h, qu_k h]
  | j + 1, k, hk => fun d5 d6 d7 => by
    have hI := hl.2.2.2
    have h8 := hI.2.1
    have h28 := (T_lt hI ht).1
    have hlt := (T_lt hI ht).2
    have hx := rle_lt hI hlt k
    have hx1 := rle_lt hI hlt (k + 1)
    have hlen := rlen_ok hI hlt
    obtain ⟨f, f1, f2, f3, f4⟩ := Td_fl hI hT h28 hlt (show k < rlen n w p t by omega)
    have hb : 0 ≤ (t : Int) ∧ (t : Int) ≤ 1000 ∧ 0 ≤ (k : Int) ∧ (k : Int) ≤ 1000 := by omega
    have ih := lp_Turns_keepNeeds (d := d) hl ht hT hB hP hd hK j (k + 1) (by omega)
    have p0 := (hI.2.2 0 _ (by omega) hx.1 _ hx.2).2.2.1
    have p1 := (hI.2.2 0 _ (by omega) hx.1 _ hx1.2).2.2.1
    have inner : ∀ (i g : Nat), p (ix 0 (rle n w p t k) (rri n w p t k)) < g → (p (ix 0 (rle n w p t k) (rri n w p t (k + 1))) ≤ g ∨ g + i = p (ix 0 (rle n w p t k) (rri n w p t (k + 1)))) → g ≤ p (ix 0 (rle n w p t k) (rri n w p t (k + 1))) ∨ g = p (ix 0 (rle n w p t k) (rri n w p t k)) + 1 → at_Turns_keepNeeds_79 T d K M (t : Int) (bits (ndG n w p t k g) 28 : Int) (k : Int) (rle n w p t k : Int) (p (ix 0 (rle n w p t k) (rri n w p t (k + 1))) : Int) (g : Int) := by
      have fin : ∀ g, p (ix 0 (rle n w p t k) (rri n w p t (k + 1))) ≤ g → (g ≤ p (ix 0 (rle n w p t k) (rri n w p t (k + 1))) ∨ g = p (ix 0 (rle n w p t k) (rri n w p t k)) + 1) → at_Turns_keepNeeds_79 T d K M (t : Int) (bits (ndG n w p t k g) 28 : Int) (k : Int) (rle n w p t k : Int) (p (ix 0 (rle n w p t k) (rri n w p t (k + 1))) : Int) (g : Int) := fun g h1 h2 => by
        refine rg_Turns_keepNeeds_79 (n := n) (i := t) (z := 0) (w := w) (p := p) (And.intro (fun _ => And.intro (by unfold qm_R; omega) ?_) (fun h => absurd h (by omega)))
        rw [bits_congr (P := ndG n w p t k g) (Q := ndK n w p t (k + 1)) (fun x _ => ⟨?_, ?_⟩)]
        · exact ih
        · rintro (⟨i, hi, h⟩ | h | ⟨h, hh, q⟩)
          · exact ⟨i, by omega, h⟩
          · exact ⟨k, by omega, Or.inl h⟩
          · refine ⟨k, by omega, Or.inr ⟨h, ?_, q⟩⟩
            have := q.1
            omega
        · rintro ⟨i, hi, h⟩
          by_cases hik : i = k
          · subst hik
            rcases h with h | ⟨g2, hg2, q⟩
            · exact Or.inr (Or.inl h)
            · exact Or.inr (Or.inr ⟨g2, by omega, q⟩)
          · exact Or.inl ⟨i, by omega, h⟩
      intro i
      induction i with
      | zero => exact fun g h0 h1 h2 => fin g (by omega) h2
      | succ i ihi =>
        intro g h0 h1 h2
        by_cases hge : p (ix 0 (rle n w p t k) (rri n w p t (k + 1))) ≤ g
        · exact fin g hge h2
        · have hgn : g < n := by omega
          have hw := hI.2.2 0 _ (by omega) hx.1 g hgn
          refine rg_Turns_keepNeeds_79 (n := n) (i := t) (z := 0) (w := w) (p := p) (And.intro (fun h => absurd h (by omega)) (fun _ => ?_))
          intro y12 e12
          rw [show gWho M 4 0 (rle n w p t k : Int) (g : Int) = (w (ix 0 (rle n w p t k) g) : Int) from gWho_n (s := 0) hl (by omega) hx.1 hgn] at e12
          subst e12
          refine And.intro (by unfold qm_R; omega) (And.intro (by unfold qm_R; omega) ?_)
          intro y13 e13
          rw [show (w (ix 0 (rle n w p t k) g) : Int) * 8 + (rle n w p t k : Int) = ((8 * w (ix 0 (rle n w p t k) g) + rle n w p t k : Nat) : Int) by omega, gRow_in (by omega)] at e13
          intro y14 e14
          refine And.intro (by unfold qm_R; omega) ?_
          have ih3 := ihi (g + 1) (by omega) (by omega) (Or.inl (by omega))
          rcases hP _ _ hw.1 hx.1 with ⟨u, hu1, hu2, hu3⟩ | ⟨hu1, hu2⟩
          · rw [hu1] at e13
            rw [e13, bits_w hI hu2 h28 (fun x hx => (hd x hx).1)] at e14
            rw [e14, bits_ii (R := ndG n w p t k (g + 1)) (by decide) (fun x _ => ⟨?_, ?_⟩)]
            · exact ih3
            · rintro (h | h | ⟨h, hh, q⟩)
              · exact Or.inl (Or.inl h)
              · exact Or.inl (Or.inr (Or.inl h))
              · by_cases hhg : h = g
                · subst hhg
                  obtain ⟨u2, hu4, hu5, hu6⟩ := q.2
                  rw [psd_one hI hw.1 hu5 hu3] at hu6
                  exact Or.inr hu6
                · exact Or.inl (Or.inr (Or.inr ⟨h, by omega, q⟩))
            · rintro ((h | h | ⟨h, hh, q⟩) | h)
              · exact Or.inl h
              · exact Or.inr (Or.inl h)
              · exact Or.inr (Or.inr ⟨h, by omega, q⟩)
              · exact Or.inr (Or.inr ⟨g, by omega, h0, u, hu2, hu3, h⟩)
          · rw [hu1] at e13
            rw [e13, if_pos rfl] at e14
            rw [e14, or_0 (by decide), bits_congr (P := ndG n w p t k g) (Q := ndG n w p t k (g + 1)) (fun x _ => ⟨?_, ?_⟩)]
            · exact ih3
            · rintro (h | h | ⟨h, hh, q⟩)
              · exact Or.inl h
              · exact Or.inr (Or.inl h)
              · exact Or.inr (Or.inr ⟨h, by omega, q⟩)
            · rintro (h | h | ⟨h, hh, q⟩)
              · exact Or.inl h
              · exact Or.inr (Or.inl h)
              · by_cases hhg : h = g
                · subst hhg
                  obtain ⟨u2, hu4, hu5, hu6⟩ := q.2
                  exact absurd hu5 (hu2 u2 hu4)
                · exact Or.inr (Or.inr ⟨h, by omega, q⟩)
    refine rg_Turns_keepNeeds_5 (n := n) (i := t) (z := 0) (w := w) (p := p) ?_ d5 d6 d7
    intro y1 e1
    rw [Td_len hT h28] at e1
    refine And.intro (fun h => absurd h (by omega)) (fun _ => And.intro hb ?_)
    intro y4 e4
    rw [Td_left hT h28 (by omega) (by omega)] at e4
    subst e4
    intro y5 e5
    rw [gRow_in (by omega)] at e5
    intro y6 e6
    refine And.intro (by omega) ?_
    intro y7 e7
    rw [f1] at e7
    refine And.intro (by omega) ?_
    intro y8 e8
    rw [e7, f4] at e8
    intro y9 e9
    rw [e8, show gPl M 4 0 (rle n w p t k : Int) (rri n w p t (k + 1) : Int) = (p (ix 0 (rle n w p t k) (rri n w p t (k + 1))) : Int) from gPl_n (s := 0) hl (by omega) hx.1 hx1.2] at e9
    refine And.intro hb ?_
    intro y10 e10
    rw [Td_right hT h28 (by omega) (by omega)] at e10
    intro y11 e11
    rw [e10, show gPl M 4 0 (rle n w p t k : Int) (rri n w p t k : Int) = (p (ix 0 (rle n w p t k) (rri n w p t k)) : Int) from gPl_n (s := 0) hl (by omega) hx.1 hx.2] at e11
    refine And.intro (by unfold qm_R; omega) ?_
    have hg0 := inner (n + 1) (p (ix 0 (rle n w p t k) (rri n w p t k)) + 1) (by omega)
    rw [e9, e11]
    have go : ∀ v : Int, v = (bits (ndG n w p t k (p (ix 0 (rle n w p t k) (rri n w p t k)) + 1)) 28 : Int) → at_Turns_keepNeeds_79 T d K M (t : Int) v (k : Int) (rle n w p t k : Int) (p (ix 0 (rle n w p t k) (rri n w p t (k + 1))) : Int) (((p (ix 0 (rle n w p t k) (rri n w p t k)) : Nat) : Int) + 1) := fun v hv => by
      rw [hv]
      rcases Nat.lt_or_ge (p (ix 0 (rle n w p t k) (rri n w p t k)) + 1) (p (ix 0 (rle n w p t k) (rri n w p t (k + 1)))) with q | q
      · exact inner (p (ix 0 (rle n w p t k) (rri n w p t (k + 1))) - (p (ix 0 (rle n w p t k) (rri n w p t k)) + 1)) (p (ix 0 (rle n w p t k) (rri n w p t k)) + 1) (by omega) (Or.inr (by omega)) (Or.inr rfl)
      · exact inner 0 (p (ix 0 (rle n w p t k) (rri n w p t k)) + 1) (by omega) (Or.inl q) (Or.inr rfl)
    refine go _ ?_
    have nog : ∀ x, ¬ ∃ h, h < p (ix 0 (rle n w p t k) (rri n w p t k)) + 1 ∧ ndP n w p t k h x := fun x ⟨h, h1, h2⟩ => by
      have := h2.1
      omega
    rcases hB _ hx.1 with ⟨u, hu1, hu2⟩ | ⟨hu1, hu2⟩
    · rw [hu1] at e5
      rw [e5, bits_w hI hu2.1 h28 (fun x hx => (hd x hx).1)] at e6
      rw [e6]
      refine bits_ii (by decide) (fun x _ => ⟨?_, ?_⟩)
      · rintro (h | ⟨u2, h1, h2⟩ | h)
        · exact Or.inl h
        · rw [brt_one h1 hu2] at h2
          exact Or.inr h2
        · exact absurd h (nog x)
      · rintro (h | h)
        · exact Or.inl h
        · exact Or.inr (Or.inl ⟨u, hu2, h⟩)
    · rw [hu1] at e5
      rw [e5, if_pos rfl] at e6
      rw [e6, or_0 (by decide)]
      refine congrArg Nat.cast (bits_congr (fun x _ => ⟨fun h => Or.inl h, ?_⟩))
      rintro (h | ⟨u2, h1, h2⟩ | h)
      · exact h
      · exact absurd h1.2.1 (hu2 u2 h1.1)
      · exact absurd h (nog x)
theorem s_Turns_keepNeeds {T : qm_L} {n i : Nat} {w p : Nat → Nat} {d : Nat} {K : qm_K} {M : qm_M} {t : Int} (hp0 : qLR M 4 n w p) (hp1 : i < rT n w p ∧ t = (i : Int)) (hp2 : qTp M n w p i ∧ qBr M n w p i ∧ qPs M n w p i ∧ ∀ x, x < i → M 35 x = (rnd n w p x : Int) ∧ M 37 x = (rdp n w p x : Int)) (hK : ∀ (M2 : qm_M), (M2 35 i = (rnd n w p i : Int) ∧ M2 37 i = (rdp n w p i : Int) ∧ ∀ c x, (c ≠ 35 ∧ c ≠ 37) ∨ x ≠ i → M2 c x = M c x) → K (.inl 0) (qL T) M2) : qm_Runs qm_P (d + 4) 91 [(.inr (some 25)), (.inl t), (.inr (some 4))] (qL T) M K := by
  obtain ⟨ht, rfl⟩ := hp1
  obtain ⟨hT, hB, hP, hd⟩ := hp2
  have := lp_Turns_keepNeeds (T := T) (d := d) hp0 ht hT hB hP hd hK (rlen n w p i) 0 (by omega)
  rw [bits_0 (fun x _ h => by obtain ⟨j, hj, _⟩ := h; exact absurd hj (Nat.not_lt_zero _))] at this
  exact en_Turns_keepNeeds (n := n) (i := i) (z := 0) (w := w) (p := p) this
def at_Turns_weigh_5 (T : qm_L) (d : Nat) (K : qm_K) (M : qm_M) (x1 x3 x4 : Int) : Prop := ∀ (d5 d6 d7 : Option qm_V), qm_TT qi_94 (qm_Runs qm_P (d + 3)) K 5 [some (.inr (some 25)), some (.inl x1), some (.inr (some 4)), some (.inl x3), some (.inl x4), d5, d6, d7] [] (qL T) M 0 0
theorem rg_Turns_weigh_5 {T : qm_L}  {d : Nat} {K : qm_K} {M : qm_M} {x1 x3 x4 : Int} (h :
    ∀ (y1 : Int), y1 = (gRow M 31 28 x1) →
    (y1 ≤ x4 →
     K (.inl x3) (qL T) M) ∧
    (¬ y1 ≤ x4 →
     (0 ≤ x1 ∧ x1 ≤ 1000 ∧ 0 ≤ x4 ∧ x4 ≤ 1000) ∧
     ∀ (y2 : Int), y2 = (gRow M 27 224 (x1 * 8 + x4)) →
     (0 ≤ x4 ∧ x4 ≤ 1000) ∧
     ∀ (y3 : Int), y3 = (if x4 + 1 < gRow M 31 28 x1 then x4 + 1 else 0) →
     (0 ≤ x1 ∧ x1 ≤ 1000 ∧ 0 ≤ y3 ∧ y3 ≤ 1000) ∧
     ∀ (y4 : Int), y4 = (gRow M 29 224 (x1 * 8 + y3)) →
     (0 ≤ x4 ∧ x4 ≤ 1000) ∧
     ∀ (y5 : Int), y5 = (if x4 + 1 < gRow M 31 28 x1 then x4 + 1 else 0) →
     (0 ≤ x1 ∧ x1 ≤ 1000 ∧ 0 ≤ y5 ∧ y5 ≤ 1000) ∧
     ∀ (y6 : Int), y6 = (gRow M 27 224 (x1 * 8 + y5)) →
     (0 ≤ x1 ∧ x1 ≤ 1000 ∧ 0 ≤ x4 ∧ x4 ≤ 1000) ∧
     ∀ (y7 : Int), y7 = (gRow M 29 224 (x1 * 8 + x4)) →
     ∀ (y8 : Int), y8 = (gPl M 4 0 y2 y7) →
     ∀ (y9 : Int), y9 = (gPl M 4 0 y2 y4) →
     qm_R (y8 - y9) ∧
     qm_R (x3 + (y8 - y9)) ∧
     ∀ (y10 : Int), y10 = (gPl M 4 1 y4 y6) →
     ∀ (y11 : Int), y11 = (gPl M 4 1 y4 y2) →
     qm_R (y10 - y11) ∧
     qm_R ((x3 + (y8 - y9)) + (y10 - y11)) ∧
     qm_R (x4 + 1) ∧
     at_Turns_weigh_5 T d K M x1 (((x3 + (y8 - y9)) + (y10 - y11))) ((x4 + 1)))) : at_Turns_weigh_5 T d K M x1 x3 x4 :=
  fun d5 d6 d7 => qm_wp_TT [5] 63 (And.intro (lo_25 T) (s_Turns_length (d := d + 1)   (And.intro (fun q12 => ((h _ rfl).1 q12)) (fun q13 => And.intro (lo_25 T) (s_Turns_left (d := d + 1)  (((h _ rfl).2 q13).1) (And.intro (lo_25 T) (s_Turns_following (d := d + 0)  ((((h _ rfl).2 q13).2 _ rfl).1) (And.intro (lo_25 T) (s_Turns_right (d := d + 1)  (((((h _ rfl).2 q13).2 _ rfl).2 _ rfl).1) (And.intro (lo_25 T) (s_Turns_following (d := d + 0)  ((((((h _ rfl).2 q13).2 _ rfl).2 _ rfl).2 _ rfl).1) (And.intro (lo_25 T) (s_Turns_left (d := d + 1)  (((((((h _ rfl).2 q13).2 _ rfl).2 _ rfl).2 _ rfl).2 _ rfl).1) (And.intro (lo_25 T) (s_Turns_right (d := d + 1)  ((((((((h _ rfl).2 q13).2 _ rfl).2 _ rfl).2 _ rfl).2 _ rfl).2 _ rfl).1) (And.intro (lo_4 T) (s_Lists_place (d := d + 1) (lLs_4 T)  (And.intro (lo_4 T) (s_Lists_place (d := d + 1) (lLs_4 T)  (And.intro ((((((((((h _ rfl).2 q13).2 _ rfl).2 _ rfl).2 _ rfl).2 _ rfl).2 _ rfl).2 _ rfl) _ rfl) _ rfl).1 (And.intro ((((((((((h _ rfl).2 q13).2 _ rfl).2 _ rfl).2 _ rfl).2 _ rfl).2 _ rfl).2 _ rfl) _ rfl) _ rfl).2.1 (And.intro (lo_4 T) (s_Lists_place (d := d + 1) (lLs_4 T)  (And.intro (lo_4 T) (s_Lists_place (d := d + 1) (lLs_4 T)  (And.intro ((((((((((((h _ rfl).2 q13).2 _ rfl).2 _ rfl).2 _ rfl).2 _ rfl).2 _ rfl).2 _ rfl) _ rfl) _ rfl).2.2 _ rfl) _ rfl).1 (And.intro ((((((((((((h _ rfl).2 q13).2 _ rfl).2 _ rfl).2 _ rfl).2 _ rfl).2 _ rfl).2 _ rfl) _ rfl) _ rfl).2.2 _ rfl) _ rfl).2.1 (And.intro ((((((((((((h _ rfl).2 q13).2 _ rfl).2 _ rfl).2 _ rfl).2 _ rfl).2 _ rfl).2 _ rfl) _ rfl) _ rfl).2.2 _ rfl) _ rfl).2.2.1 (((((((((((((h _ rfl).2 q13).2 _ rfl).2 _ rfl).2 _ rfl).2 _ rfl).2 _ rfl).2 _ rfl) _ rfl) _ rfl).2.2 _ rfl) _ rfl).2.2.2 _ _ _)))))))))))))))))))))))))))))
theorem en_Turns_weigh {T : qm_L}  {d : Nat} {K : qm_K} {M : qm_M} {t : Int} (h :
    at_Turns_weigh_5 T d K M t 0 0) : qm_Runs qm_P (d + 4) 94 [(.inr (some 25)), (.inl t), (.inr (some 4))] (qL T) M K :=
  And.intro (Nat.le_of_ble_eq_true rfl) (show qm_TT qi_94 (qm_Runs qm_P (d + 3)) K 0 [some (.inr (some 25)), some (.inl t), some (.inr (some 4)), none, none, none, none, none] [] (qL T) M 0 0 from qm_wp_TT [5] 63 (h _ _ _))
theorem lp_Turns_weigh {T : qm_L} {d : Nat} {K : qm_K} {M : qm_M} {n t : Nat} {w p : Nat → Nat} (hl : qLR M 4 n w p) (h28 : t < 28) (hlt : rL n w p t < n) (hT : qTp M n w p t) (hK : K (.inl (rgn n w p t)) (qL T) M) : ∀ (j k : Nat), k + j = rlen n w p t → at_Turns_weigh_5 T d K M (t : Int) (sumI (rga1 n w p t) k) (k : Int)
  | 0, k, hk => fun d5 d6 d7 => by
    have hk : k = rlen n w p t := by omega
    subst hk
    refine rg_Turns_weigh_5 ?_ d5 d6 d7
    intro y1 e1
    rw [Td_len hT h28] at e1
    exact And.intro (fun _ => hK) (fun h => absurd h (by omega))
  | j + 1, k, hk => fun d5 d6 d7 => by
    have hI := hl.2.2.2
    have h8 := hI.2.1
    have hx := rle_lt hI hlt k
    have hx1 := rle_lt hI hlt (k + 1)
    have hlen := rlen_ok hI hlt
    obtain ⟨f, f1, f2, f3, f4⟩ := Td_fl hI hT h28 hlt (show k < rlen n w p t by omega)
    have hb : 0 ≤ (t : Int) ∧ (t : Int) ≤ 1000 ∧ 0 ≤ (k : Int) ∧ (k : Int) ≤ 1000 := by omega
    have ih := lp_Turns_weigh (d := d) hl h28 hlt hT hK j (k + 1) (by omega)
    have g0 : gPl M 4 0 (rle n w p t k : Int) (rri n w p t k : Int) = (p (ix 0 (rle n w p t k) (rri n w p t k)) : Int) := gPl_n (s := 0) hl (by omega) hx.1 hx.2
    have g1 : gPl M 4 0 (rle n w p t k : Int) (rri n w p t (k + 1) : Int) = (p (ix 0 (rle n w p t k) (rri n w p t (k + 1))) : Int) := gPl_n (s := 0) hl (by omega) hx.1 hx1.2
    have g2 : gPl M 4 1 (rri n w p t (k + 1) : Int) (rle n w p t (k + 1) : Int) = (p (ix 1 (rri n w p t (k + 1)) (rle n w p t (k + 1))) : Int) := gPl_n (s := 1) hl (by omega) hx1.2 hx1.1
    have g3 : gPl M 4 1 (rri n w p t (k + 1) : Int) (rle n w p t k : Int) = (p (ix 1 (rri n w p t (k + 1)) (rle n w p t k)) : Int) := gPl_n (s := 1) hl (by omega) hx1.2 hx.1
    have hs := sumI_abs (f := rga1 n w p t) (b := 14) (n := k) (fun j _ => rga1_le hI hlt j)
    have hr1 := rga1_le hI hlt k
    have e : sumI (rga1 n w p t) (k + 1) = sumI (rga1 n w p t) k + rga1 n w p t k := rfl
    have q1 := (hI.2.2 0 _ (by omega) hx.1 _ hx.2).2.2.1
    have q2 := (hI.2.2 0 _ (by omega) hx.1 _ hx1.2).2.2.1
    have q3 := (hI.2.2 1 _ (by omega) hx1.2 _ hx.1).2.2.1
    have q4 := (hI.2.2 1 _ (by omega) hx1.2 _ hx1.1).2.2.1
    refine rg_Turns_weigh_5 ?_ d5 d6 d7
    intro y1 e1
    rw [Td_len hT h28] at e1
    refine And.intro (fun h => absurd h (by omega)) (fun _ => And.intro hb ?_)
    intro y2 e2
    rw [Td_left hT h28 (by omega) (by omega)] at e2
    refine And.intro (by omega) ?_
    intro y3 e3
    rw [f1] at e3
    refine And.intro (by omega) ?_
    intro y4 e4
    rw [e3, f4] at e4
    refine And.intro (by omega) ?_
    intro y5 e5
    rw [f1] at e5
    refine And.intro (by omega) ?_
    intro y6 e6
    rw [e5, f3] at e6
    refine And.intro hb ?_
    intro y7 e7
    rw [Td_right hT h28 (by omega) (by omega)] at e7
    intro y8 e8
    rw [e2, e7, g0] at e8
    intro y9 e9
    rw [e2, e4, g1] at e9
    refine And.intro (by unfold qm_R; omega) (And.intro (by unfold qm_R; omega) ?_)
    intro y10 e10
    rw [e4, e6, g2] at e10
    intro y11 e11
    rw [e4, e2, g3] at e11
    refine And.intro (by unfold qm_R; omega) (And.intro (by unfold qm_R; omega) (And.intro (by unfold qm_R; omega) ?_))
    have ev : sumI (rga1 n w p t) k + (y8 - y9) + (y10 - y11) = sumI (rga1 n w p t) (k + 1) := by
      rw [e, e8, e9, e10, e11]
      unfold rga1
      omega
    rw [ev]
    exact ih
theorem s_Turns_weigh {T : qm_L} {n i : Nat} {w p : Nat → Nat} {d : Nat} {K : qm_K} {M : qm_M} {t : Int} (hp0 : qLR M 4 n w p) (hp1 : i < 28 ∧ rL n w p i < n ∧ t = (i : Int)) (hp2 : qTp M n w p i) (hK : K (.inl ((rgn n w p i))) (qL T) M) : qm_Runs qm_P (d + 4) 94 [(.inr (some 25)), (.inl t), (.inr (some 4))] (qL T) M K := by
  obtain ⟨h28, hlt, rfl⟩ := hp1
  have := lp_Turns_weigh (T := T) (d := d) hp0 h28 hlt hp2 hK (rlen n w p i) 0 (by omega)
  exact en_Turns_weigh this
def mkP (M M0 : qm_M) (n t : Nat) (A : Nat → Prop) (B : Nat → Nat → Prop) : Prop := (∀ a, a < n → A a → M 44 a = (t : Int)) ∧ (∀ a, a < n → ¬ A a → M 44 a = M0 44 a) ∧ (∀ b a, b < n → a < n → B b a → M 46 (8 * b + a) = (t : Int)) ∧ (∀ b a, b < n → a < n → ¬ B b a → M 46 (8 * b + a) = M0 46 (8 * b + a)) ∧ ∀ c, c ≠ 44 → c ≠ 46 → M c = M0 c
theorem mkP_44 {M M0 : qm_M} {n t a : Nat} {A A2 : Nat → Prop} {B : Nat → Nat → Prop} (h : mkP M M0 n t A B) (hA : ∀ x, A2 x ↔ A x ∨ x = a) : mkP (qm_u M 44 a (t : Int)) M0 n t A2 B := by
  obtain ⟨h1, h2, h3, h4, h5⟩ := h
  refine ⟨fun x hx hq => ?_, fun x hx hq => ?_, fun b x hb hx hq => ?_, fun b x hb hx hq => ?_, fun c q1 q2 => ?_⟩
  · by_cases hxa : x = a
    · rw [hxa, qu_s]
    · rw [qu_k hxa]
      exact h1 x hx (((hA x).mp hq).elim id (fun q => absurd q hxa))
  · rw [qu_k (fun q => hq ((hA x).mpr (Or.inr q)))]
    exact h2 x hx (fun q => hq ((hA x).mpr (Or.inl q)))
  · rw [qu_c (by decide)]; exact h3 b x hb hx hq
  · rw [qu_c (by decide)]; exact h4 b x hb hx hq
  · rw [qu_cf q1]; exact h5 c q1 q2
theorem mkP_46 {M M0 : qm_M} {n t b0 a0 : Nat} {A : Nat → Prop} {B B2 : Nat → Nat → Prop} (h8 : n ≤ 8) (ha0 : a0 < 8) (h : mkP M M0 n t A B) (hB : ∀ b a, b < n → a < n → (B2 b a ↔ B b a ∨ (b = b0 ∧ a = a0))) : mkP (qm_u M 46 (8 * b0 + a0) (t : Int)) M0 n t A B2 := by
  obtain ⟨h1, h2, h3, h4, h5⟩ := h
  refine ⟨fun x hx hq => ?_, fun x hx hq => ?_, fun b x hb hx hq => ?_, fun b x hb hx hq => ?_, fun c q1 q2 => ?_⟩
  · rw [qu_c (by decide)]; exact h1 x hx hq
  · rw [qu_c (by decide)]; exact h2 x hx hq
  · by_cases hxa : b = b0 ∧ x = a0
    · rw [hxa.1, hxa.2, qu_s]
    · rw [qu_k (by omega)]
      exact h3 b x hb hx (((hB b x hb hx).mp hq).elim id (fun q => absurd q hxa))
  · have hxa : ¬ (b = b0 ∧ x = a0) := fun q => hq ((hB b x hb hx).mpr (Or.inr q))
    rw [qu_k (by omega)]
    exact h4 b x hb hx (fun q => hq ((hB b x hb hx).mpr (Or.inl q)))
  · rw [qu_cf q2]; exact h5 c q1 q2
theorem mkP_congr {M M0 : qm_M} {n t : Nat} {A : Nat → Prop} {B B2 : Nat → Nat → Prop} (h : mkP M M0 n t A B) (hB : ∀ b a, b < n → a < n → (B2 b a ↔ B b a)) : mkP M M0 n t A B2 := ⟨h.1, h.2.1, fun b a hb ha q => h.2.2.1 b a hb ha ((hB b a hb ha).mp q), fun b a hb ha q => h.2.2.2.1 b a hb ha (fun z => q ((hB b a hb ha).mpr z)), h.2.2.2.2⟩
def mkA (n : Nat) (w p : Nat → Nat) (t k x : Nat) : Prop := ∃ j, j < k ∧ rle n w p t j = x
def mkB (n : Nat) (w p : Nat → Nat) (t k b a : Nat) : Prop := ∃ j, j < k ∧ rri n w p t (j + 1) = b ∧ psd n w p t b a
def mkG (n : Nat) (w p : Nat → Nat) (t k g b a : Nat) : Prop := mkB n w p t k b a ∨ (b = rri n w p t (k + 1) ∧ p (ix 1 b (rle n w p t k)) < p (ix 1 b a) ∧ p (ix 1 b a) < g)
theorem mk_psd {n : Nat} {w p : Nat → Nat} (hI : qInv n w p) {t : Nat} (hl : rL n w p t < n) {k a : Nat} : psd n w p t (rri n w p t (k + 1)) a ↔ p (ix 1 (rri n w p t (k + 1)) (rle n w p t k)) < p (ix 1 (rri n w p t (k + 1)) a) ∧ p (ix 1 (rri n w p t (k + 1)) a) < p (ix 1 (rri n w p t (k + 1)) (rle n w p t (k + 1))) := by
  have h := r_in hI hl (rle_in (k := k))
  unfold psd
  rw [rri_next hI hl k, h.2.2.2.1, h.2.2.2.2.2.1]
  exact Iff.rfl
theorem mk_end {n : Nat} {w p : Nat → Nat} (hI : qInv n w p) {t : Nat} (hl : rL n w p t < n) {b a : Nat} (hb : b < n) : mkB n w p t (rlen n w p t) b a ↔ psd n w p t b a := by
  constructor
  · rintro ⟨j, _, _, h⟩
    exact h
  · intro h
    have hin : rIn n w p t (rV n w p t b) := Classical.byContradiction fun z => by
      have e := r_outV hI z
      unfold psd at h
      rw [e] at h
      omega
    obtain ⟨h1, h2, h3⟩ := r_inV hI hl hb hin
    obtain ⟨j, hj, e⟩ := (rin_le hI hl).mp h1
    refine ⟨j, hj, ?_, h⟩
    rw [rri_next hI hl j, e, h2]
theorem mk_next {M M0 : qm_M} {n : Nat} {w p : Nat → Nat} (hI : qInv n w p) {t : Nat} (hl : rL n w p t < n) (h : mkP M M0 n t (mkA n w p t (rlen n w p t)) (mkB n w p t (rlen n w p t))) (hB : qBr M0 n w p t) (hP : qPs M0 n w p t) : qBr M n w p (t + 1) ∧ qPs M n w p (t + 1) := by
  obtain ⟨h1, h2, h3, h4, h5⟩ := h
  refine ⟨fun a ha => ?_, fun b a hb ha => ?_⟩
  · by_cases hin : rIn n w p t a
    · exact Or.inl ⟨t, h1 a ha ((rin_le hI hl).mp hin), by omega, hin, fun x q1 q2 => absurd q2 (by omega)⟩
    · rw [h2 a ha (fun z => hin ((rin_le hI hl).mpr z))]
      rcases hB a ha with ⟨u, hu, h6, h7, h8⟩ | ⟨hu, h6⟩
      · refine Or.inl ⟨u, hu, by omega, h7, fun x q1 q2 => ?_⟩
        by_cases hxt : x = t
        · rw [hxt]; exact hin
        · exact h8 x q1 (by omega)
      · refine Or.inr ⟨hu, fun x q2 => ?_⟩
        by_cases hxt : x = t
        · rw [hxt]; exact hin
        · exact h6 x (by omega)
  · by_cases hin : psd n w p t b a
    · exact Or.inl ⟨t, h3 b a hb ha ((mk_end hI hl hb).mpr hin), by omega, hin⟩
    · rw [h4 b a hb ha (fun z => hin ((mk_end hI hl hb).mp z))]
      rcases hP b a hb ha with ⟨u, hu, h6, h7⟩ | ⟨hu, h6⟩
      · exact Or.inl ⟨u, hu, by omega, h7⟩
      · refine Or.inr ⟨hu, fun x q2 => ?_⟩
        by_cases hxt : x = t
        · rw [hxt]; exact hin
        · exact h6 x (by omega)
def at_Turns_markPassed_2 (T : qm_L) (d : Nat) (K : qm_K) (M : qm_M) (x1 x3 : Int) : Prop := ∀ (d4 d5 d6 d7 : Option qm_V), qm_TT qi_95 (qm_Runs qm_P (d + 3)) K 2 [some (.inr (some 25)), some (.inl x1), some (.inr (some 4)), some (.inl x3), d4, d5, d6, d7] [] (qL T) M 0 0
def at_Turns_markPassed_75 (T : qm_L) (d : Nat) (K : qm_K) (M : qm_M) (x1 x3 x5 x6 x7 : Int) : Prop := ∀ (d4 : Option qm_V), qm_TT qi_95 (qm_Runs qm_P (d + 3)) K 75 [some (.inr (some 25)), some (.inl x1), some (.inr (some 4)), some (.inl x3), d4, some (.inl x5), some (.inl x6), some (.inl x7)] [] (qL T) M 0 0
theorem rg_Turns_markPassed_2 {T : qm_L}  {d : Nat} {K : qm_K} {M : qm_M} {x1 x3 : Int} (h :
    ∀ (y1 : Int), y1 = (gRow M 31 28 x1) →
    (y1 ≤ x3 →
     K (.inl 0) (qL T) M) ∧
    (¬ y1 ≤ x3 →
     (0 ≤ x1 ∧ x1 ≤ 1000 ∧ 0 ≤ x3 ∧ x3 ≤ 1000) ∧
     ∀ (y2 : Int), y2 = (gRow M 27 224 (x1 * 8 + x3)) →
     (0 ≤ x3 ∧ x3 ≤ 1000) ∧
     ∀ (y3 : Int), y3 = (if x3 + 1 < gRow M 31 28 x1 then x3 + 1 else 0) →
     (0 ≤ x1 ∧ x1 ≤ 1000 ∧ 0 ≤ y3 ∧ y3 ≤ 1000) ∧
     ∀ (y4 : Int), y4 = (gRow M 29 224 (x1 * 8 + y3)) →
     (0 ≤ x3 ∧ x3 ≤ 1000) ∧
     ∀ (y5 : Int), y5 = (if x3 + 1 < gRow M 31 28 x1 then x3 + 1 else 0) →
     (0 ≤ x1 ∧ x1 ≤ 1000 ∧ 0 ≤ y5 ∧ y5 ≤ 1000) ∧
     ∀ (y6 : Int), y6 = (gRow M 27 224 (x1 * 8 + y5)) →
     ∀ (y7 : Int), y7 = (gPl M 4 1 y4 y6) →
     ∀ (M8 : qm_M), M8 = (sRow M 44 8 y2 x1) →
     ∀ (y9 : Int), y9 = (gPl M8 4 1 y4 y2) →
     qm_R (y9 + 1) ∧
     at_Turns_markPassed_75 T d K M8 x1 x3 y4 y7 ((y9 + 1)))) : at_Turns_markPassed_2 T d K M x1 x3 :=
  fun d4 d5 d6 d7 => qm_wp_TT [2, 75] 47 (And.intro (lo_25 T) (s_Turns_length (d := d + 1)   (And.intro (fun q12 => ((h _ rfl).1 q12)) (fun q13 => And.intro (lo_25 T) (s_Turns_left (d := d + 1)  (((h _ rfl).2 q13).1) (And.intro (lo_25 T) (s_Turns_following (d := d + 0)  ((((h _ rfl).2 q13).2 _ rfl).1) (And.intro (lo_25 T) (s_Turns_right (d := d + 1)  (((((h _ rfl).2 q13).2 _ rfl).2 _ rfl).1) (And.intro (lo_25 T) (s_Turns_following (d := d + 0)  ((((((h _ rfl).2 q13).2 _ rfl).2 _ rfl).2 _ rfl).1) (And.intro (lo_25 T) (s_Turns_left (d := d + 1)  (((((((h _ rfl).2 q13).2 _ rfl).2 _ rfl).2 _ rfl).2 _ rfl).1) (And.intro (lo_4 T) (s_Lists_place (d := d + 1) (lLs_4 T)  (Exists.intro 43 (And.intro (lf_25_9 T) (And.intro (lo_43 T) (s_Row_set (d := d + 2) (lRow_43 T)  (And.intro (lo_4 T) (s_Lists_place (d := d + 1) (lLs_4 T)  (And.intro ((((((((((h _ rfl).2 q13).2 _ rfl).2 _ rfl).2 _ rfl).2 _ rfl).2 _ rfl) _ rfl) _ rfl) _ rfl).1 (((((((((((h _ rfl).2 q13).2 _ rfl).2 _ rfl).2 _ rfl).2 _ rfl).2 _ rfl) _ rfl) _ rfl) _ rfl).2 _)))))))))))))))))))))))
theorem rg_Turns_markPassed_75 {T : qm_L}  {d : Nat} {K : qm_K} {M : qm_M} {x1 x3 x5 x6 x7 : Int} (h :
    (x6 ≤ x7 →
     qm_R (x3 + 1) ∧
     at_Turns_markPassed_2 T d K M x1 ((x3 + 1))) ∧
    (¬ x6 ≤ x7 →
     qm_R (x5 * 8) ∧
     ∀ (y10 : Int), y10 = (gWho M 4 1 x5 x7) →
     qm_R ((x5 * 8) + y10) ∧
     ∀ (M11 : qm_M), M11 = (sRow M 46 64 ((x5 * 8) + y10) x1) →
     qm_R (x7 + 1) ∧
     at_Turns_markPassed_75 T d K M11 x1 x3 x5 x6 ((x7 + 1)))) : at_Turns_markPassed_75 T d K M x1 x3 x5 x6 x7 :=
  fun d4 => qm_wp_TT [2, 75] 47 (And.intro (fun q14 => And.intro (h.1 q14).1 ((h.1 q14).2 _ _ _ _)) (fun q15 => Exists.intro 45 (And.intro (lf_25_10 T) (And.intro (h.2 q15).1 (And.intro (lo_4 T) (s_Lists_who (d := d + 1) (lLs_4 T)  (And.intro ((h.2 q15).2 _ rfl).1 (And.intro (lo_45 T) (s_Row_set (d := d + 2) (lRow_45 T)  (And.intro (((h.2 q15).2 _ rfl).2 _ rfl).1 ((((h.2 q15).2 _ rfl).2 _ rfl).2 _)))))))))))
theorem en_Turns_markPassed {T : qm_L}  {d : Nat} {K : qm_K} {M : qm_M} {t : Int} (h :
    at_Turns_markPassed_2 T d K M t 0) : qm_Runs qm_P (d + 4) 95 [(.inr (some 25)), (.inl t), (.inr (some 4))] (qL T) M K :=
  And.intro (Nat.le_of_ble_eq_true rfl) (show qm_TT qi_95 (qm_Runs qm_P (d + 3)) K 0 [some (.inr (some 25)), some (.inl t), some (.inr (some 4)), none, none, none, none, none] [] (qL T) M 0 0 from qm_wp_TT [2, 75] 47 (h _ _ _ _))
theorem lp_Turns_markPassed {T : qm_L} {d : Nat} {K : qm_K} {M0 : qm_M} {n t : Nat} {w p : Nat → Nat} (hl0 : qLR M0 4 n w p) (h28 : t < 28) (hlt : rL n w p t < n) (hT0 : qTp M0 n w p t) (hK : ∀ M2 : qm_M, mkP M2 M0 n t (mkA n w p t (rlen n w p t)) (mkB n w p t (rlen n w p t)) → K (.inl 0) (qL T) M2) : ∀ (j k : Nat) (M : qm_M), k + j = rlen n w p t → mkP M M0 n t (mkA n w p t k) (mkB n w p t k) → at_Turns_markPassed_2 T d K M (t : Int) (k : Int)
  | 0, k, M, hk, hS => fun d4 d5 d6 d7 => by
    have hk : k = rlen n w p t := by omega
    subst hk
    have hT : qTp M n w p t := qTp_mem hT0 (hS.2.2.2.2 _ (by decide) (by decide)) (hS.2.2.2.2 _ (by decide) (by decide)) (hS.2.2.2.2 _ (by decide) (by decide))
    refine rg_Turns_markPassed_2 ?_ d4 d5 d6 d7
    intro y1 e1
    rw [Td_len hT h28] at e1
    exact And.intro (fun _ => hK M hS) (fun h => absurd h (by omega))
  | j + 1, k, M, hk, hS => fun d4 d5 d6 d7 => by
    have hI := hl0.2.2.2
    have h8 := hI.2.1
    have hx := rle_lt hI hlt k
    have hx1 := rle_lt hI hlt (k + 1)
    have hlen := rlen_ok hI hlt
    have hT : qTp M n w p t := qTp_mem hT0 (hS.2.2.2.2 _ (by decide) (by decide)) (hS.2.2.2.2 _ (by decide) (by decide)) (hS.2.2.2.2 _ (by decide) (by decide))
    have hl : qLR M 4 n w p := qLR_mem hl0 (hS.2.2.2.2 _ (by decide) (by decide)) (hS.2.2.2.2 _ (by decide) (by decide)) (hS.2.2.2.2 _ (by decide) (by decide))
    obtain ⟨f, f1, f2, f3, f4⟩ := Td_fl hI hT h28 hlt (show k < rlen n w p t by omega)
    have hb : 0 ≤ (t : Int) ∧ (t : Int) ≤ 1000 ∧ 0 ≤ (k : Int) ∧ (k : Int) ≤ 1000 := by omega
    have ih := lp_Turns_markPassed (d := d) hl0 h28 hlt hT0 hK j (k + 1)
    have q3 := (hI.2.2 1 _ (by omega) hx1.2 _ hx.1)
    have q4 := (hI.2.2 1 _ (by omega) hx1.2 _ hx1.1)
    have hin := r_in hI hlt (rle_in (k := k))
    have hlo : p (ix 1 (rri n w p t (k + 1)) (rle n w p t k)) < p (ix 1 (rri n w p t (k + 1)) (rle n w p t (k + 1))) := by
      have := hin.2.2.2.2.2.2.2.2.1
      rw [hin.2.2.2.2.2.1, ← rri_next hI hlt k] at this
      exact this
    have inner : ∀ (i g : Nat) (M1 : qm_M), p (ix 1 (rri n w p t (k + 1)) (rle n w p t k)) < g → g + i = p (ix 1 (rri n w p t (k + 1)) (rle n w p t (k + 1))) → mkP M1 M0 n t (mkA n w p t (k + 1)) (mkG n w p t k g) → at_Turns_markPassed_75 T d K M1 (t : Int) (k : Int) (rri n w p t (k + 1) : Int) (p (ix 1 (rri n w p t (k + 1)) (rle n w p t (k + 1))) : Int) (g : Int) := by
      intro i
      induction i with
      | zero =>
        intro g M1 h0 h1 hS1 d4
        refine rg_Turns_markPassed_75 (And.intro (fun _ => And.intro (by unfold qm_R; omega) ?_) (fun h => absurd h (by omega))) d4
        refine ih M1 (by omega) (mkP_congr hS1 (fun b a hb ha => ⟨?_, ?_⟩))
        · rintro ⟨i, hi, h2, h3⟩
          by_cases hik : i = k
          · subst hik
            refine Or.inr ⟨h2.symm, ?_⟩
            rw [← h2] at h3 ⊢
            have := (mk_psd hI hlt).mp h3
            omega
          · exact Or.inl ⟨i, by omega, h2, h3⟩
        · rintro (⟨i, hi, h2, h3⟩ | ⟨h2, h3, h4⟩)
          · exact ⟨i, by omega, h2, h3⟩
          · refine ⟨k, by omega, h2.symm, ?_⟩
            rw [h2] at h3 h4 ⊢
            exact (mk_psd hI hlt).mpr (by omega)
      | succ i ihi =>
        intro g M1 h0 h1 hS1 d4
        have hgn : g < n := by have := q4.2.2.1; omega
        have hw := hI.2.2 1 _ (by omega) hx1.2 g hgn
        have hl1 : qLR M1 4 n w p := qLR_mem hl0 (hS1.2.2.2.2 _ (by decide) (by decide)) (hS1.2.2.2.2 _ (by decide) (by decide)) (hS1.2.2.2.2 _ (by decide) (by decide))
        refine rg_Turns_markPassed_75 (And.intro (fun h => absurd h (by omega)) (fun _ => And.intro (by unfold qm_R; omega) ?_)) d4
        intro y10 e10
        rw [show gWho M1 4 1 (rri n w p t (k + 1) : Int) (g : Int) = (w (ix 1 (rri n w p t (k + 1)) g) : Int) from gWho_n (s := 1) hl1 (by omega) hx1.2 hgn] at e10
        refine And.intro (by unfold qm_R; omega) ?_
        intro M11 e11
        rw [e10, show (rri n w p t (k + 1) : Int) * 8 + (w (ix 1 (rri n w p t (k + 1)) g) : Int) = ((8 * rri n w p t (k + 1) + w (ix 1 (rri n w p t (k + 1)) g) : Nat) : Int) by omega, sRow_in (by omega)] at e11
        refine And.intro (by unfold qm_R; omega) (ihi (g + 1) M11 (by omega) (by omega) ?_)
        rw [e11]
        refine mkP_46 h8 (by omega) hS1 (fun b a hb ha => ⟨?_, ?_⟩)
        · rintro (h | ⟨h2, h3, h4⟩)
          · exact Or.inl (Or.inl h)
          · by_cases hpg : p (ix 1 b a) = g
            · refine Or.inr ⟨h2, ?_⟩
              have := (hI.2.2 1 b (by omega) hb a ha).2.2.2
              rw [← this, hpg, h2]
            · exact Or.inl (Or.inr ⟨h2, h3, by omega⟩)
        · rintro ((h | ⟨h2, h3, h4⟩) | ⟨h2, h3⟩)
          · exact Or.inl h
          · exact Or.inr ⟨h2, h3, by omega⟩
          · refine Or.inr ⟨h2, ?_⟩
            rw [h2, h3, hw.2.1]
            omega
    refine rg_Turns_markPassed_2 ?_ d4 d5 d6 d7
    intro y1 e1
    rw [Td_len hT h28] at e1
    refine And.intro (fun h => absurd h (by omega)) (fun _ => And.intro hb ?_)
    intro y2 e2
    rw [Td_left hT h28 (by omega) (by omega)] at e2
    refine And.intro (by omega) ?_
    intro y3 e3
    rw [f1] at e3
    refine And.intro (by omega) ?_
    intro y4 e4
    rw [e3, f4] at e4
    refine And.intro (by omega) ?_
    intro y5 e5
    rw [f1] at e5
    refine And.intro (by omega) ?_
    intro y6 e6
    rw [e5, f3] at e6
    intro y7 e7
    rw [e4, e6, show gPl M 4 1 (rri n w p t (k + 1) : Int) (rle n w p t (k + 1) : Int) = (p (ix 1 (rri n w p t (k + 1)) (rle n w p t (k + 1))) : Int) from gPl_n (s := 1) hl (by omega) hx1.2 hx1.1] at e7
    intro M8 e8
    rw [e2, sRow_in (by omega)] at e8
    have hl8 : qLR M8 4 n w p := qLR_mem hl (by rw [e8, qu_cf (by decide)]) (by rw [e8, qu_cf (by decide)]) (by rw [e8, qu_cf (by decide)])
    intro y9 e9
    rw [e4, e2, show gPl M8 4 1 (rri n w p t (k + 1) : Int) (rle n w p t k : Int) = (p (ix 1 (rri n w p t (k + 1)) (rle n w p t k)) : Int) from gPl_n (s := 1) hl8 (by omega) hx1.2 hx.1] at e9
    refine And.intro (by unfold qm_R; omega) ?_
    rw [e4, e7, e9]
    refine inner (p (ix 1 (rri n w p t (k + 1)) (rle n w p t (k + 1))) - (p (ix 1 (rri n w p t (k + 1)) (rle n w p t k)) + 1)) (p (ix 1 (rri n w p t (k + 1)) (rle n w p t k)) + 1) M8 (by omega) (by omega) ?_
    rw [e8]
    refine mkP_44 (mkP_congr hS (fun b a hb ha => ⟨?_, fun h => Or.inl h⟩)) (fun x => ⟨?_, ?_⟩)
    · rintro (h | ⟨h2, h3, h4⟩)
      · exact h
      · rw [h2] at h3 h4
        omega
    · rintro ⟨i, hi, h⟩
      by_cases hik : i = k
      · exact Or.inr (by rw [← h, hik])
      · exact Or.inl ⟨i, by omega, h⟩
    · rintro (⟨i, hi, h⟩ | h)
      · exact ⟨i, by omega, h⟩
      · exact ⟨k, by omega, h.symm⟩
theorem s_Turns_markPassed {T : qm_L} {n i : Nat} {w p : Nat → Nat} {d : Nat} {K : qm_K} {M : qm_M} {t : Int} (hp0 : qLR M 4 n w p) (hp1 : i < 28 ∧ rL n w p i < n ∧ t = (i : Int)) (hp2 : qTp M n w p i ∧ qBr M n w p i ∧ qPs M n w p i) (hK : ∀ (M2 : qm_M), (qBr M2 n w p (i + 1) ∧ qPs M2 n w p (i + 1) ∧ ∀ c, c ≠ 44 → c ≠ 46 → M2 c = M c) → K (.inl 0) (qL T) M2) : qm_Runs qm_P (d + 4) 95 [(.inr (some 25)), (.inl t), (.inr (some 4))] (qL T) M K := by
  obtain ⟨h28, hlt, rfl⟩ := hp1
  obtain ⟨hT, hB, hP⟩ := hp2
  have hI := hp0.2.2.2
  refine en_Turns_markPassed (lp_Turns_markPassed hp0 h28 hlt hT (fun M2 h2 => hK M2 ?_) (rlen n w p i) 0 M (by omega) ⟨fun a _ h => ?_, fun _ _ _ => rfl, fun b a _ _ h => ?_, fun _ _ _ _ _ => rfl, fun _ _ _ => rfl⟩)
  · have := mk_next hI hlt h2 hB hP
    exact ⟨this.1, this.2, h2.2.2.2.2⟩
  · obtain ⟨j, hj, _⟩ := h
    exact absurd hj (Nat.not_lt_zero _)
  · obtain ⟨j, hj, _⟩ := h
    exact absurd hj (Nat.not_lt_zero _)
