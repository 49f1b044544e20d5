theorem sTie_n {M : qm_M} {q l r : Nat} (hl : l < 8) (hr : r < 8) : sTie M q 0 (l : Int) (r : Int) = qm_u (qm_u M (q + 2) l (r : Int)) (q + 2) (8 + r) (l : Int) := by
  have e0 : cell2 0 (l : Int) = ((l : Nat) : Int) := by have := cell2_ix (s := 0) (a := l) (by omega) (by omega); rw [Nat.mul_zero, Nat.zero_add] at this; exact this
  have e1 : cell2 (1 - 0) (r : Int) = ((8 + r : Nat) : Int) := cell2_ix (s := 1) (a := r) (by omega) (by omega)
  unfold sTie
  rw [e0, e1, sRow_in (by omega), sRow_in (by omega)]
theorem qTp_mem {M M2 : qm_M} {n t : Nat} {w p : Nat → Nat} (h : qTp M n w p t) (e1 : M2 31 = M 31) (e2 : M2 27 = M 27) (e3 : M2 29 = M 29) : qTp M2 n w p t := by
  unfold qTp at *
  rw [e1, e2, e3]
  exact h
def pfS (M : qm_M) (n : Nat) (w p : Nat → Nat) (q t k : Nat) (u v u2 v2 : Nat → Nat) : Prop := (∀ a, a < n → (∃ j, j < k ∧ rle n w p t j = a) → M (q + 2) a = (u2 a : Int)) ∧ (∀ a, a < n → (¬ ∃ j, j < k ∧ rle n w p t j = a) → M (q + 2) a = (u a : Int)) ∧ (∀ b, b < n → (∃ j, j < k ∧ rri n w p t (j + 1) = b) → M (q + 2) (8 + b) = (v2 b : Int)) ∧ ∀ b, b < n → (¬ ∃ j, j < k ∧ rri n w p t (j + 1) = b) → M (q + 2) (8 + b) = (v b : Int)
def at_Turns_perform_2 (T : qm_L) (q : Nat) (d : Nat) (K : qm_K) (M : qm_M) (x1 x3 : Int) : Prop := qm_TT qi_84 (qm_Runs qm_P (d + 3)) K 2 [some (.inr (some 25)), some (.inl x1), some (.inr (some q)), some (.inl x3)] [] (qL T) M 0 0
theorem rg_Turns_perform_2 {T : qm_L} {q : Nat}  {d : Nat} {K : qm_K} {M : qm_M} {x1 x3 : Int} (hQ : qPr (qL T) q) (h :
    ∀ (y1 : Int), y1 = (gRow M 31 28 x1) →
    (y1 ≤ x3 →
     K (.inl 0) (qL T) M) ∧
    (¬ y1 ≤ x3 →
     (0 ≤ x1 ∧ x1 ≤ 1000 ∧ 0 ≤ x3 ∧ x3 ≤ 1000) ∧
     ∀ (y2 : Int), y2 = (gRow M 27 224 (x1 * 8 + x3)) →
     (0 ≤ x3 ∧ x3 ≤ 1000) ∧
     ∀ (y3 : Int), y3 = (if x3 + 1 < gRow M 31 28 x1 then x3 + 1 else 0) →
     (0 ≤ x1 ∧ x1 ≤ 1000 ∧ 0 ≤ y3 ∧ y3 ≤ 1000) ∧
     ∀ (y4 : Int), y4 = (gRow M 29 224 (x1 * 8 + y3)) →
     (0 ≤ (0 : Int) ∧ (0 : Int) ≤ 1) ∧
     ∀ (M5 : qm_M), M5 = (sTie M q 0 y2 y4) →
     qm_R (x3 + 1) ∧
     at_Turns_perform_2 T q d K M5 x1 ((x3 + 1)))) : at_Turns_perform_2 T q d K M x1 x3 :=
  qm_wp_TT [2] 25 (And.intro (lo_25 T) (s_Turns_length (d := d + 1)   (And.intro (fun q6 => ((h _ rfl).1 q6)) (fun q7 => And.intro (lo_25 T) (s_Turns_left (d := d + 1)  (((h _ rfl).2 q7).1) (And.intro (lo_25 T) (s_Turns_following (d := d + 0)  ((((h _ rfl).2 q7).2 _ rfl).1) (And.intro (lo_25 T) (s_Turns_right (d := d + 1)  (((((h _ rfl).2 q7).2 _ rfl).2 _ rfl).1) (And.intro (qm_FO hQ.1) (s_Pair_tie (d := d + 1) hQ ((((((h _ rfl).2 q7).2 _ rfl).2 _ rfl).2 _ rfl).1) (And.intro ((((((h _ rfl).2 q7).2 _ rfl).2 _ rfl).2 _ rfl).2 _ rfl).1 (((((((h _ rfl).2 q7).2 _ rfl).2 _ rfl).2 _ rfl).2 _ rfl).2)))))))))))))
theorem en_Turns_perform {T : qm_L} {q : Nat}  {d : Nat} {K : qm_K} {M : qm_M} {t : Int} (hQ : qPr (qL T) q) (h :
    at_Turns_perform_2 T q d K M t 0) : qm_Runs qm_P (d + 4) 84 [(.inr (some 25)), (.inl t), (.inr (some q))] (qL T) M K :=
  And.intro (Nat.le_of_ble_eq_true rfl) (show qm_TT qi_84 (qm_Runs qm_P (d + 3)) K 0 [some (.inr (some 25)), some (.inl t), some (.inr (some q)), none] [] (qL T) M 0 0 from qm_wp_TT [2] 25 (h))
theorem lp_Turns_perform {T : qm_L} {q d : Nat} {K : qm_K} {M0 : qm_M} {n t : Nat} {w p u v u2 v2 : Nat → Nat} (hQ : qPr (qL T) q) (hI : qInv n w p) (ht : t < rT n w p) (h27 : q + 2 ≠ 27 ∧ q + 2 ≠ 29 ∧ q + 2 ≠ 31) (hT : qTp M0 n w p t) (hm : qMt n u v) (hm2 : qMt n u2 v2) (h1 : ∀ a, rIn n w p t a → u a = rU n w p t a ∧ u2 a = rX n w p t a) (h2 : ∀ a, ¬ rIn n w p t a → u2 a = u a) (h3 : ∀ b, b < n → ¬ rIn n w p t (v b) → v2 b = v b) (hK : ∀ M2 : qm_M, (qPR M2 q n u2 v2 ∧ ∀ c, c ≠ q + 2 → M2 c = M0 c) → K (.inl 0) (qL T) M2) : ∀ (j k : Nat) (M : qm_M), k + j = rlen n w p t → pfS M n w p q t k u v u2 v2 → (∀ c, c ≠ q + 2 → M c = M0 c) → at_Turns_perform_2 T q d K M (t : Int) (k : Int)
  | 0, k, M, hk, hS, hc => by
    have hl := (T_lt hI ht).2
    have hlen := rlen_ok hI hl
    have hTM : qTp M n w p t := qTp_mem hT (hc _ (Ne.symm h27.2.2)) (hc _ (Ne.symm h27.1)) (hc _ (Ne.symm h27.2.1))
    have h8 := hI.2.1
    have hk : k = rlen n w p t := by omega
    subst hk
    refine rg_Turns_perform_2 hQ ?_
    intro y1 e1
    rw [Td_len hTM (T_lt hI ht).1] at e1
    refine And.intro (fun _ => hK M ⟨⟨fun a ha => ?_, fun b hb => ?_, qMt_pm hm2⟩, hc⟩) (fun h => absurd h (by omega))
    · have hu := (hm2.1 a ha).1
      rw [cz_n (by omega)]
      by_cases hin : rIn n w p t a
      · exact hS.1 a ha ((rin_le hI hl).mp hin)
      · rw [hS.2.1 a ha (fun z => hin ((rin_le hI hl).mpr z)), h2 a hin]
    · have hv := (hm2.2 b hb).1
      rw [cz_n (by omega)]
      by_cases hin : ∃ j, j < rlen n w p t ∧ rri n w p t (j + 1) = b
      · exact hS.2.2.1 b hb hin
      · rw [hS.2.2.2 b hb hin, h3 b hb (fun z => hin ?_)]
        obtain ⟨k, hk, e⟩ := (rin_le hI hl).mp z
        have hb2 : rri n w p t k = b := by
          have := (h1 _ z).1
          rw [(hm.2 b hb).2, ← e] at this
          exact this.symm
        rcases Nat.eq_zero_or_pos k with rfl | hpos
        · refine ⟨rlen n w p t - 1, by omega, ?_⟩
          rw [show rlen n w p t - 1 + 1 = rlen n w p t by omega, ← hb2]
          unfold rri
          rw [hlen.2.2.1]
        · exact ⟨k - 1, by omega, by rw [show k - 1 + 1 = k by omega]; exact hb2⟩
  | j + 1, k, M, hk, hS, hc => by
    have hl := (T_lt hI ht).2
    have h28 := (T_lt hI ht).1
    have hlen := rlen_ok hI hl
    have hTM : qTp M n w p t := qTp_mem hT (hc _ (Ne.symm h27.2.2)) (hc _ (Ne.symm h27.1)) (hc _ (Ne.symm h27.2.1))
    have h8 := hI.2.1
    have hx := rle_lt hI hl k
    have hx1 := rle_lt hI hl (k + 1)
    obtain ⟨f, f1, f2, f3, f4⟩ := Td_fl hI hTM h28 hl (show k < rlen n w p t by omega)
    have hb : 0 ≤ (t : Int) ∧ (t : Int) ≤ 1000 ∧ 0 ≤ (k : Int) ∧ (k : Int) ≤ 1000 := by omega
    refine rg_Turns_perform_2 hQ ?_
    intro y1 e1
    rw [Td_len hTM h28] at e1
    refine And.intro (fun h => absurd h (by omega)) (fun _ => And.intro hb ?_)
    intro y2 e2
    rw [Td_left hTM h28 (by omega) (by omega)] at e2
    refine And.intro (by omega) ?_
    intro y3 e3
    rw [f1] at e3
    refine And.intro (by omega) ?_
    intro y4 e4
    rw [e3, f4] at e4
    refine And.intro (by omega) ?_
    intro M5 e5
    rw [e2, e4, sTie_n (by omega) (by omega)] at e5
    refine And.intro (by unfold qm_R; omega) ?_
    have hrx := rri_next hI hl k
    have hin : rIn n w p t (rle n w p t k) := rle_in
    have hu2 : u2 (rle n w p t k) = rri n w p t (k + 1) := by rw [(h1 _ hin).2, hrx]
    have hv2 : v2 (rri n w p t (k + 1)) = rle n w p t k := by
      rw [← hu2]
      exact (hm2.1 _ hx.1).2
    have a1 : ∀ x, x ≠ 8 + rri n w p t (k + 1) → x ≠ rle n w p t k → M5 (q + 2) x = M (q + 2) x := fun x q1 q2 => by rw [e5, qu_k q1, qu_k q2]
    have a2 : M5 (q + 2) (rle n w p t k) = (rri n w p t (k + 1) : Int) := by rw [e5, qu_k (by omega), qu_s]
    have a3 : M5 (q + 2) (8 + rri n w p t (k + 1)) = (rle n w p t k : Int) := by rw [e5, qu_s]
    refine lp_Turns_perform hQ hI ht h27 hT hm hm2 h1 h2 h3 hK j (k + 1) M5 (by omega) ⟨fun a ha z => ?_, fun a ha z => ?_, fun b hb z => ?_, fun b hb z => ?_⟩ (fun c hcc => by rw [e5, qu_cf hcc, qu_cf hcc]; exact hc c hcc)
    · by_cases hak : rle n w p t k = a
      · rw [← hak, a2, hu2]
      · obtain ⟨i, hi, e⟩ := z
        rw [a1 a (by omega) (fun q => hak q.symm)]
        exact hS.1 a ha ⟨i, by rcases Nat.lt_or_ge i k with q | q; exact q; exact absurd (by rw [← e, show i = k by omega]) hak, e⟩
    · rw [a1 a (by omega) (fun q => z ⟨k, by omega, q.symm⟩)]
      exact hS.2.1 a ha (fun ⟨i, hi, e⟩ => z ⟨i, by omega, e⟩)
    · by_cases hbk : rri n w p t (k + 1) = b
      · rw [← hbk, a3, hv2]
      · obtain ⟨i, hi, e⟩ := z
        rw [a1 (8 + b) (by omega) (by omega)]
        exact hS.2.2.1 b hb ⟨i, by rcases Nat.lt_or_ge i k with q | q; exact q; exact absurd (by rw [← e, show i = k by omega]) hbk, e⟩
    · rw [a1 (8 + b) (fun q => z ⟨k, by omega, by omega⟩) (by omega)]
      exact hS.2.2.2 b hb (fun ⟨i, hi, e⟩ => z ⟨i, by omega, e⟩)
theorem s_Turns_perform {T : qm_L} {q : Nat} {n i : Nat} {w p u v u2 v2 : Nat → Nat} {d : Nat} {K : qm_K} {M : qm_M} {t : Int} (hQ : qPr (qL T) q) (hp0 : qInv n w p ∧ qTp M n w p i ∧ i < rT n w p ∧ t = (i : Int)) (hp1 : qPR M q n u v ∧ qMt n u v ∧ (q + 2) ≠ 27 ∧ (q + 2) ≠ 29 ∧ (q + 2) ≠ 31) (hp2 : qMt n u2 v2 ∧ (∀ a, rIn n w p i a → u a = rU n w p i a ∧ u2 a = rX n w p i a) ∧ (∀ a, ¬ rIn n w p i a → u2 a = u a) ∧ ∀ b, b < n → ¬ rIn n w p i (v b) → v2 b = v b) (hK : ∀ (M2 : qm_M), (qPR M2 q n u2 v2 ∧ ∀ c, c ≠ (q + 2) → M2 c = M c) → K (.inl 0) (qL T) M2) : qm_Runs qm_P (d + 4) 84 [(.inr (some 25)), (.inl t), (.inr (some q))] (qL T) M K := by
  obtain ⟨hI, hT, ht, rfl⟩ := hp0
  obtain ⟨hpr, hm, h27⟩ := hp1
  obtain ⟨hm2, h1, h2, h3⟩ := hp2
  have h8 := hI.2.1
  refine en_Turns_perform hQ (lp_Turns_perform hQ hI ht h27 hT hm hm2 h1 h2 h3 hK (rlen n w p i) 0 M (by omega) ⟨fun a ha z => ?_, fun a ha z => ?_, fun b hb z => ?_, fun b hb z => ?_⟩ (fun _ _ => rfl))
  · obtain ⟨j, hj, _⟩ := z; exact absurd hj (Nat.not_lt_zero _)
  · rw [hpr.1 a ha, cz_n (by have := (hm.1 a ha).1; omega)]
  · obtain ⟨j, hj, _⟩ := z; exact absurd hj (Nat.not_lt_zero _)
  · rw [hpr.2.1 b hb, cz_n (by have := (hm.2 b hb).1; omega)]
def at_Turns_nextOf_21 (T : qm_L) (d : Nat) (K : qm_K) (M : qm_M) (x1 x4 : Int) : Prop := ∀ (d3 d5 : Option qm_V), qm_TT qi_86 (qm_Runs qm_P (d + 3)) K 21 [some (.inr (some 25)), some (.inl x1), some (.inr (some 4)), d3, some (.inl x4), d5] [] (qL T) M 0 0
theorem rg_Turns_nextOf_21 {T : qm_L}  {d : Nat} {K : qm_K} {M : qm_M} {x1 x4 : Int} (h :
    ((M 4 2) ≤ x4 →
     K (.inl ((-1))) (qL T) M) ∧
    (¬ (M 4 2) ≤ x4 →
     (((gPar M 38 1 (gWho M 4 0 x1 x4)) = -1 ∨ gPl M 4 1 (gWho M 4 0 x1 x4) x1 < gPl M 4 1 (gWho M 4 0 x1 x4) (gPar M 38 1 (gWho M 4 0 x1 x4))) →
      K (.inl ((gWho M 4 0 x1 x4))) (qL T) M) ∧
     (¬ ((gPar M 38 1 (gWho M 4 0 x1 x4)) = -1 ∨ gPl M 4 1 (gWho M 4 0 x1 x4) x1 < gPl M 4 1 (gWho M 4 0 x1 x4) (gPar M 38 1 (gWho M 4 0 x1 x4))) →
      qm_R (x4 + 1) ∧
      at_Turns_nextOf_21 T d K M x1 ((x4 + 1))))) : at_Turns_nextOf_21 T d K M x1 x4 :=
  fun d3 d5 => qm_wp_TT [21] 27 (And.intro (lo_4 T) (s_Lists_each (d := d + 2) (lLs_4 T)  (And.intro (fun q1 => (h.1 q1)) (fun q2 => And.intro (lo_4 T) (s_Lists_who (d := d + 1) (lLs_4 T)  (Exists.intro 38 (And.intro (lf_25_7 T) (And.intro (lo_38 T) (s_Pair_partner (d := d + 1) (lPr_38 T)  (And.intro (lo_4 T) (s_Lists_wouldRather (d := d + 0) (lLs_4 T)  (And.intro (fun q3 => And.intro ((h.2 q2).2 (qm_b0 q3)).1 (((h.2 q2).2 (qm_b0 q3)).2 _ _)) (fun q4 => ((h.2 q2).1 (qm_b1 q4)))))))))))))))
theorem en_Turns_nextOf {T : qm_L}  {d : Nat} {K : qm_K} {M : qm_M} {l : Int} (h :
    qm_R ((gPl M 4 0 l (gPar M 38 0 l)) + 1) ∧
    at_Turns_nextOf_21 T d K M l (((gPl M 4 0 l (gPar M 38 0 l)) + 1))) : qm_Runs qm_P (d + 4) 86 [(.inr (some 25)), (.inl l), (.inr (some 4))] (qL T) M K :=
  And.intro (Nat.le_of_ble_eq_true rfl) (show qm_TT qi_86 (qm_Runs qm_P (d + 3)) K 0 [some (.inr (some 25)), some (.inl l), some (.inr (some 4)), none, none, none] [] (qL T) M 0 0 from qm_wp_TT [21] 27 (Exists.intro 38 (And.intro (lf_25_7 T) (And.intro (lo_38 T) (s_Pair_partner (d := d + 1) (lPr_38 T)  (And.intro (lo_4 T) (s_Lists_place (d := d + 1) (lLs_4 T)  (And.intro h.1 (h.2 _ _)))))))))
theorem lp_Turns_nextOf {T : qm_L} {d : Nat} {K : qm_K} {M : qm_M} {n a : Nat} {w p u v : Nat → Nat} (hl : qLR M 4 n w p) (hp : qPR M 38 n u v) (hm : qMt n u v) (ha : a < n) (hK : K (.inl (cz (nxr n w p u v a))) (qL T) M) : ∀ (j k : Nat), k + j = n → (∀ i, i < k → ¬ (p (ix 0 a (u a)) < i ∧ p (ix 1 (w (ix 0 a i)) a) < p (ix 1 (w (ix 0 a i)) (v (w (ix 0 a i)))))) → p (ix 0 a (u a)) < k → at_Turns_nextOf_21 T d K M (a : Int) (k : Int)
  | 0, k, hk, hn, hlo => fun d3 d5 => by
    have h8 := hl.2.2.2.2.1
    refine rg_Turns_nextOf_21 (And.intro (fun _ => qk_eq hK ?_) (fun h => absurd h (by rw [hl.1]; omega))) d3 d5
    have e : nxk n w p u v a = n := lst_none (fun i hi => hn i (by omega))
    unfold nxr
    rw [if_neg (by omega)]
    rfl
  | j + 1, k, hk, hn, hlo => fun d3 d5 => by
    have hI := hl.2.2.2
    have h8 := hI.2.1
    have hi := hI.2.2 0 a (by omega) ha k (by omega)
    have hv := (hm.2 _ hi.1).1
    refine rg_Turns_nextOf_21 (And.intro (fun h => absurd h (by rw [hl.1]; omega)) (fun _ => ?_)) d3 d5
    rw [show gWho M 4 0 (a : Int) (k : Int) = (w (ix 0 a k) : Int) from gWho_n (s := 0) hl (by omega) ha (by omega)]
    rw [gPar_r hp h8 hi.1]
    have hr := rat_iff (s := 1) (x := a) hl (by omega) hi.1 ha (Or.inr hv)
    rw [show ((1 : Nat) : Int) = 1 from rfl] at hr
    rw [lnk hr]
    refine And.intro (fun h => qk_eq hK ?_) (fun h => And.intro (by unfold qm_R; omega) (lp_Turns_nextOf hl hp hm ha hK j (k + 1) (by omega) (fun i hi2 z => ?_) (by omega)))
    · have e : nxk n w p u v a = k := lst_eq (by omega) ⟨hlo, h.elim (fun q => absurd q (by omega)) id⟩ hn
      unfold nxr
      rw [e, if_pos (by omega), cz_n (by omega)]
    · rcases Nat.lt_or_ge i k with q | q
      · exact hn i q z
      · have : i = k := by omega
        subst this
        exact h (Or.inr z.2)
theorem s_Turns_nextOf {T : qm_L} {n a : Nat} {w p u v : Nat → Nat} {d : Nat} {K : qm_K} {M : qm_M} {l : Int} (hp0 : qLR M 4 n w p) (hp1 : qPR M 38 n u v ∧ qMt n u v) (hp2 : a < n ∧ l = (a : Int)) (hK : K (.inl ((cz (nxr n w p u v a)))) (qL T) M) : qm_Runs qm_P (d + 4) 86 [(.inr (some 25)), (.inl l), (.inr (some 4))] (qL T) M K := by
  refine en_Turns_nextOf   ?_
  obtain ⟨hpr, hm⟩ := hp1
  obtain ⟨ha, rfl⟩ := hp2
  have hI := hp0.2.2.2
  have h8 := hI.2.1
  have hu := (hm.1 a ha).1
  have e : gPl M 4 0 (a : Int) (gPar M 38 0 (a : Int)) = (p (ix 0 a (u a)) : Int) := by
    rw [gPar_l hpr h8 ha, cz_n (by omega)]
    exact gPl_n (s := 0) hp0 (by omega) ha hu
  have hlt := (hI.2.2 0 a (by omega) ha _ hu).2.2.1
  rw [e]
  exact And.intro (by unfold qm_R; omega) (lp_Turns_nextOf hp0 hpr hm ha hK (n - (p (ix 0 a (u a)) + 1)) (p (ix 0 a (u a)) + 1) (by omega) (fun i hi z => by omega) (by omega))
def qFl (M : qm_M) (n : Nat) (f : Nat → Nat) : Prop := ∀ x, x < n → M 42 x = cz (f x)
theorem cz_inj {x a : Nat} (h : cz x = (a : Int)) : x = a := by
  unfold cz at h
  split at h <;> omega
theorem cz_eq {x a : Nat} (ha : a ≠ 9) : cz x = (a : Int) ↔ x = a := ⟨cz_inj, fun h => by rw [h, cz_n ha]⟩
theorem itf_nine {n : Nat} {f : Nat → Nat} (h : fok n f) {a s : Nat} (e : itf f s a = 9) : ∀ j, s ≤ j → itf f j a = 9 := fun j hj => by
  rw [show j = (j - s) + s by omega, itf_add, e, itf_9 h]
theorem itf_ok {n : Nat} {f : Nat → Nat} (h : fok n f) {a : Nat} (ha : a < n) : ∀ j, itf f j a = 9 ∨ itf f j a < n
  | 0 => Or.inr ha
  | j + 1 => h.2.1 _
def at_Turns_comesBack_12 (T : qm_L) (d : Nat) (K : qm_K) (M : qm_M) (x1 x2 x3 x4 : Int) : Prop := qm_TT qi_88 (qm_Runs qm_P (d + 1)) K 12 [some (.inr (some 25)), some (.inl x1), some (.inl x2), some (.inl x3), some (.inl x4)] [] (qL T) M 0 0
theorem rg_Turns_comesBack_12 {T : qm_L}  {d : Nat} {K : qm_K} {M : qm_M} {x1 x2 x3 x4 : Int} (h :
    (x2 ≤ x4 →
     (x3 ≠ x1 →
      K (.inl 0) (qL T) M) ∧
     (¬ x3 ≠ x1 →
      K (.inl 1) (qL T) M)) ∧
    (¬ x2 ≤ x4 →
     (x3 = x1 →
      (x3 ≠ x1 →
       K (.inl 0) (qL T) M) ∧
      (¬ x3 ≠ x1 →
       K (.inl 1) (qL T) M)) ∧
     (¬ x3 = x1 →
      (x3 ≠ (-1) →
       qm_R (x4 + 1) ∧
       at_Turns_comesBack_12 T d K M x1 x2 ((gRow M 42 8 x3)) ((x4 + 1))) ∧
      (¬ x3 ≠ (-1) →
       (x3 ≠ x1 →
        K (.inl 0) (qL T) M) ∧
       (¬ x3 ≠ x1 →
        K (.inl 1) (qL T) M))))) : at_Turns_comesBack_12 T d K M x1 x2 x3 x4 :=
  qm_wp_TT [12] 20 (And.intro (fun q1 => And.intro (fun q3 => And.intro (Or.inl rfl) ((h.1 q1).1 q3)) (fun q4 => And.intro (Or.inr rfl) ((h.1 q1).2 q4))) (fun q2 => And.intro (fun q5 => And.intro (fun q7 => And.intro (Or.inl rfl) (((h.2 q2).1 q5).1 q7)) (fun q8 => And.intro (Or.inr rfl) (((h.2 q2).1 q5).2 q8))) (fun q6 => And.intro (fun q9 => Exists.intro 41 (And.intro (lf_25_8 T) (And.intro (lo_41 T) (s_Row_get (d := d + 0) (lRow_41 T)  (And.intro (((h.2 q2).2 q6).1 q9).1 ((((h.2 q2).2 q6).1 q9).2)))))) (fun q10 => And.intro (fun q11 => And.intro (Or.inl rfl) ((((h.2 q2).2 q6).2 q10).1 q11)) (fun q12 => And.intro (Or.inr rfl) ((((h.2 q2).2 q6).2 q10).2 q12))))))
theorem en_Turns_comesBack {T : qm_L}  {d : Nat} {K : qm_K} {M : qm_M} {l : Int} {e : Int} (h :
    at_Turns_comesBack_12 T d K M l e ((gRow M 42 8 l)) 1) : qm_Runs qm_P (d + 2) 88 [(.inr (some 25)), (.inl l), (.inl e)] (qL T) M K :=
  And.intro (Nat.le_of_ble_eq_true rfl) (show qm_TT qi_88 (qm_Runs qm_P (d + 1)) K 0 [some (.inr (some 25)), some (.inl l), some (.inl e), none, none] [] (qL T) M 0 0 from qm_wp_TT [12] 20 (Exists.intro 41 (And.intro (lf_25_8 T) (And.intro (lo_41 T) (s_Row_get (d := d + 0) (lRow_41 T)  (h))))))
theorem lp_Turns_comesBack {T : qm_L} {d : Nat} {K : qm_K} {M : qm_M} {n a : Nat} {f : Nat → Nat} (hf : fok n f) (hF : qFl M n f) (ha : a < n) (hK : K (.inl (qm_b (cyc f a))) (qL T) M) : ∀ (j s : Nat), s + j = n → 1 ≤ s → (∀ i, 1 ≤ i → i < s → itf f i a ≠ a) → at_Turns_comesBack_12 T d K M (a : Int) (n : Int) (cz (itf f s a)) (s : Int)
  | j, s, hs, h1, hn => by
    have h8 := hf.1
    have yes : itf f s a = a → K (.inl 1) (qL T) M := fun h => qk_eq hK (qm_bt ⟨s, h1, h⟩)
    have no9 : itf f s a = 9 → K (.inl 0) (qL T) M := fun h => qk_eq hK (qm_bff (fun hc => by
      have := cyc_lt hf ha hc s
      omega))
    refine rg_Turns_comesBack_12 (And.intro (fun h => And.intro (fun h2 => ?_) (fun h2 => yes (cz_inj (Classical.not_not.mp h2)))) (fun h => And.intro (fun h2 => And.intro (fun h3 => absurd h2 h3) (fun h3 => yes (cz_inj h2))) (fun h2 => And.intro (fun h3 => And.intro (by unfold qm_R; omega) ?_) (fun h3 => And.intro (fun _ => no9 (cz_iff.mp (Classical.not_not.mp h3))) (fun h4 => absurd (Classical.not_not.mp h4) h2)))))
    · refine qk_eq hK (qm_bff (fun hc => ?_))
      have hp := per_spec hf ha hc
      rcases Nat.lt_or_ge (per f a) s with q | q
      · exact hn _ hp.1 q hp.2.2.1
      · have e : per f a = s := by omega
        exact h2 (by rw [← e, hp.2.2.1, cz_n (by omega)])
    · have hlt : itf f s a < n := by
        rcases itf_ok hf ha s with q | q
        · exact absurd (by rw [q]; rfl) h3
        · exact q
      rw [cz_n (by omega), gRow_in (by omega), hF _ hlt]
      obtain ⟨j, rfl⟩ : ∃ i, j = i + 1 := ⟨j - 1, by omega⟩
      exact lp_Turns_comesBack hf hF ha hK j (s + 1) (by omega) (by omega) (fun i hi1 hi2 => by
        rcases Nat.lt_or_ge i s with q | q
        · exact hn i hi1 q
        · intro z
          exact h2 (by rw [show s = i by omega, z, cz_n (by omega)]))
theorem s_Turns_comesBack {T : qm_L} {n a : Nat} {f : Nat → Nat} {d : Nat} {K : qm_K} {M : qm_M} {l : Int} {e : Int} (hp0 : fok n f ∧ qFl M n f) (hp1 : a < n ∧ l = (a : Int) ∧ e = (n : Int)) (hK : K (.inl (qm_b (cyc f a))) (qL T) M) : qm_Runs qm_P (d + 2) 88 [(.inr (some 25)), (.inl l), (.inl e)] (qL T) M K := by
  refine en_Turns_comesBack   ?_
  obtain ⟨hf, hF⟩ := hp0
  obtain ⟨ha, rfl, rfl⟩ := hp1
  have h8 := hf.1
  rw [gRow_in (by omega), hF a ha]
  exact lp_Turns_comesBack hf hF ha hK (n - 1) 1 (by omega) (by omega) (fun i h1 h2 => absurd h2 (by omega))
def at_Turns_firstLeader_2 (T : qm_L) (d : Nat) (K : qm_K) (M : qm_M) (x1 x2 : Int) : Prop := qm_TT qi_87 (qm_Runs qm_P (d + 2)) K 2 [some (.inr (some 25)), some (.inl x1), some (.inl x2)] [] (qL T) M 0 0
theorem rg_Turns_firstLeader_2 {T : qm_L} {n a : Nat} {f : Nat → Nat} {d : Nat} {K : qm_K} {M : qm_M} {x1 x2 : Int} (h :
    (x1 ≤ x2 →
     K (.inl ((-1))) (qL T) M) ∧
    (¬ x1 ≤ x2 →
     (fok n f ∧ qFl M n f) ∧
     (a < n ∧ x2 = (a : Int) ∧ x1 = (n : Int)) ∧
     ((cyc f a) →
      K (.inl x2) (qL T) M) ∧
     (¬ (cyc f a) →
      qm_R (x2 + 1) ∧
      at_Turns_firstLeader_2 T d K M x1 ((x2 + 1))))) : at_Turns_firstLeader_2 T d K M x1 x2 :=
  qm_wp_TT [2] 14 (And.intro (fun q1 => (h.1 q1)) (fun q2 => And.intro (lo_25 T) (s_Turns_comesBack (d := d + 0)  ((h.2 q2).1) ((h.2 q2).2.1) (And.intro (fun q3 => And.intro ((h.2 q2).2.2.2 (qm_b0 q3)).1 (((h.2 q2).2.2.2 (qm_b0 q3)).2)) (fun q4 => ((h.2 q2).2.2.1 (qm_b1 q4)))))))
theorem en_Turns_firstLeader {T : qm_L} {n a : Nat} {f : Nat → Nat} {d : Nat} {K : qm_K} {M : qm_M} {e : Int} (h :
    at_Turns_firstLeader_2 T d K M e 0) : qm_Runs qm_P (d + 3) 87 [(.inr (some 25)), (.inl e)] (qL T) M K :=
  And.intro (Nat.le_of_ble_eq_true rfl) (show qm_TT qi_87 (qm_Runs qm_P (d + 2)) K 0 [some (.inr (some 25)), some (.inl e), none] [] (qL T) M 0 0 from qm_wp_TT [2] 14 (h))
theorem lp_Turns_firstLeader {T : qm_L} {d : Nat} {K : qm_K} {M : qm_M} {n : Nat} {f : Nat → Nat} (hf : fok n f) (hF : qFl M n f) (hK : K (.inl (if lst (cyc f) n = n then (-1) else (lst (cyc f) n : Int))) (qL T) M) : ∀ (j x : Nat), x + j = n → (∀ z, z < x → ¬ cyc f z) → at_Turns_firstLeader_2 T d K M (n : Int) (x : Int)
  | 0, x, hx, hn => by
    have e : lst (cyc f) n = n := lst_none (fun j hj => hn j (by omega))
    rw [if_pos e] at hK
    exact rg_Turns_firstLeader_2 (n := n) (a := 0) (f := f) (And.intro (fun _ => hK) (fun z => absurd z (by omega)))
  | j + 1, x, hx, hn => by
    have h8 := hf.1
    refine rg_Turns_firstLeader_2 (n := n) (a := x) (f := f) (And.intro (fun z => absurd z (by omega)) (fun _ => And.intro ⟨hf, hF⟩ (And.intro ⟨by omega, rfl, rfl⟩ (And.intro (fun h => qk_eq hK ?_) (fun h => And.intro (by unfold qm_R; omega) (lp_Turns_firstLeader hf hF hK j (x + 1) (by omega) (fun z hz => ?_)))))))
    · have e : lst (cyc f) n = x := lst_eq (by omega) h hn
      rw [e, if_neg (by omega)]
    · by_cases hzx : z = x
      · rw [hzx]; exact h
      · exact hn z (by omega)
theorem s_Turns_firstLeader {T : qm_L} {n : Nat} {f : Nat → Nat} {d : Nat} {K : qm_K} {M : qm_M} {e : Int} (hp0 : fok n f ∧ qFl M n f) (hp1 : e = (n : Int)) (hK : K (.inl ((if lst (cyc f) n = n then (-1) else (lst (cyc f) n : Int)))) (qL T) M) : qm_Runs qm_P (d + 3) 87 [(.inr (some 25)), (.inl e)] (qL T) M K := by
  obtain ⟨hf, hF⟩ := hp0
  subst hp1
  exact en_Turns_firstLeader (n := n) (a := 0) (f := f) (lp_Turns_firstLeader hf hF hK n 0 (by omega) (fun z hz => absurd hz (Nat.not_lt_zero _)))
