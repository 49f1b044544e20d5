def rNx (M : qm_M) (n : Nat) (w p u v : Nat → Nat) : Prop := ∀ a, a < n → M 93 a = mz (nxr n w p u v a)
theorem nxk_le (n : Nat) (w p u v : Nat → Nat) (a : Nat) : nxk n w p u v a ≤ n := lst_le _ _
theorem nf {n : Nat} {w p u v : Nat → Nat} (hI : qInv n w p) (hm : qMt n u v) {a : Nat} (ha : a < n) : (nxr n w p u v a = 9 ∧ fo n w p u v a = 9) ∨ (nxr n w p u v a < n ∧ fo n w p u v a = v (nxr n w p u v a) ∧ fo n w p u v a < n) := by
  unfold nxr fo
  by_cases h : nxk n w p u v a < n
  · have hw := (hI.2.2 0 a (by omega) ha _ h).1
    rw [if_pos h, if_pos ⟨ha, h⟩]
    exact Or.inr ⟨hw, rfl, (hm.2 _ hw).1⟩
  · rw [if_neg h, if_neg (fun z => h z.2)]
    exact Or.inl ⟨rfl, rfl⟩
theorem qAr_mem {M M2 : qm_M} {c n : Nat} {u : Nat → Nat} (h : qAr M c n u) (e : M2 c = M c) : qAr M2 c n u := fun a ha => by rw [e]; exact h a ha
def at_R_nexts_2 (a N : Nat) (d : Nat) (K : qm_K) (M : qm_M) (x2 : Int) : Prop := ∀ (d3 d4 : Option qm_V), qm_TT qi_172 (qm_Runs qm_P (d + 3)) K 2 [some (.inr (some 71)), some (.inr (some a)), some (.inl x2), d3, d4] [] (qL qLM) M 0 0
def at_R_nexts_30 (a N : Nat) (d : Nat) (K : qm_K) (M : qm_M) (x2 x3 : Int) : Prop := ∀ (d4 : Option qm_V), qm_TT qi_172 (qm_Runs qm_P (d + 3)) K 30 [some (.inr (some 71)), some (.inr (some a)), some (.inl x2), some (.inl x3), d4] [] (qL qLM) M 0 0
theorem rg_R_nexts_2 {a N : Nat} {n : Nat} {u v : Nat → Nat} {d : Nat} {K : qm_K} {M : qm_M} {x2 : Int} (hA : qArr (qL qLM) a N) (h :
    ((M 71 0) ≤ x2 →
     K (.inl 0) (qL qLM) M) ∧
    (¬ (M 71 0) ≤ x2 →
     0 ≤ x2 ∧ x2 < 8 ∧
     ∀ (M1 : qm_M), M1 = (qm_u M 93 (Int.toNat x2) (-2)) →
     0 ≤ x2 ∧ x2 < N ∧
     ∀ (y2 : Int), y2 = (M1 a (Int.toNat x2)) →
     (0 ≤ ((0 : Int) : Int) ∧ ((0 : Int) : Int) ≤ 1 ∧ 0 ≤ (x2 : Int) ∧ (x2 : Int) ≤ 7 ∧ 0 ≤ (y2 : Int) ∧ (y2 : Int) ≤ 7) ∧
     ∀ (y3 : Int), y3 = (M1 73 (Int.toNat (64 * 0 + 8 * x2 + y2))) →
     qm_R (y3 + 1) ∧
     at_R_nexts_30 a N d K M1 x2 ((y3 + 1)))) : at_R_nexts_2 a N d K M x2 :=
  fun d3 d4 => qm_wp_TT [2, 30] 38 (And.intro (lf_71_0 ()) (And.intro (fun q9 => (h.1 q9)) (fun q10 => Exists.intro 93 (And.intro (lf_71_29 ()) (Exists.intro 8 (And.intro (la_93 ()) (And.intro (h.2 q10).1 (And.intro (h.2 q10).2.1 (Exists.intro N (And.intro hA.1 (And.intro ((h.2 q10).2.2 _ rfl).1 (And.intro ((h.2 q10).2.2 _ rfl).2.1 (And.intro (lo_71 ()) (s_R_placeOf (d := d + 1)  ((((h.2 q10).2.2 _ rfl).2.2 _ rfl).1) (And.intro ((((h.2 q10).2.2 _ rfl).2.2 _ rfl).2 _ rfl).1 (((((h.2 q10).2.2 _ rfl).2.2 _ rfl).2 _ rfl).2 _))))))))))))))))
theorem rg_R_nexts_30 {a N : Nat} {n : Nat} {u v : Nat → Nat} {d : Nat} {K : qm_K} {M : qm_M} {x2 x3 : Int} (hA : qArr (qL qLM) a N) (h :
    ((M 71 0) ≤ x3 →
     qm_R (x2 + 1) ∧
     at_R_nexts_2 a N d K M ((x2 + 1))) ∧
    (¬ (M 71 0) ≤ x3 →
     0 ≤ x2 ∧ x2 < 8 ∧
     ∀ (y4 : Int), y4 = (M 93 (Int.toNat x2)) →
     (0 ≤ y4 →
      qm_R (x2 + 1) ∧
      at_R_nexts_2 a N d K M ((x2 + 1))) ∧
     (¬ 0 ≤ y4 →
      (0 ≤ ((0 : Int) : Int) ∧ ((0 : Int) : Int) ≤ 1 ∧ 0 ≤ (x2 : Int) ∧ (x2 : Int) ≤ 8 ∧ 0 ≤ (x3 : Int) ∧ (x3 : Int) ≤ 8) ∧
      ∀ (y5 : Int), y5 = (64 * 0 + 8 * x2 + x3) →
      0 ≤ y5 ∧ y5 < 128 ∧
      ∀ (y6 : Int), y6 = (M 72 (Int.toNat y5)) →
      (qAr M a n u ∧ qMt n u v ∧ n ≤ (N : Nat)) ∧
      (0 ≤ (y6 : Int) ∧ (y6 : Int) < (n : Int)) ∧
      ∀ (y7 : Int), y7 = (v (Int.toNat y6) : Int) →
      (0 ≤ ((1 : Int) : Int) ∧ ((1 : Int) : Int) ≤ 1 ∧ 0 ≤ (y6 : Int) ∧ (y6 : Int) ≤ 7 ∧ 0 ≤ (x2 : Int) ∧ (x2 : Int) ≤ 7 ∧ (y7 : Int) ≤ 7) ∧
      (((y7 : Int) < 0 ∨ M 73 (Int.toNat (64 * 1 + 8 * y6 + x2)) < M 73 (Int.toNat (64 * 1 + 8 * y6 + y7))) →
       0 ≤ x2 ∧ x2 < 8 ∧
       ∀ (M8 : qm_M), M8 = (qm_u M 93 (Int.toNat x2) y6) →
       qm_R (x3 + 1) ∧
       at_R_nexts_30 a N d K M8 x2 ((x3 + 1))) ∧
      (¬ ((y7 : Int) < 0 ∨ M 73 (Int.toNat (64 * 1 + 8 * y6 + x2)) < M 73 (Int.toNat (64 * 1 + 8 * y6 + y7))) →
       qm_R (x3 + 1) ∧
       at_R_nexts_30 a N d K M x2 ((x3 + 1)))))) : at_R_nexts_30 a N d K M x2 x3 :=
  fun d4 => qm_wp_TT [2, 30] 38 (And.intro (lf_71_0 ()) (And.intro (fun q11 => And.intro (h.1 q11).1 ((h.1 q11).2 _ _)) (fun q12 => Exists.intro 93 (And.intro (lf_71_29 ()) (Exists.intro 8 (And.intro (la_93 ()) (And.intro (h.2 q12).1 (And.intro (h.2 q12).2.1 (And.intro (fun q13 => And.intro (((h.2 q12).2.2 _ rfl).1 q13).1 ((((h.2 q12).2.2 _ rfl).1 q13).2 _ _)) (fun q14 => Exists.intro 72 (And.intro (lf_71_2 ()) (And.intro True.intro (s_R_at (d := d + 2)  ((((h.2 q12).2.2 _ rfl).2 q14).1) (Exists.intro 128 (And.intro (la_72 ()) (And.intro ((((h.2 q12).2.2 _ rfl).2 q14).2 _ rfl).1 (And.intro ((((h.2 q12).2.2 _ rfl).2 q14).2 _ rfl).2.1 (And.intro (lo_71 ()) (s_R_leftOf (d := d + 2) hA ((((((h.2 q12).2.2 _ rfl).2 q14).2 _ rfl).2.2 _ rfl).1) ((((((h.2 q12).2.2 _ rfl).2 q14).2 _ rfl).2.2 _ rfl).2.1) (And.intro (lo_71 ()) (s_R_rather (d := d + 0)  (((((((h.2 q12).2.2 _ rfl).2 q14).2 _ rfl).2.2 _ rfl).2.2 _ rfl).1) (And.intro (fun q15 => And.intro (((((((h.2 q12).2.2 _ rfl).2 q14).2 _ rfl).2.2 _ rfl).2.2 _ rfl).2.2 (qm_b0 q15)).1 ((((((((h.2 q12).2.2 _ rfl).2 q14).2 _ rfl).2.2 _ rfl).2.2 _ rfl).2.2 (qm_b0 q15)).2 _)) (fun q16 => Exists.intro 93 (And.intro (lf_71_29 ()) (Exists.intro 8 (And.intro (la_93 ()) (And.intro (((((((h.2 q12).2.2 _ rfl).2 q14).2 _ rfl).2.2 _ rfl).2.2 _ rfl).2.1 (qm_b1 q16)).1 (And.intro (((((((h.2 q12).2.2 _ rfl).2 q14).2 _ rfl).2.2 _ rfl).2.2 _ rfl).2.1 (qm_b1 q16)).2.1 (And.intro ((((((((h.2 q12).2.2 _ rfl).2 q14).2 _ rfl).2.2 _ rfl).2.2 _ rfl).2.1 (qm_b1 q16)).2.2 _ rfl).1 (((((((((h.2 q12).2.2 _ rfl).2 q14).2 _ rfl).2.2 _ rfl).2.2 _ rfl).2.1 (qm_b1 q16)).2.2 _ rfl).2 _))))))))))))))))))))))))))))))
theorem en_R_nexts {a N : Nat} {n : Nat} {u v : Nat → Nat} {d : Nat} {K : qm_K} {M : qm_M}  (hA : qArr (qL qLM) a N) (h :
    at_R_nexts_2 a N d K M 0) : qm_Runs qm_P (d + 4) 172 [(.inr (some 71)), (.inr (some a))] (qL qLM) M K :=
  And.intro (Nat.le_of_ble_eq_true rfl) (show qm_TT qi_172 (qm_Runs qm_P (d + 3)) K 0 [some (.inr (some 71)), some (.inr (some a)), none, none, none] [] (qL qLM) M 0 0 from qm_wp_TT [2, 30] 38 (h _ _))
theorem lp_R_nexts {a N d : Nat} {K : qm_K} {M0 : qm_M} {n : Nat} {w p u v : Nat → Nat} (hA : qArr (qL qLM) a N) (h8N : 8 ≤ N) (hne : a ≠ 93) (hMR : qMR M0 n w p) (hu : qAr M0 a n u) (hm : qMt n u v) (hK : ∀ M2 : qm_M, (rNx M2 n w p u v ∧ ∀ c, c ≠ 93 → M2 c = M0 c) → K (.inl 0) (qL qLM) M2) : ∀ (j x : Nat) (M : qm_M), x + j = n → (∀ c, c ≠ 93 → M c = M0 c) → (∀ y, y < x → M 93 y = mz (nxr n w p u v y)) → at_R_nexts_2 a N d K M (x : Int)
  | 0, x, M, hx, hc, hS => fun d3 d4 => by
    refine rg_R_nexts_2 (n := n) (u := u) (v := v) hA (And.intro (fun _ => hK M ⟨fun y hy => hS y (by omega), hc⟩) (fun z => absurd z (by rw [hc 71 (by decide), hMR.1]; omega))) d3 d4
  | j + 1, x, M, hx, hc, hS => fun d3 d4 => by
    have hI := hMR.2.2.2
    have h8 := hI.2.1
    have ih := lp_R_nexts (d := d) hA h8N hne hMR hu hm hK j (x + 1)
    have hxn : x < n := by omega
    have hux := (hm.1 x hxn).1
    have hpu := (hI.2.2 0 x (by omega) hxn _ hux).2.2.1
    have done : ∀ M1 : qm_M, (∀ c, c ≠ 93 → M1 c = M0 c) → (∀ y, y < x → M1 93 y = mz (nxr n w p u v y)) → M1 93 x = mz (nxr n w p u v x) → at_R_nexts_2 a N d K M1 ((x : Int) + 1) := fun M1 h1 h2 h3 => ih M1 (by omega) h1 (fun y hy => by
      by_cases hyx : y = x
      · rw [hyx]; exact h3
      · exact h2 y (by omega))
    have inner : ∀ (i k : Nat) (M1 : qm_M), k + i = n → (∀ c, c ≠ 93 → M1 c = M0 c) → (∀ y, y < x → M1 93 y = mz (nxr n w p u v y)) → ((M1 93 x = -2 ∧ p (ix 0 x (u x)) < k ∧ ∀ b, b < k → ¬ (p (ix 0 x (u x)) < b ∧ p (ix 1 (w (ix 0 x b)) x) < p (ix 1 (w (ix 0 x b)) (v (w (ix 0 x b)))))) ∨ (nxr n w p u v x ≠ 9 ∧ M1 93 x = mz (nxr n w p u v x))) → at_R_nexts_30 a N d K M1 (x : Int) (k : Int) := by
      intro i
      induction i with
      | zero =>
        intro k M1 hk hc1 hS1 hq d4
        refine rg_R_nexts_30 (n := n) (u := u) (v := v) hA (And.intro (fun _ => And.intro (by unfold qm_R; omega) (done M1 hc1 hS1 ?_)) (fun z => absurd z (by rw [hc1 71 (by decide), hMR.1]; omega))) d4
        rcases hq with ⟨q1, q2, q3⟩ | ⟨q1, q2⟩
        · have e : nxk n w p u v x = n := lst_none (fun b hb => q3 b (by omega))
          rw [q1]
          unfold nxr
          rw [if_neg (by omega)]
          rfl
        · exact q2
      | succ i ihi =>
        intro k M1 hk hc1 hS1 hq d4
        have hm1 : qMR M1 n w p := qMR_mem hMR (by rw [hc1 71 (by decide)]) (hc1 72 (by decide)) (hc1 73 (by decide))
        have hw := hI.2.2 0 x (by omega) hxn k (by omega)
        refine rg_R_nexts_30 (n := n) (u := u) (v := v) hA (And.intro (fun z => absurd z (by rw [hc1 71 (by decide), hMR.1]; omega)) (fun _ => And.intro (by omega) (And.intro (by omega) ?_))) d4
        intro y4 e4
        rw [Int.toNat_natCast] at e4
        rcases hq with ⟨q1, q2, q3⟩ | ⟨q1, q2⟩
        · rw [q1] at e4
          refine And.intro (fun z => absurd z (by omega)) (fun _ => And.intro (by omega) ?_)
          intro y5 e5
          refine And.intro (by omega) (And.intro (by omega) ?_)
          intro y6 e6
          rw [e5, show (64 * 0 + 8 * (x : Int) + (k : Int)) = 64 * ((0 : Nat) : Int) + 8 * (x : Int) + (k : Int) by omega, rLi hm1 (by omega) hxn (by omega)] at e6
          subst e6
          refine And.intro ⟨qAr_mem hu (hc1 a hne), hm, by omega⟩ (And.intro (by omega) ?_)
          intro y7 e7
          rw [Int.toNat_natCast] at e7
          have hv := (hm.2 _ hw.1).1
          have e7m : y7 = mz (v (w (ix 0 x k))) := by rw [e7, mz_n (by omega)]
          have hr := rRat (M := M1) (s := 1) (x := x) hm1 (by omega) hw.1 hxn (Or.inr hv)
          rw [← e7m, show ((1 : Nat) : Int) = 1 from rfl] at hr
          refine And.intro (by omega) ?_
          rw [lnk hr]
          refine And.intro (fun h => And.intro (by omega) (And.intro (by omega) ?_)) (fun h => And.intro (by unfold qm_R; omega) (ihi (k + 1) M1 (by omega) hc1 hS1 (Or.inl ⟨q1, by omega, fun b hb z => ?_⟩)))
          · intro M8 e8
            rw [Int.toNat_natCast] at e8
            have e : nxk n w p u v x = k := lst_eq (by omega) ⟨q2, h.elim (fun q => absurd q (by omega)) id⟩ q3
            have en : nxr n w p u v x = w (ix 0 x k) := by unfold nxr; rw [e, if_pos (by omega)]
            refine And.intro (by unfold qm_R; omega) (ihi (k + 1) M8 (by omega) (fun c hcc => by rw [e8, qu_cf hcc]; exact hc1 c hcc) (fun y hy => by rw [e8, qu_k (by omega)]; exact hS1 y hy) (Or.inr ⟨by rw [en]; omega, by rw [e8, qu_s, en, mz_n (by omega)]⟩))
          · by_cases hbk : b = k
            · subst hbk
              exact h (Or.inr z.2)
            · exact q3 b (by omega) z
        · have hnx : nxr n w p u v x < n := by
            rcases nf hI hm hxn with h | h
            · exact absurd h.1 q1
            · exact h.1
          rw [q2, mz_n q1] at e4
          exact And.intro (fun _ => And.intro (by unfold qm_R; omega) (done M1 hc1 hS1 q2)) (fun z => absurd z (by omega))
    refine rg_R_nexts_2 (n := n) (u := u) (v := v) hA (And.intro (fun z => absurd z (by rw [hc 71 (by decide), hMR.1]; omega)) (fun _ => And.intro (by omega) (And.intro (by omega) ?_))) d3 d4
    intro M1 e1
    rw [Int.toNat_natCast] at e1
    have c1 : ∀ c, c ≠ 93 → M1 c = M0 c := fun c h => by rw [e1, qu_cf h]; exact hc c h
    refine And.intro (by omega) (And.intro (by omega) ?_)
    intro y2 e2
    rw [Int.toNat_natCast, c1 a hne, hu x hxn] at e2
    subst e2
    refine And.intro (by omega) ?_
    intro y3 e3
    have hm1 : qMR M1 n w p := qMR_mem hMR (by rw [c1 71 (by decide)]) (c1 72 (by decide)) (c1 73 (by decide))
    rw [show (64 * 0 + 8 * (x : Int) + (u x : Int)) = 64 * ((0 : Nat) : Int) + 8 * (x : Int) + (u x : Int) by omega, rPl hm1 (by omega) hxn hux] at e3
    refine And.intro (by unfold qm_R; omega) ?_
    rw [e3]
    exact inner (n - (p (ix 0 x (u x)) + 1)) (p (ix 0 x (u x)) + 1) M1 (by omega) c1 (fun y hy => by rw [e1, qu_k (by omega)]; exact hS y hy) (Or.inl ⟨by rw [e1, qu_s], by omega, fun b hb z => by omega⟩)
theorem s_R_nexts {a N : Nat} {n : Nat} {w p u v : Nat → Nat} {d : Nat} {K : qm_K} {M : qm_M}  (hA : qArr (qL qLM) a N) (hp0 : qMR M n w p) (hp1 : qAr M a n u ∧ qMt n u v ∧ 8 ≤ (N : Nat) ∧ a ≠ 93) (hK : ∀ (M2 : qm_M), (rNx M2 n w p u v ∧ ∀ c, c ≠ 93 → M2 c = M c) → K (.inl 0) (qL qLM) M2) : qm_Runs qm_P (d + 4) 172 [(.inr (some 71)), (.inr (some a))] (qL qLM) M K := by
  obtain ⟨hu, hm, h8N, hne⟩ := hp1
  exact en_R_nexts (n := n) (u := u) (v := v) hA (lp_R_nexts hA h8N hne hp0 hu hm hK n 0 M (by omega) (fun _ _ => rfl) (fun y hy => absurd hy (Nat.not_lt_zero _)))
/-- a cycle's least -/
def isF (f : Nat → Nat) (l : Nat) : Prop := cyc f l ∧ ∀ k, l ≤ itf f k l
/-- the cycle as it is kept -/
def rCy (M : qm_M) (f u : Nat → Nat) (l : Nat) : Prop := M 71 32 = (per f l : Int) ∧ ∀ k, k < per f l → M 94 k = ((10 * itf f k l + u (itf f k l) : Nat) : Int)
theorem per_eq {n : Nat} {f : Nat → Nat} {l k : Nat} (h : fok n f) (hl : l < n) (e : itf f (k + 1) l = l) (hn : ∀ j, 1 ≤ j → j ≤ k → itf f j l ≠ l) : per f l = k + 1 := by
  have hp := per_spec h hl ⟨k + 1, by omega, e⟩
  have h1 : ¬ per f l ≤ k := fun q => hn _ hp.1 q hp.2.2.1
  have h2 : ¬ k + 1 < per f l := fun q => hp.2.2.2.1 (k + 1) (by omega) q e
  omega
def at_R_isFirst_7 (a N : Nat) (d : Nat) (K : qm_K) (M : qm_M) (x2 x3 : Int) : Prop := qm_TT qi_173 (qm_Runs qm_P (d + 1)) K 7 [some (.inr (some 71)), some (.inr (some a)), some (.inl x2), some (.inl x3)] [] (qL qLM) M 0 0
theorem rg_R_isFirst_7 {a N : Nat} {n : Nat} {u v : Nat → Nat} {d : Nat} {K : qm_K} {M : qm_M} {x2 x3 : Int} (hA : qArr (qL qLM) a N) (h :
    (x3 < x2 →
     K (.inl 0) (qL qLM) M) ∧
    (¬ x3 < x2 →
     0 ≤ x3 ∧ x3 < 8 ∧
     ∀ (y2 : Int), y2 = (M 93 (Int.toNat x3)) →
     (y2 < 0 →
      K (.inl 0) (qL qLM) M) ∧
     (¬ y2 < 0 →
      ((M 71 32) ≠ (M 71 0) →
       qm_R (10 * x3) ∧
       0 ≤ x3 ∧ x3 < N ∧
       ∀ (y3 : Int), y3 = (M a (Int.toNat x3)) →
       qm_R ((10 * x3) + y3) ∧
       0 ≤ (M 71 32) ∧ (M 71 32) < 8 ∧
       ∀ (M4 : qm_M), M4 = (qm_u M 94 (Int.toNat (M 71 32)) ((10 * x3) + y3)) →
       qm_R ((M4 71 32) + 1) ∧
       ∀ (M5 : qm_M), M5 = (qm_u M4 71 32 ((M4 71 32) + 1)) →
       0 ≤ x3 ∧ x3 < 8 ∧
       ∀ (y6 : Int), y6 = (M5 93 (Int.toNat x3)) →
       (qAr M5 a n u ∧ qMt n u v ∧ n ≤ (N : Nat)) ∧
       (0 ≤ (y6 : Int) ∧ (y6 : Int) < (n : Int)) ∧
       ∀ (y7 : Int), y7 = (v (Int.toNat y6) : Int) →
       (y7 ≠ x2 →
        at_R_isFirst_7 a N d K M5 x2 y7) ∧
       (¬ y7 ≠ x2 →
        K (.inl 1) (qL qLM) M5)) ∧
      (¬ (M 71 32) ≠ (M 71 0) →
       K (.inl 0) (qL qLM) M)))) : at_R_isFirst_7 a N d K M x2 x3 :=
  qm_wp_TT [7] 47 (And.intro (fun q8 => And.intro (Or.inl rfl) (h.1 q8)) (fun q9 => Exists.intro 93 (And.intro (lf_71_29 ()) (Exists.intro 8 (And.intro (la_93 ()) (And.intro (h.2 q9).1 (And.intro (h.2 q9).2.1 (And.intro (fun q10 => And.intro (Or.inl rfl) (((h.2 q9).2.2 _ rfl).1 q10)) (fun q11 => And.intro (lf_71_32 ()) (And.intro (lf_71_0 ()) (And.intro (fun q12 => Exists.intro 94 (And.intro (lf_71_30 ()) (And.intro (lf_71_32 ()) (And.intro ((((h.2 q9).2.2 _ rfl).2 q11).1 q12).1 (Exists.intro N (And.intro hA.1 (And.intro ((((h.2 q9).2.2 _ rfl).2 q11).1 q12).2.1 (And.intro ((((h.2 q9).2.2 _ rfl).2 q11).1 q12).2.2.1 (And.intro (((((h.2 q9).2.2 _ rfl).2 q11).1 q12).2.2.2 _ rfl).1 (Exists.intro 8 (And.intro (la_94 ()) (And.intro (((((h.2 q9).2.2 _ rfl).2 q11).1 q12).2.2.2 _ rfl).2.1 (And.intro (((((h.2 q9).2.2 _ rfl).2 q11).1 q12).2.2.2 _ rfl).2.2.1 (And.intro (lf_71_32 ()) (And.intro ((((((h.2 q9).2.2 _ rfl).2 q11).1 q12).2.2.2 _ rfl).2.2.2 _ rfl).1 (And.intro (lf_71_32 ()) (Exists.intro 93 (And.intro (lf_71_29 ()) (Exists.intro 8 (And.intro (la_93 ()) (And.intro (((((((h.2 q9).2.2 _ rfl).2 q11).1 q12).2.2.2 _ rfl).2.2.2 _ rfl).2 _ rfl).1 (And.intro (((((((h.2 q9).2.2 _ rfl).2 q11).1 q12).2.2.2 _ rfl).2.2.2 _ rfl).2 _ rfl).2.1 (And.intro (lo_71 ()) (s_R_leftOf (d := d + 0) hA (((((((((h.2 q9).2.2 _ rfl).2 q11).1 q12).2.2.2 _ rfl).2.2.2 _ rfl).2 _ rfl).2.2 _ rfl).1) (((((((((h.2 q9).2.2 _ rfl).2 q11).1 q12).2.2.2 _ rfl).2.2.2 _ rfl).2 _ rfl).2.2 _ rfl).2.1) (And.intro (fun q14 => ((((((((((h.2 q9).2.2 _ rfl).2 q11).1 q12).2.2.2 _ rfl).2.2.2 _ rfl).2 _ rfl).2.2 _ rfl).2.2 _ rfl).1 q14)) (fun q15 => And.intro (Or.inr rfl) ((((((((((h.2 q9).2.2 _ rfl).2 q11).1 q12).2.2.2 _ rfl).2.2.2 _ rfl).2 _ rfl).2.2 _ rfl).2.2 _ rfl).2 q15))))))))))))))))))))))))))) (fun q13 => And.intro (Or.inl rfl) ((((h.2 q9).2.2 _ rfl).2 q11).2 q13)))))))))))))
theorem en_R_isFirst {a N : Nat} {n : Nat} {u v : Nat → Nat} {d : Nat} {K : qm_K} {M : qm_M} {l : Int} (hA : qArr (qL qLM) a N) (h :
    ∀ (M1 : qm_M), M1 = (qm_u M 71 32 0) →
    at_R_isFirst_7 a N d K M1 l l) : qm_Runs qm_P (d + 2) 173 [(.inr (some 71)), (.inr (some a)), (.inl l)] (qL qLM) M K :=
  And.intro (Nat.le_of_ble_eq_true rfl) (show qm_TT qi_173 (qm_Runs qm_P (d + 1)) K 0 [some (.inr (some 71)), some (.inr (some a)), some (.inl l), none] [] (qL qLM) M 0 0 from qm_wp_TT [7] 47 (And.intro (lf_71_32 ()) ((h _ rfl))))
theorem lp_R_isFirst {a N d : Nat} {K : qm_K} {M0 : qm_M} {n i : Nat} {w p u v : Nat → Nat} (hA : qArr (qL qLM) a N) (hI : qInv n w p) (h0 : M0 71 0 = (n : Int)) (hx : rNx M0 n w p u v) (hu : qAr M0 a n u) (hm : qMt n u v) (h8N : 8 ≤ N) (hne : a ≠ 94 ∧ a ≠ 71) (hi : i < n) (hK : ∀ (r : Int) (M2 : qm_M), (r = qm_b (isF (fo n w p u v) i) ∧ (isF (fo n w p u v) i → rCy M2 (fo n w p u v) u i) ∧ ∀ c x, c ≠ 94 → c ≠ 71 ∨ x ≠ 32 → M2 c x = M0 c x) → K (.inl r) (qL qLM) M2) : ∀ (j k : Nat) (M : qm_M), k + j = n → (∀ c x, c ≠ 94 → c ≠ 71 ∨ x ≠ 32 → M c x = M0 c x) → M 71 32 = (k : Int) → (∀ b, b < k → M 94 b = ((10 * itf (fo n w p u v) b i + u (itf (fo n w p u v) b i) : Nat) : Int) ∧ i ≤ itf (fo n w p u v) b i) → (∀ b, 1 ≤ b → b ≤ k → itf (fo n w p u v) b i ≠ i) → itf (fo n w p u v) k i < n → at_R_isFirst_7 a N d K M (i : Int) (itf (fo n w p u v) k i : Int) := by
  have hf := fo_ok hI hm
  have h8 := hI.2.1
  intro j
  induction j with
  | zero =>
    intro k M hk hc h32 hS hn hlt
    have no : ∀ M2 : qm_M, (∀ c x, c ≠ 94 → c ≠ 71 ∨ x ≠ 32 → M2 c x = M0 c x) → ¬ isF (fo n w p u v) i → K (.inl 0) (qL qLM) M2 := fun M2 h2 h => hK 0 M2 ⟨(qm_bff h).symm, fun z => absurd z h, h2⟩
    refine rg_R_isFirst_7 (n := n) (u := u) (v := v) hA (And.intro (fun h => no M hc (fun z => ?_)) (fun h => And.intro (by omega) (And.intro (by omega) ?_)))
    · have := z.2 k; omega
    · intro y2 e2
      refine And.intro (fun h2 => no M hc (fun z => ?_)) (fun h2 => And.intro (fun h3 => absurd (by rw [h32, hc 71 0 (by decide) (Or.inr (by decide)), h0]; omega) h3) (fun h3 => no M hc (fun z => ?_)))
      · have hp := per_spec hf hi z.1
        exact hn _ hp.1 (by omega) hp.2.2.1
      · have hp := per_spec hf hi z.1
        exact hn _ hp.1 (by omega) hp.2.2.1
  | succ j ih =>
    intro k M hk hc h32 hS hn hlt
    have no : ∀ M2 : qm_M, (∀ c x, c ≠ 94 → c ≠ 71 ∨ x ≠ 32 → M2 c x = M0 c x) → ¬ isF (fo n w p u v) i → K (.inl 0) (qL qLM) M2 := fun M2 h2 h => hK 0 M2 ⟨(qm_bff h).symm, fun z => absurd z h, h2⟩
    refine rg_R_isFirst_7 (n := n) (u := u) (v := v) hA (And.intro (fun h => no M hc (fun z => ?_)) (fun h => And.intro (by omega) (And.intro (by omega) ?_)))
    · have := z.2 k; omega
    · intro y2 e2
      rw [Int.toNat_natCast, hc 93 _ (by decide) (Or.inl (by decide)), hx _ hlt] at e2
      rcases nf hI hm hlt with ⟨q1, q2⟩ | ⟨q1, q2, q3⟩
      · rw [q1] at e2
        refine And.intro (fun h2 => no M hc (fun z => ?_)) (fun h2 => absurd (by rw [e2]; decide) h2)
        have := cyc_lt hf hi z.1 (k + 1)
        have e : itf (fo n w p u v) (k + 1) i = 9 := q2
        omega
      · rw [mz_n (by omega)] at e2
        refine And.intro (fun h2 => absurd h2 (by omega)) (fun _ => And.intro (fun h3 => ?_) (fun h3 => absurd (fun z => h3 z) (by rw [h32, hc 71 0 (by decide) (Or.inr (by decide)), h0]; exact fun z => z (by omega))))
        refine And.intro (by unfold qm_R; omega) (And.intro (by omega) (And.intro (by omega) ?_))
        intro y3 e3
        have hax : M a = M0 a := funext fun x => hc a x hne.1 (Or.inl hne.2)
        have hux := (hm.1 _ hlt).1
        rw [Int.toNat_natCast, hax, hu _ hlt] at e3
        refine And.intro (by unfold qm_R; omega) (And.intro (by rw [h32]; omega) (And.intro (by rw [h32]; omega) ?_))
        intro M4 e4
        rw [h32, Int.toNat_natCast] at e4
        have t4 : M4 71 32 = (k : Int) := by rw [e4, qu_cf (by decide)]; exact h32
        refine And.intro (by rw [t4]; unfold qm_R; omega) ?_
        intro M5 e5
        rw [t4] at e5
        have c5 : ∀ c x, c ≠ 94 → c ≠ 71 ∨ x ≠ 32 → M5 c x = M0 c x := fun c x q4 q5 => by
          rw [e5, ← hc c x q4 q5]
          rcases q5 with q5 | q5
          · rw [qu_c q5, e4, qu_c q4]
          · rw [qu_k q5, e4, qu_c q4]
        have hS5 : ∀ b, b < k + 1 → M5 94 b = ((10 * itf (fo n w p u v) b i + u (itf (fo n w p u v) b i) : Nat) : Int) ∧ i ≤ itf (fo n w p u v) b i := fun b hb => by
          rw [e5, qu_cf (by decide), e4]
          by_cases hbk : b = k
          · rw [hbk, qu_s, e3]
            exact ⟨by omega, by omega⟩
          · rw [qu_k hbk]
            exact hS b (by omega)
        refine And.intro (by omega) (And.intro (by omega) ?_)
        intro y6 e6
        rw [Int.toNat_natCast, c5 93 _ (by decide) (Or.inl (by decide)), hx _ hlt, mz_n (by omega)] at e6
        refine And.intro ⟨qAr_mem hu (funext fun x => c5 a x hne.1 (Or.inl hne.2)), hm, by omega⟩ (And.intro (by omega) ?_)
        intro y7 e7
        rw [e6, Int.toNat_natCast, ← q2] at e7
        have en : fo n w p u v (itf (fo n w p u v) k i) = itf (fo n w p u v) (k + 1) i := rfl
        rw [en] at e7 q3
        refine And.intro (fun h4 => ?_) (fun h4 => ?_)
        · rw [e7]
          refine ih (k + 1) M5 (by omega) c5 (by rw [e5, qu_s]; rfl) hS5 (fun b h1 h2 => ?_) q3
          by_cases hbk : b = k + 1
          · rw [hbk]; intro z; exact h4 (by rw [e7, z])
          · exact hn b h1 (by omega)
        · have e8 : itf (fo n w p u v) (k + 1) i = i := by omega
          have hper := per_eq hf hi e8 hn
          have hF : isF (fo n w p u v) i := ⟨⟨k + 1, by omega, e8⟩, fun b => by
            rw [itf_mod e8 b]
            exact (hS5 _ (Nat.mod_lt _ (by omega))).2⟩
          refine hK 1 M5 ⟨(qm_bt hF).symm, fun _ => ⟨?_, fun b hb => (hS5 b (by omega)).1⟩, c5⟩
          rw [e5, qu_s, hper]
          rfl
theorem s_R_isFirst {a N : Nat} {n i : Nat} {w p u v : Nat → Nat} {d : Nat} {K : qm_K} {M : qm_M} {l : Int} (hA : qArr (qL qLM) a N) (hp0 : qInv n w p ∧ M 71 0 = (n : Int) ∧ rNx M n w p u v) (hp1 : qAr M a n u ∧ qMt n u v ∧ 8 ≤ (N : Nat) ∧ a ≠ 94 ∧ a ≠ 71) (hp2 : i < n ∧ l = (i : Int)) (hK : ∀ (r : Int) (M2 : qm_M), (r = qm_b (isF (fo n w p u v) i) ∧ (isF (fo n w p u v) i → rCy M2 (fo n w p u v) u i) ∧ ∀ c x, c ≠ 94 → c ≠ 71 ∨ x ≠ 32 → M2 c x = M c x) → K (.inl r) (qL qLM) M2) : qm_Runs qm_P (d + 2) 173 [(.inr (some 71)), (.inr (some a)), (.inl l)] (qL qLM) M K := by
  obtain ⟨hI, h0, hx⟩ := hp0
  obtain ⟨hu, hm, h8N, hne⟩ := hp1
  obtain ⟨hi, rfl⟩ := hp2
  refine en_R_isFirst (n := n) (u := u) (v := v) hA ?_
  intro M1 e1
  refine lp_R_isFirst (M0 := M) hA hI h0 hx hu hm h8N hne hi hK n 0 M1 (by omega) (fun c x q1 q2 => ?_) (by rw [e1, qu_s]; rfl) (fun b hb => absurd hb (Nat.not_lt_zero _)) (fun b h1 h2 => absurd h1 (by omega)) hi
  rw [e1]
  rcases q2 with q2 | q2
  · rw [qu_c q2]
  · rw [qu_k q2]
