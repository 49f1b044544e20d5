def at_C_lie_67 (T : qm_L) (d : Nat) (K : qm_K) (M : qm_M) (x1 x2 x3 x4 x5 x6 : Int) : Prop := ∀ (d7 : Option qm_V), qm_TT qi_121 (qm_Runs qm_P (d + 5)) K 67 [some (.inr (some 0)), some (.inl x1), some (.inl x2), some (.inl x3), some (.inl x4), some (.inl x5), some (.inl x6), d7] [] (qL T) M 0 0
theorem rg_C_lie_67 {T : qm_L} {n sg ar q : Nat} {w p w0 : Nat → Nat} {d : Nat} {K : qm_K} {M : qm_M} {x1 x2 x3 x4 x5 x6 : Int} (h :
    (x5 ≤ x6 →
     (x2 ≠ 0 →
      K (.inl x4) (qL T) M) ∧
     (¬ x2 ≠ 0 →
      K (.inl x3) (qL T) M)) ∧
    (¬ x5 ≤ x6 →
     (M 9 2 = (n : Int) ∧ 1 ≤ n ∧ n ≤ 8) ∧
     (((1 : Int) : Int) = 1 ∧ (x1 : Int) = (ar : Int) ∧ ar < n) ∧
     ((x6 : Int) = (q : Int)) ∧
     (∀ (M7 : qm_M), ((∀ k, k < n → M7 11 (ix 1 ar k) = (arL n ar n 0 q w0 (ix 1 ar k) : Int)) ∧ (∀ k, k < n → M7 13 (ix 1 ar (arL n ar n 0 q w0 (ix 1 ar k))) = (k : Int)) ∧ (∀ y, y / 8 ≠ 8 + ar → M7 11 y = M 11 y ∧ M7 13 y = M 13 y) ∧ ∀ c, c ≠ 11 → c ≠ 13 → M7 c = M c) →
      ((9 = 4 ∨ 9 = 9) ∧ sg < 2 ∧ (0 : Int) = (sg : Int)) ∧
      (qLR M7 9 n w p) ∧
      (∀ (M9 : qm_M), (qG M9 n w p sg (gN n w p sg) (gst n w p sg (gN n w p sg)).1 (gH n w p sg) ∧ (∀ c, c ≠ 17 → c ≠ 20 → c ≠ 22 → c ≠ 24 → M9 c = M7 c)) →
       ∀ (y10 : Int), y10 = (gPar M9 18 1 x1) →
       ∀ (y11 : Int), y11 = (gPl M9 4 1 x1 y10) →
       (x3 ≤ y11 →
        (y11 ≠ x3 →
         qm_R (x6 + 1) ∧
         at_C_lie_67 T d K M9 x1 x2 x3 x4 x5 ((x6 + 1))) ∧
        (¬ y11 ≠ x3 →
         qm_R (x4 + 1) ∧
         qm_R (x6 + 1) ∧
         at_C_lie_67 T d K M9 x1 x2 x3 ((x4 + 1)) x5 ((x6 + 1)))) ∧
       (¬ x3 ≤ y11 →
        (y11 ≠ y11 →
         qm_R (x6 + 1) ∧
         at_C_lie_67 T d K M9 x1 x2 y11 0 x5 ((x6 + 1))) ∧
        (¬ y11 ≠ y11 →
         qm_R (0 + 1) ∧
         qm_R (x6 + 1) ∧
         at_C_lie_67 T d K M9 x1 x2 y11 ((0 + 1)) x5 ((x6 + 1)))))))) : at_C_lie_67 T d K M x1 x2 x3 x4 x5 x6 :=
  fun d7 => qm_wp_TT [67] 44 (And.intro (fun q12 => And.intro (fun q14 => ((h.1 q12).1 q14)) (fun q15 => ((h.1 q12).2 q15))) (fun q13 => Exists.intro 9 (And.intro (lf_0_2 T) (And.intro (lo_9 T) (s_Lists_arrange (d := d + 2) (lLs_9 T) ((h.2 q13).1) ((h.2 q13).2.1) ((h.2 q13).2.2.1) (fun M7 p16 => Exists.intro 17 (And.intro (lf_0_4 T) (Exists.intro 9 (And.intro (lf_0_2 T) (And.intro (lo_17 T) (s_Ask_run (d := d + 0) (lLs_9 T) (((h.2 q13).2.2.2 M7 p16).1) (((h.2 q13).2.2.2 M7 p16).2.1) (fun M9 p17 => Exists.intro 4 (And.intro (lf_0_1 T) (Exists.intro 17 (And.intro (lf_0_4 T) (And.intro (lo_17 T) (s_Ask_outcome (d := d + 4)   (And.intro (lo_18 T) (s_Pair_partner (d := d + 3) (lPr_18 T)  (And.intro (lo_4 T) (s_Lists_place (d := d + 3) (lLs_4 T)  (And.intro (fun q18 => And.intro (fun q20 => And.intro (((((((h.2 q13).2.2.2 M7 p16).2.2 M9 p17) _ rfl) _ rfl).1 q18).1 q20).1 ((((((((h.2 q13).2.2.2 M7 p16).2.2 M9 p17) _ rfl) _ rfl).1 q18).1 q20).2 _)) (fun q21 => And.intro (((((((h.2 q13).2.2.2 M7 p16).2.2 M9 p17) _ rfl) _ rfl).1 q18).2 q21).1 (And.intro (((((((h.2 q13).2.2.2 M7 p16).2.2 M9 p17) _ rfl) _ rfl).1 q18).2 q21).2.1 ((((((((h.2 q13).2.2.2 M7 p16).2.2 M9 p17) _ rfl) _ rfl).1 q18).2 q21).2.2 _)))) (fun q19 => And.intro (fun q22 => And.intro (((((((h.2 q13).2.2.2 M7 p16).2.2 M9 p17) _ rfl) _ rfl).2 q19).1 q22).1 ((((((((h.2 q13).2.2.2 M7 p16).2.2 M9 p17) _ rfl) _ rfl).2 q19).1 q22).2 _)) (fun q23 => And.intro (((((((h.2 q13).2.2.2 M7 p16).2.2 M9 p17) _ rfl) _ rfl).2 q19).2 q23).1 (And.intro (((((((h.2 q13).2.2.2 M7 p16).2.2 M9 p17) _ rfl) _ rfl).2 q19).2 q23).2.1 ((((((((h.2 q13).2.2.2 M7 p16).2.2 M9 p17) _ rfl) _ rfl).2 q19).2 q23).2.2 _))))))))))))))))))))))))))
theorem en_C_lie {T : qm_L} {n sg ar q : Nat} {w p w0 : Nat → Nat} {d : Nat} {K : qm_K} {M : qm_M} {g : Int} {j : Int} (h :
    ((0 ≤ g ∧ g < M 4 2) →
     (j < 0 →
      K (.inl ((-1))) (qL T) M) ∧
     (¬ j < 0 →
      (j ≤ 1 →
       ∀ (y1 : Int), y1 = (M 4 2) →
       (y1 ≤ 5 →
        (¬ 6 = 11) ∧
        (¬ 8 = 13) ∧
        ∀ (M2 : qm_M), M2 = (cRow (cRow (qm_u M 9 2 (M 4 2)) 11 128 6) 13 128 8) →
        ∀ (y3 : Int), y3 = (M2 4 2) →
        (M2 4 2 = (n : Int) ∧ 1 ≤ n ∧ n ≤ 8) ∧
        (∀ (r4 : Int), (r4 = (fct n : Int)) →
         at_C_lie_67 T d K M2 g j y3 0 r4 0)) ∧
       (¬ y1 ≤ 5 →
        K (.inl ((-7))) (qL T) M)) ∧
      (¬ j ≤ 1 →
       K (.inl ((-1))) (qL T) M))) ∧
    (¬ (0 ≤ g ∧ g < M 4 2) →
     K (.inl ((-1))) (qL T) M)) : qm_Runs qm_P (d + 6) 121 [(.inr (some 0)), (.inl g), (.inl j)] (qL T) M K :=
  And.intro (Nat.le_of_ble_eq_true rfl) (show qm_TT qi_121 (qm_Runs qm_P (d + 5)) K 0 [some (.inr (some 0)), some (.inl g), some (.inl j), none, none, none, none, none] [] (qL T) M 0 0 from qm_wp_TT [67] 44 (And.intro (lo_0 T) (s_C_isOne (d := d + 3)   (And.intro (fun q24 => (h.2 (qm_b0 q24))) (fun q25 => And.intro (fun q26 => ((h.1 (qm_b1 q25)).1 q26)) (fun q27 => And.intro (fun q28 => Exists.intro 4 (And.intro (lf_0_1 T) (And.intro (lo_4 T) (s_Lists_each (d := d + 4) (lLs_4 T)  (And.intro (fun q30 => Exists.intro 9 (And.intro (lf_0_2 T) (Exists.intro 4 (And.intro (lf_0_1 T) (And.intro (lo_9 T) (s_Lists_copyFrom (d := d + 2) (lLs_9 T) (lLs_4 T) ((((((h.1 (qm_b1 q25)).2 q27).1 q28) _ rfl).1 q30).1) ((((((h.1 (qm_b1 q25)).2 q27).1 q28) _ rfl).1 q30).2.1) (Exists.intro 4 (And.intro (lf_0_1 T) (And.intro (lo_4 T) (s_Lists_each (d := d + 4) (lLs_4 T)  (Exists.intro 4 (And.intro (lf_0_1 T) (And.intro (lo_4 T) (s_Lists_orders (d := d + 4) (lLs_4 T) ((((((((h.1 (qm_b1 q25)).2 q27).1 q28) _ rfl).1 q30).2.2 _ rfl) _ rfl).1) (fun r4 p32 => ((((((((h.1 (qm_b1 q25)).2 q27).1 q28) _ rfl).1 q30).2.2 _ rfl) _ rfl).2 r4 p32) _))))))))))))))) (fun q31 => (((((h.1 (qm_b1 q25)).2 q27).1 q28) _ rfl).2 q31))))))) (fun q29 => (((h.1 (qm_b1 q25)).2 q27).2 q29))))))))
noncomputable def lyC (n : Nat) (w p : Nat → Nat) (g q v : Nat) : Nat := sumN (fun i => @ite Nat (lyQ n p g v (arL n g n 0 i w)) (Classical.propDecidable _) 1 0) q
theorem lyC_end {n g v : Nat} {w p : Nat → Nat} : lyC n w p g (fct n) v = lieN n w p g v := arL_sum (F := lyQ n p g v) n 0 w (by omega) ⟨fun j hj => absurd hj (Nat.not_lt_zero _), fun i j _ hj => absurd hj (Nat.not_lt_zero _)⟩
theorem lyC_up {n g q v : Nat} {w p : Nat → Nat} : lyC n w p g (q + 1) v = lyC n w p g q v + if v = lyV n p g (arL n g n 0 q w) then 1 else 0 := by
  show lyC n w p g q v + @ite Nat (lyQ n p g v (arL n g n 0 q w)) (Classical.propDecidable _) 1 0 = _
  by_cases h : v = lyV n p g (arL n g n 0 q w)
  · rw [if_pos h, if_pos (show lyQ n p g v _ from h.symm)]
  · rw [if_neg h, if_neg (show ¬ lyQ n p g v _ from fun e => h e.symm)]
def liF (M M0 : qm_M) : Prop := ∀ c, c ≠ 9 → c ≠ 11 → c ≠ 13 → c ≠ 17 → c ≠ 20 → c ≠ 22 → c ≠ 24 → M c = M0 c
/-- the draft: the lists, but for one -/
def liD (M : qm_M) (n g : Nat) (w p : Nat → Nat) : Prop := M 9 2 = (n : Int) ∧ ∀ s a k, s < 2 → a < n → k < n → ix s a k / 8 ≠ 8 + g → M 11 (ix s a k) = (w (ix s a k) : Int) ∧ M 13 (ix s a k) = (p (ix s a k) : Int)
theorem li_LR {M7 M : qm_M} {n g q : Nat} {w p : Nat → Nat} (hI : qInv n w p) (hg : g < n) (hD : liD M n g w p) (g1 : ∀ k, k < n → M7 11 (ix 1 g k) = (arL n g n 0 q w (ix 1 g k) : Int)) (g2 : ∀ k, k < n → M7 13 (ix 1 g (arL n g n 0 q w (ix 1 g k))) = (k : Int)) (g3 : ∀ y, y / 8 ≠ 8 + g → M7 11 y = M 11 y ∧ M7 13 y = M 13 y) (g4 : ∀ c, c ≠ 11 → c ≠ 13 → M7 c = M c) : qLR M7 9 n (nrm n (arL n g n 0 q w)) (plc n (nrm n (arL n g n 0 q w))) ∧ liD M7 n g w p := by
  have h8 := hI.2.1
  have hA := qInv_ar (q := q) hI hg
  obtain ⟨hN, eP⟩ := qInv_nrm hA
  have hD7 : liD M7 n g w p := ⟨by rw [g4 9 (by decide) (by decide)]; exact hD.1, fun s a k hs ha hk hne => by rw [(g3 _ hne).1, (g3 _ hne).2]; exact hD.2 s a k hs ha hk hne⟩
  refine ⟨⟨hD7.1, fun s a k hs ha hk => ?_, fun s a k hs ha hk => ?_, hN⟩, hD7⟩
  · show M7 11 _ = _
    rw [nrm_ix h8 hs ha hk]
    by_cases c : ix s a k / 8 = 8 + g
    · have : s = 1 ∧ a = g := by unfold ix at c; omega
      rw [this.1, this.2]
      exact g1 k hk
    · rw [arL_o n 0 q w (by omega) h8 c]
      exact (hD7.2 s a k hs ha hk c).1
  · show M7 13 _ = _
    rw [eP s a k hs ha hk]
    by_cases c : ix s a k / 8 = 8 + g
    · have : s = 1 ∧ a = g := by unfold ix at c; omega
      rw [this.1, this.2]
      have gg := hA.2.2 1 g (by omega) hg k hk
      have := g2 _ gg.2.2.1
      rw [gg.2.2.2] at this
      exact this
    · have : arP n g (arL n g n 0 q w) p (ix s a k) = p (ix s a k) := by unfold arP; rw [if_neg c]
      rw [this]
      exact (hD7.2 s a k hs ha hk c).2
theorem lp_C_lie {T : qm_L} {d : Nat} {K : qm_K} {M0 : qm_M} {n g : Nat} {w p : Nat → Nat} {x2 : Int} (hL : qLR M0 4 n w p) (hg : g < n) (h5 : n ≤ 5) (hK : ∀ (M2 : qm_M), liF M2 M0 → K (.inl (if x2 = 0 then (lieB n w p g : Int) else (lieN n w p g (lieB n w p g) : Int))) (qL T) M2) : ∀ (j q : Nat) (M : qm_M) (a b : Int), q + j = fct n → liF M M0 → liD M n g w p → lyS a b n (lyC n w p g q) → (b = 0 → a = (n : Int)) → at_C_lie_67 T d K M (g : Int) x2 a b (fct n : Int) (q : Int)
  | 0, q, M, a, b, hq, hF, hD, hS, ha => fun d7 => by
    have hI := hL.2.2.2
    have hq : q = fct n := by omega
    subst hq
    obtain ⟨e1, e2⟩ := lyS_end hI hg (lyS_congr hS (fun v _ => lyC_end))
    have := hK M hF
    refine rg_C_lie_67 (n := 0) (sg := 0) (ar := 0) (q := 0) (w := w) (p := p) (w0 := w) (And.intro (fun _ => And.intro (fun z => ?_) (fun z => ?_)) (fun z => absurd (Int.le_refl _) z)) d7
    · rw [if_neg z] at this; rw [e2]; exact this
    · rw [if_pos (Classical.not_not.mp z)] at this; rw [e1]; exact this
  | j + 1, q, M, a, b, hq, hF, hD, hS, ha => fun d7 => by
    have hI := hL.2.2.2
    have h1 := hI.1
    have h8 := hI.2.1
    have hA := qInv_ar (q := q) hI hg
    have h120 : fct n ≤ 120 := by
      have : n = 1 ∨ n = 2 ∨ n = 3 ∨ n = 4 ∨ n = 5 := by omega
      rcases this with z | z | z | z | z <;> subst z <;> decide
    have hCle : ∀ v, v < n → lyC n w p g q v ≤ 120 := fun v _ => by
      have : lyC n w p g q v ≤ q * 1 := sumN_le (fun i _ => by split <;> omega)
      omega
    have hbb := lyS_b hS hCle
    refine rg_C_lie_67 (n := n) (sg := 0) (ar := g) (q := q) (w := nrm n (arL n g n 0 q w)) (p := plc n (nrm n (arL n g n 0 q w))) (w0 := w) (And.intro (fun z => absurd z (by omega)) (fun _ => And.intro ⟨hD.1, h1, h8⟩ (And.intro ⟨rfl, rfl, hg⟩ (And.intro rfl ?_)))) d7
    intro M7 q7
    obtain ⟨g1, g2, g3, g4⟩ := q7
    obtain ⟨l7, d7'⟩ := li_LR hI hg hD g1 g2 g3 g4
    refine And.intro ⟨Or.inr rfl, by decide, rfl⟩ (And.intro l7 ?_)
    intro M9 q9
    have hF9 : liF M9 M0 := fun c u1 u2 u3 u4 u5 u6 u7 => by rw [q9.2 c u4 u5 u6 u7, g4 c u2 u3]; exact hF c u1 u2 u3 u4 u5 u6 u7
    have hD9 : liD M9 n g w p := by
      unfold liD at d7' ⊢
      rw [q9.2 9 (by decide) (by decide) (by decide) (by decide), q9.2 11 (by decide) (by decide) (by decide) (by decide), q9.2 13 (by decide) (by decide) (by decide) (by decide)]
      exact d7'
    have hP : qPR M9 18 n (bsU n (nrm n (arL n g n 0 q w)) (plc n (nrm n (arL n g n 0 q w))) 0) (bsV n (nrm n (arL n g n 0 q w)) (plc n (nrm n (arL n g n 0 q w))) 0) := q9.1.1.1 rfl
    have hMt := bs_Mt (sg := 0) l7.2.2.2
    have hl := (hMt.2 g hg).1
    intro y10 e10
    rw [gPar_s hP hMt h8 (by decide) ⟨by omega, by omega⟩, if_neg (by decide), Int.toNat_natCast] at e10
    intro y11 e11
    have l9 := qLR_mem hL (hF9 4 (by decide) (by decide) (by decide) (by decide) (by decide) (by decide) (by decide)) (hF9 6 (by decide) (by decide) (by decide) (by decide) (by decide) (by decide) (by decide)) (hF9 8 (by decide) (by decide) (by decide) (by decide) (by decide) (by decide) (by decide))
    rw [e10] at e11
    have e11 : y11 = (p (ix 1 g (bsV n (nrm n (arL n g n 0 q w)) (plc n (nrm n (arL n g n 0 q w))) 0 g)) : Int) := by
      rw [e11]
      exact gPl_n l9 (s := 1) (by decide) hg hl
    have e12 : y11 = (lyV n p g (arL n g n 0 q w) : Int) := e11
    have hlt := lyV_lt hI hA hg
    have hr : qm_R ((q : Int) + 1) := by unfold qm_R; omega
    have ih := fun a b => lp_C_lie (T := T) (d := d) (x2 := x2) hL hg h5 hK j (q + 1) M9 a b (by omega) hF9 hD9
    have hcg : ∀ a b, lyS a b n (fun v => lyC n w p g q v + if v = lyV n p g (arL n g n 0 q w) then 1 else 0) → lyS a b n (lyC n w p g (q + 1)) := fun a b h => lyS_congr h (fun v _ => lyC_up.symm)
    have hb0 : b = 0 → ¬ a ≤ y11 := fun z h => by have := ha z; omega
    refine And.intro (fun h => And.intro (fun h2 => And.intro hr ?_) (fun h2 => And.intro (by unfold qm_R; omega) (And.intro hr ?_))) (fun h => And.intro (fun h2 => absurd rfl h2) (fun h2 => And.intro (by unfold qm_R; omega) (And.intro hr ?_)))
    · exact ih a b (hcg _ _ (lyS_far hS (fun z => hb0 z h) (by omega))) ha
    · exact ih a (b + 1) (hcg _ _ (lyS_same hS (fun z => hb0 z h) (by omega))) (fun z => absurd z (by omega))
    · rw [e12]
      exact ih _ 1 (hcg _ _ (lyS_new hS hlt (Or.inr (by omega)))) (fun z => absurd z (by decide))
theorem s_C_lie {T : qm_L} {n b f ln kn : Nat} {H : Nat → Nat → Nat} {p u v tp kw kp ku kv : Nat → Nat} {d : Nat} {K : qm_K} {M : qm_M} {g : Int} {j : Int} (hp0 : cI M n H b f p u v ln tp kn kw kp ku kv) (hK : ∀ (r : Int) (M2 : qm_M), (r = anLie n (H b) p g j ∧ cI M2 n H b f p u v ln tp kn kw kp ku kv ∧ (∀ c, 71 ≤ c → M2 c = M c)) → K (.inl r) (qL T) M2) : qm_Runs qm_P (d + 6) 121 [(.inr (some 0)), (.inl g), (.inl j)] (qL T) M K := by
  obtain ⟨hl, hh, hy, ht, hm, hs⟩ := id hp0
  have hI := hl.2.2.2
  have h1 := hI.1
  have h8 := hI.2.1
  
  have bad : ∀ x, x = anLie n (H b) p g j → K (.inl x) (qL T) M := fun x hx => hK x M ⟨hx, hp0, fun _ _ => rfl⟩
  unfold anLie at bad
  refine en_C_lie (n := n) (sg := 0) (ar := 0) (q := 0) (w := H b) (p := p) (w0 := p) ?_
  rw [hl.1]
  refine And.intro (fun h => And.intro (fun h2 => bad _ (by rw [if_pos (by omega)])) (fun h2 => And.intro (fun h3 => ?_) (fun h3 => bad _ (by rw [if_pos (by omega)])))) (fun h => bad _ (by rw [if_pos (by omega)]))
  intro y1 e1
  refine And.intro (fun h4 => And.intro (by decide) (And.intro (by decide) ?_)) (fun h4 => bad _ (by rw [if_neg (by omega), if_pos (by omega)]))
  intro M2 e2
  rw [← hl.1] at e2
  obtain ⟨l2, c2⟩ := qLR_cp e2 rfl rfl rfl rfl (by decide) hl
  intro y3 e3
  rw [c2 4 (by decide) (by decide) (by decide), hl.1] at e3
  refine And.intro ⟨by rw [c2 4 (by decide) (by decide) (by decide)]; exact hl.1, h1, h8⟩ ?_
  intro r4 q4
  rw [q4, e3]
  obtain ⟨g, rfl⟩ : ∃ b : Nat, g = (b : Int) := ⟨g.toNat, by omega⟩
  refine lp_C_lie (d := d) hl (by omega) (by omega) (fun M5 f5 => hK _ M5 ⟨?_, ?_, fun c hc => f5 c (by omega) (by omega) (by omega) (by omega) (by omega) (by omega) (by omega)⟩) (fct n) 0 M2 _ _ (by omega) (fun c u1 u2 u3 _ _ _ _ => c2 c u1 u2 u3) ⟨l2.1, fun s a k q1 q2 q3 _ => ⟨l2.2.1 s a k q1 q2 q3, l2.2.2.1 s a k q1 q2 q3⟩⟩ (Or.inl ⟨rfl, fun v _ => rfl⟩) (fun _ => rfl)
  · have : anLie n (H b) p (g : Int) j = if j = 0 then (lieB n (H b) p g : Int) else (lieN n (H b) p g (lieB n (H b) p g) : Int) := by
      unfold anLie
      rw [if_neg (by omega), if_neg (by omega), Int.toNat_natCast]
    exact this.symm
  · have ca : ∀ c, c < 9 ∨ (13 < c ∧ c < 17) ∨ 24 < c → M5 c = M c := fun c hc => f5 c (by omega) (by omega) (by omega) (by omega) (by omega) (by omega) (by omega)
    refine ⟨qLR_mem hl (ca _ (by decide)) (ca _ (by decide)) (ca _ (by decide)), qPR_mem hh (ca _ (by decide)), qY_mem hy (ca _ (by decide)) (ca _ (by decide)), cTp_mem ht (ca _ (by decide)) (ca _ (by decide)), cIm_mem hm (ca _ (by decide)) (ca _ (by decide)) (ca _ (by decide)) (ca _ (by decide)) (ca _ (by decide)), fun z => ?_⟩
    rw [ca 0 (by decide)] at z
    have := hs z
    exact ⟨qTn_mem this.1 (ca _ (by decide)) (ca _ (by decide)) (ca _ (by decide)) (ca _ (by decide)) (ca _ (by decide)) (ca _ (by decide)) (ca _ (by decide)), qMs_mem this.2 (ca _ (by decide)) (ca _ (by decide)) (ca _ (by decide))⟩
