noncomputable def bsU (n : Nat) (w p : Nat → Nat) (sg : Nat) : Nat → Nat := if sg = 0 then ginv n (gH n w p 0) else gH n w p 1
noncomputable def bsV (n : Nat) (w p : Nat → Nat) (sg : Nat) : Nat → Nat := if sg = 0 then gH n w p 0 else ginv n (gH n w p 1)
theorem bs_Mt {n : Nat} {w p : Nat → Nat} {sg : Nat} (hI : qInv n w p) : qMt n (bsU n w p sg) (bsV n w p sg) := by
  unfold bsU bsV
  have := qMt_best hI
  split
  · exact this.1
  · exact this.2
noncomputable def anBest (n : Nat) (w p : Nat → Nat) (s a k : Int) : Int := if s < 0 ∨ 1 < s ∨ a < 0 ∨ (n : Int) ≤ a ∨ k < -1 ∨ 0 < k then -1 else if k = 0 then (bsU n w p s.toNat a.toNat : Int) else (bsV n w p s.toNat a.toNat : Int)
noncomputable def anExposed (n : Nat) (w p : Nat → Nat) (m : Int) : Int := if m < 0 then -1 else if m < (cN n w p : Int) then (bits (opn n w p (bS (cE n w p m.toNat))) (rT n w p) : Int) else -2
noncomputable def anText (n : Nat) (w p : Nat → Nat) (m i : Int) : Int := if m < 0 ∨ i < -1 then -1 else if (cN n w p : Int) ≤ m ∨ 4 * (n : Int) - 1 ≤ i then -2 else if i < 0 then 4 * (n : Int) - 1 else if i.toNat % 4 = 0 then ((48 + i.toNat / 4 : Nat) : Int) else if i.toNat % 4 = 1 then 45 else if i.toNat % 4 = 2 then ((48 + mU n w p (bS (cE n w p m.toNat)) (i.toNat / 4) : Nat) : Int) else 32
theorem ex_yes {n : Nat} {w p : Nat → Nat} (hI : qInv n w p) {S : Nat → Prop} (hS : rId n w p S) {t : Nat} (ht : t < rT n w p) (h1 : ¬ S t) (h2 : ∀ u, rNd n w p t u → S u) : bits (fun y => opn n w p S y ∧ rL n w p y < rL n w p t) (rT n w p) ||| 2 ^ t = bits (fun y => opn n w p S y ∧ rL n w p y < rL n w p t + 1) (rT n w p) := by
  rw [bits_or ht]
  refine bits_congr (fun y hy => ⟨fun h => ?_, fun h => ?_⟩)
  · rcases h with h | h
    · exact ⟨h.1, by omega⟩
    · rw [h]; exact ⟨⟨h1, h2⟩, by omega⟩
  · rcases Nat.lt_or_ge (rL n w p y) (rL n w p t) with q | q
    · exact Or.inl ⟨h.1, q⟩
    · refine Or.inr (turn_one hI hy ht ?_)
      have q1 := turn_cyc hI hS ht h1 h2
      have q2 := turn_cyc hI hS hy h.1.1 h.1.2
      have a3 : rle n w p y 0 = rle n w p t 0 := by
        show rL n w p y = rL n w p t
        omega
      have a1 := (q1.2.2 0).2
      have a2 := (q2.2.2 0).2
      unfold rPk
      rw [← a1, ← a2, a3]
theorem ex_no {n : Nat} {w p : Nat → Nat} (hI : qInv n w p) {S : Nat → Prop} (hS : rId n w p S) {c : Nat} (h : ¬ isF (fo n w p (mU n w p S) (mV n w p S)) c) : bits (fun y => opn n w p S y ∧ rL n w p y < c) (rT n w p) = bits (fun y => opn n w p S y ∧ rL n w p y < c + 1) (rT n w p) :=
  bits_congr (fun y hy => ⟨fun q => ⟨q.1, by omega⟩, fun q => ⟨q.1, by
    refine Classical.byContradiction fun g => h ?_
    have := (turn_cyc hI hS hy q.1.1 q.1.2).1
    rw [show rL n w p y = c by omega] at this
    exact this⟩⟩)
theorem en_R_best  {n sg : Nat} {w p u v : Nat → Nat} {d : Nat} {K : qm_K} {M : qm_M} {s : Int} {a : Int} {k : Int} (h :
    ((0 ≤ s ∧ s ≤ 1) →
     (1 ≤ M 71 0 ∧ M 71 0 ≤ 8) ∧
     ((0 ≤ a ∧ a < M 71 0) →
      (((-1) ≤ k ∧ k ≤ 0) →
       (qMR M n w p) ∧
       (sg < 2 ∧ s = (sg : Int)) ∧
       (8 ≤ (8 : Nat) ∧ 86 ≠ 71 ∧ 86 ≠ 72 ∧ 86 ≠ 73 ∧ 86 ≠ 82 ∧ 86 ≠ 83 ∧ 86 ≠ 84) ∧
       (∀ (M2 : qm_M), (qAr M2 86 n (if sg = 0 then ginv n (gH n w p 0) else gH n w p 1) ∧ M2 71 24 = (gN n w p sg : Int) ∧ (∀ j, j < gN n w p sg → M2 82 j = (gtold n w p sg j : Int)) ∧ ∀ c x, c ≠ 86 → c ≠ 82 → c ≠ 83 → c ≠ 84 → c ≠ 71 ∨ x ≠ 24 → M2 c x = M c x) →
        (k ≠ 0 →
         (qAr M2 86 n u ∧ qMt n u v ∧ n ≤ (8 : Nat)) ∧
         (0 ≤ (a : Int) ∧ (a : Int) < (n : Int)) ∧
         ∀ (y3 : Int), y3 = (v (Int.toNat a) : Int) →
         K (.inl y3) (qL qLM) M2) ∧
        (¬ k ≠ 0 →
         0 ≤ a ∧ a < 8 ∧
         ∀ (y4 : Int), y4 = (M2 86 (Int.toNat a)) →
         K (.inl y4) (qL qLM) M2))) ∧
      (¬ ((-1) ≤ k ∧ k ≤ 0) →
       K (.inl ((-1))) (qL qLM) M)) ∧
     (¬ (0 ≤ a ∧ a < M 71 0) →
      K (.inl ((-1))) (qL qLM) M)) ∧
    (¬ (0 ≤ s ∧ s ≤ 1) →
     K (.inl ((-1))) (qL qLM) M)) : qm_Runs qm_P (d + 6) 170 [(.inr (some 71)), (.inl s), (.inl a), (.inl k)] (qL qLM) M K :=
  And.intro (Nat.le_of_ble_eq_true rfl) (show qm_TT qi_170 (qm_Runs qm_P (d + 5)) K 0 [some (.inr (some 71)), some (.inl s), some (.inl a), some (.inl k)] [] (qL qLM) M 0 0 from qm_wp_TT [] 30 (And.intro True.intro (s_R_isIn (d := d + 4)   (And.intro (fun q5 => (h.2 (qm_b0 q5))) (fun q6 => And.intro (lo_71 ()) (s_R_isOne (d := d + 3)  ((h.1 (qm_b1 q6)).1) (And.intro (fun q7 => ((h.1 (qm_b1 q6)).2.2 (qm_b0 q7))) (fun q8 => And.intro True.intro (s_R_isIn (d := d + 4)   (And.intro (fun q9 => Exists.intro 86 (And.intro (lf_71_21 ()) (And.intro (lo_71 ()) (s_R_bests (d := d + 0) (And.intro (la_86 ()) (by decide)) ((((h.1 (qm_b1 q6)).2.1 (qm_b1 q8)).1 (qm_b1 q9)).1) ((((h.1 (qm_b1 q6)).2.1 (qm_b1 q8)).1 (qm_b1 q9)).2.1) ((((h.1 (qm_b1 q6)).2.1 (qm_b1 q8)).1 (qm_b1 q9)).2.2.1) (fun M2 p11 => And.intro (fun q12 => Exists.intro 86 (And.intro (lf_71_21 ()) (And.intro (lo_71 ()) (s_R_leftOf (d := d + 4) (And.intro (la_86 ()) (by decide)) ((((((h.1 (qm_b1 q6)).2.1 (qm_b1 q8)).1 (qm_b1 q9)).2.2.2 M2 p11).1 q12).1) ((((((h.1 (qm_b1 q6)).2.1 (qm_b1 q8)).1 (qm_b1 q9)).2.2.2 M2 p11).1 q12).2.1) (((((((h.1 (qm_b1 q6)).2.1 (qm_b1 q8)).1 (qm_b1 q9)).2.2.2 M2 p11).1 q12).2.2 _ rfl)))))) (fun q13 => Exists.intro 86 (And.intro (lf_71_21 ()) (Exists.intro 8 (And.intro (la_86 ()) (And.intro (((((h.1 (qm_b1 q6)).2.1 (qm_b1 q8)).1 (qm_b1 q9)).2.2.2 M2 p11).2 q13).1 (And.intro (((((h.1 (qm_b1 q6)).2.1 (qm_b1 q8)).1 (qm_b1 q9)).2.2.2 M2 p11).2 q13).2.1 (((((((h.1 (qm_b1 q6)).2.1 (qm_b1 q8)).1 (qm_b1 q9)).2.2.2 M2 p11).2 q13).2.2 _ rfl))))))))))))) (fun q10 => (((h.1 (qm_b1 q6)).2.1 (qm_b1 q8)).2 (qm_b2 q10)))))))))))))
theorem s_R_best  {n : Nat} {w p : Nat → Nat} {d : Nat} {K : qm_K} {M : qm_M} {s : Int} {a : Int} {k : Int} (hp0 : qMR M n w p) (hp1 : M 71 35 ≠ 0 → rKn M n w p) (hK : ∀ (r : Int) (M2 : qm_M), (r = anBest n w p s a k ∧ (M2 71 35 ≠ 0 → rKn M2 n w p) ∧ mF M2 M) → K (.inl r) (qL qLM) M2) : qm_Runs qm_P (d + 6) 170 [(.inr (some 71)), (.inl s), (.inl a), (.inl k)] (qL qLM) M K := by
  have hI := hp0.2.2.2
  have h1 := hI.1
  have h8 := hI.2.1
  have self : mF M M := fun _ _ _ _ => rfl
  have bad : (s < 0 ∨ 1 < s ∨ a < 0 ∨ (n : Int) ≤ a ∨ k < -1 ∨ 0 < k) → K (.inl (-1)) (qL qLM) M := fun h => hK _ M ⟨by unfold anBest; rw [if_pos h], hp1, self⟩
  refine en_R_best (n := n) (sg := s.toNat) (w := w) (p := p) (u := bsU n w p s.toNat) (v := bsV n w p s.toNat) ?_
  rw [hp0.1]
  refine And.intro (fun h => And.intro (by omega) (And.intro (fun h2 => And.intro (fun h3 => And.intro hp0 (And.intro ⟨by omega, by omega⟩ (And.intro (by decide) ?_))) (fun h3 => bad (by omega))) (fun h2 => bad (by omega)))) (fun h => bad (by omega))
  intro M2 q2
  have e : ∀ c, c ≠ 71 → c ≠ 82 → c ≠ 83 → c ≠ 84 → c ≠ 86 → M2 c = M c := fun c g1 g2 g3 g4 g5 => funext fun x => q2.2.2.2 c x g5 g2 g3 g4 (Or.inl g1)
  have e71 : ∀ y, y ≠ 24 → M2 71 y = M 71 y := fun y hy => q2.2.2.2 71 y (by decide) (by decide) (by decide) (by decide) (Or.inr hy)
  have fin : ∀ r, r = anBest n w p s a k → K (.inl r) (qL qLM) M2 := fun r hr => hK r M2 ⟨hr, fun h5 => rKn_keep (hp1 (by rw [← e71 35 (by decide)]; exact h5)) (e _ (by decide) (by decide) (by decide) (by decide) (by decide)) (e _ (by decide) (by decide) (by decide) (by decide) (by decide)) (e _ (by decide) (by decide) (by decide) (by decide) (by decide)) (e _ (by decide) (by decide) (by decide) (by decide) (by decide)) (e _ (by decide) (by decide) (by decide) (by decide) (by decide)) (e _ (by decide) (by decide) (by decide) (by decide) (by decide)) (e71 _ (by decide)) (e71 _ (by decide)), fun c y g1 g2 => q2.2.2.2 c y (by omega) (by omega) (by omega) (by omega) (g2.imp id (fun g => g.1))⟩
  unfold anBest at fin
  rw [if_neg (by omega)] at fin
  refine And.intro (fun h5 => And.intro ⟨q2.1, bs_Mt hI, h8⟩ (And.intro (by omega) ?_)) (fun h5 => And.intro (by omega) (And.intro (by omega) ?_))
  · intro y3 e3
    exact fin _ (by rw [if_neg h5, e3])
  · intro y4 e4
    exact fin _ (by rw [if_pos (by omega), e4]; exact q2.1 _ (by omega))
def at_R_exposed_38  (d : Nat) (K : qm_K) (M : qm_M) (x2 x3 : Int) : Prop := ∀ (d1 : Option qm_V), qm_TT qi_189 (qm_Runs qm_P (d + 8)) K 38 [some (.inr (some 71)), d1, some (.inl x2), some (.inl x3)] [] (qL qLM) M 0 0
theorem rg_R_exposed_38  {n tt i : Nat} {w p u v : Nat → Nat} {d : Nat} {K : qm_K} {M : qm_M} {x2 x3 : Int} (h :
    ((M 71 0) ≤ x3 →
     K (.inl x2) (qL qLM) M) ∧
    (¬ (M 71 0) ≤ x3 →
     (qInv n w p ∧ M 71 0 = (n : Int) ∧ rNx M n w p u v) ∧
     (qAr M 86 n u ∧ qMt n u v ∧ 8 ≤ (8 : Nat) ∧ 86 ≠ 94 ∧ 86 ≠ 71) ∧
     (i < n ∧ x3 = (i : Int)) ∧
     (∀ (r7 : Int) (M8 : qm_M), (r7 = qm_b (isF (fo n w p u v) i) ∧ (isF (fo n w p u v) i → rCy M8 (fo n w p u v) u i) ∧ ∀ c x, c ≠ 94 → c ≠ 71 ∨ x ≠ 32 → M8 c x = M c x) →
      (r7 = 0 →
       qm_R (x3 + 1) ∧
       at_R_exposed_38  d K M8 ((qm_or x2 0)) ((x3 + 1))) ∧
      (¬ r7 = 0 →
       (qInv n w p ∧ qRp M8 n w p (rT n w p)) ∧
       (tt < rT n w p ∧ rCt M8 n w p tt) ∧
       ∀ (y9 : Int), y9 = (tt : Int) →
       qm_R (x3 + 1) ∧
       at_R_exposed_38  d K M8 ((qm_or x2 (qm_shl 1 y9))) ((x3 + 1)))))) : at_R_exposed_38  d K M x2 x3 :=
  fun d1 => qm_wp_TT [38] 24 (And.intro (lf_71_0 ()) (And.intro (fun q10 => (h.1 q10)) (fun q11 => Exists.intro 86 (And.intro (lf_71_21 ()) (And.intro (lo_71 ()) (s_R_isFirst (d := d + 6) (And.intro (la_86 ()) (by decide)) ((h.2 q11).1) ((h.2 q11).2.1) ((h.2 q11).2.2.1) (fun r7 M8 p12 => And.intro (fun q13 => And.intro (((h.2 q11).2.2.2 r7 M8 p12).1 q13).1 ((((h.2 q11).2.2.2 r7 M8 p12).1 q13).2 _)) (fun q14 => And.intro (lo_71 ()) (s_R_numberOf (d := d + 7)  ((((h.2 q11).2.2.2 r7 M8 p12).2 q14).1) ((((h.2 q11).2.2.2 r7 M8 p12).2 q14).2.1) (And.intro ((((h.2 q11).2.2.2 r7 M8 p12).2 q14).2.2 _ rfl).1 (((((h.2 q11).2.2.2 r7 M8 p12).2 q14).2.2 _ rfl).2 _)))))))))))
theorem en_R_exposed  {n tt i : Nat} {w p u v : Nat → Nat} {d : Nat} {K : qm_K} {M : qm_M} {m : Int} (h :
    (0 ≤ m →
     (qMR M n w p) ∧
     (M 71 35 ≠ 0 → rKn M n w p) ∧
     (∀ (r1 : Int) (M2 : qm_M), (r1 = qm_b (0 ≤ m ∧ m < (cN n w p : Int)) ∧ rKn M2 n w p ∧ M2 71 35 ≠ 0 ∧ kF M2 M) →
      (r1 ≠ 0 →
       (qMR M2 n w p ∧ rKn M2 n w p) ∧
       (0 ≤ (m : Int) ∧ (m : Int) < (cN n w p : Int)) ∧
       (8 ≤ (8 : Nat) ∧ 86 ≠ 71 ∧ 86 ≠ 85 ∧ 86 ≠ 89 ∧ 86 ≠ 90 ∧ 86 ≠ 95) ∧
       (∀ (M4 : qm_M), (qAr M4 86 n (mU n w p (bS (cE n w p (Int.toNat m)))) ∧ ∀ c, c ≠ 86 → M4 c = M2 c) →
        (qMR M4 n w p) ∧
        (qAr M4 86 n u ∧ qMt n u v ∧ 8 ≤ (8 : Nat) ∧ 86 ≠ 93) ∧
        (∀ (M6 : qm_M), (rNx M6 n w p u v ∧ ∀ c, c ≠ 93 → M6 c = M4 c) →
         at_R_exposed_38  d K M6 0 0))) ∧
      (¬ r1 ≠ 0 →
       K (.inl ((-2))) (qL qLM) M2))) ∧
    (¬ 0 ≤ m →
     K (.inl ((-1))) (qL qLM) M)) : qm_Runs qm_P (d + 9) 189 [(.inr (some 71)), (.inl m)] (qL qLM) M K :=
  And.intro (Nat.le_of_ble_eq_true rfl) (show qm_TT qi_189 (qm_Runs qm_P (d + 8)) K 0 [some (.inr (some 71)), some (.inl m), none, none] [] (qL qLM) M 0 0 from qm_wp_TT [38] 24 (And.intro (fun q15 => And.intro (lo_71 ()) (s_R_isMatch (d := d + 0)  ((h.1 q15).1) ((h.1 q15).2.1) (fun r1 M2 p17 => And.intro (fun q18 => Exists.intro 86 (And.intro (lf_71_21 ()) (And.intro (lo_71 ()) (s_R_makes (d := d + 6) (And.intro (la_86 ()) (by decide)) ((((h.1 q15).2.2 r1 M2 p17).1 q18).1) ((((h.1 q15).2.2 r1 M2 p17).1 q18).2.1) ((((h.1 q15).2.2 r1 M2 p17).1 q18).2.2.1) (fun M4 p20 => Exists.intro 86 (And.intro (lf_71_21 ()) (And.intro (lo_71 ()) (s_R_nexts (d := d + 4) (And.intro (la_86 ()) (by decide)) (((((h.1 q15).2.2 r1 M2 p17).1 q18).2.2.2 M4 p20).1) (((((h.1 q15).2.2 r1 M2 p17).1 q18).2.2.2 M4 p20).2.1) (fun M6 p21 => (((((h.1 q15).2.2 r1 M2 p17).1 q18).2.2.2 M4 p20).2.2 M6 p21) _))))))))) (fun q19 => (((h.1 q15).2.2 r1 M2 p17).2 q19))))) (fun q16 => (h.2 q16))))
theorem lp_R_exposed {d : Nat} {K : qm_K} {M0 : qm_M} {n : Nat} {w p : Nat → Nat} {S : Nat → Prop} (hMR : qMR M0 n w p) (hS : rId n w p S) (hR : qRp M0 n w p (rT n w p)) (hu : qAr M0 86 n (mU n w p S)) (hx0 : rNx M0 n w p (mU n w p S) (mV n w p S)) (hK : ∀ M2 : qm_M, (∀ c y, c ≠ 94 → c ≠ 71 ∨ y ≠ 32 → M2 c y = M0 c y) → K (.inl (bits (opn n w p S) (rT n w p) : Int)) (qL qLM) M2) : ∀ (j c : Nat) (M : qm_M), c + j = n → (∀ c y, c ≠ 94 → c ≠ 71 ∨ y ≠ 32 → M c y = M0 c y) → at_R_exposed_38 d K M (bits (fun y => opn n w p S y ∧ rL n w p y < c) (rT n w p) : Int) (c : Int)
  | 0, c, M, hc, hF => fun d1 => by
    have hI := hMR.2.2.2
    have hc : c = n := by omega
    subst hc
    have h0 : M 71 0 = (c : Int) := by rw [hF 71 0 (by decide) (Or.inr (by decide))]; exact hMR.1
    refine rg_R_exposed_38 (n := c) (tt := 0) (i := 0) (w := w) (p := p) (u := p) (v := p) (And.intro (fun _ => ?_) (fun z => absurd z (by rw [h0]; omega))) d1
    have := hK M hF
    rw [show bits (opn c w p S) (rT c w p) = bits (fun y => opn c w p S y ∧ rL c w p y < c) (rT c w p) from bits_congr (fun y hy => ⟨fun q => ⟨q, (T_lt hI hy).2⟩, fun q => q.1⟩)] at this
    exact this
  | j + 1, c, M, hc, hF => fun d1 => by
    have hI := hMR.2.2.2
    have h8 := hI.2.1
    have h28 := (r_T hI).1
    have hb : bits (fun y => opn n w p S y ∧ rL n w p y < c) (rT n w p) < 2147483648 := bits_lt31 (by omega)
    have hm := m_qMt hI hS
    have h0 : M 71 0 = (n : Int) := by rw [hF 71 0 (by decide) (Or.inr (by decide))]; exact hMR.1
    have hua : qAr M 86 n (mU n w p S) := qAr_mem hu (funext fun y => hF 86 y (by decide) (Or.inl (by decide)))
    have hx : rNx M n w p (mU n w p S) (mV n w p S) := fun y hy => by rw [hF 93 y (by decide) (Or.inl (by decide))]; exact hx0 y hy
    by_cases hcF : isF (fo n w p (mU n w p S) (mV n w p S)) c
    · obtain ⟨t, ht, h1, h2, h3⟩ := cyc_turn hI hS (by omega) hcF
      refine rg_R_exposed_38 (n := n) (i := c) (tt := t) (w := w) (p := p) (u := mU n w p S) (v := mV n w p S) (And.intro (fun z => absurd z (by rw [h0]; omega)) (fun _ => And.intro ⟨hI, h0, hx⟩ (And.intro ⟨hua, hm, by decide, by decide, by decide⟩ (And.intro ⟨by omega, rfl⟩ ?_)))) d1
      intro r3 M4 h4
      have e3 : r3 = 1 := by rw [h4.1]; exact qm_bt hcF
      have hF4 : ∀ c y, c ≠ 94 → c ≠ 71 ∨ y ≠ 32 → M4 c y = M0 c y := fun c y q2 q3 => by rw [h4.2.2 c y q2 q3]; exact hF c y q2 q3
      have hR4 : qRp M4 n w p (rT n w p) := ⟨by rw [hF4 71 31 (by decide) (Or.inr (by decide))]; exact hR.1, fun y hy => ⟨by rw [hF4 90 _ (by decide) (Or.inl (by decide))]; exact (hR.2 y hy).1, fun k hk => by rw [hF4 89 _ (by decide) (Or.inl (by decide))]; exact (hR.2 y hy).2 k hk⟩⟩
      have hC4 := h4.2.1 hcF
      rw [h3] at hC4
      have hT4 := rCy_t hI hS ht h1 h2 hC4
      refine And.intro (fun z => absurd z (by omega)) (fun _ => And.intro ⟨hI, hR4⟩ (And.intro ⟨ht, hT4⟩ ?_))
      intro y9 e9
      refine And.intro (by unfold qm_R; omega) ?_
      rw [e9, qb_shl1 t (by omega), qb_or hb (pow_lt31 (by omega)), h3, ex_yes hI hS ht h1 h2]
      have := lp_R_exposed (d := d) hMR hS hR hu hx0 hK j (rL n w p t + 1) M4 (by omega) hF4
      exact this
    · refine rg_R_exposed_38 (n := n) (i := c) (tt := 0) (w := w) (p := p) (u := mU n w p S) (v := mV n w p S) (And.intro (fun z => absurd z (by rw [h0]; omega)) (fun _ => And.intro ⟨hI, h0, hx⟩ (And.intro ⟨hua, hm, by decide, by decide, by decide⟩ (And.intro ⟨by omega, rfl⟩ ?_)))) d1
      intro r3 M4 h4
      have e3 : r3 = 0 := by rw [h4.1]; exact qm_bff hcF
      refine And.intro (fun _ => And.intro (by unfold qm_R; omega) ?_) (fun z => absurd e3 z)
      have := lp_R_exposed (d := d) hMR hS hR hu hx0 hK j (c + 1) M4 (by omega) (fun c y q2 q3 => by rw [h4.2.2 c y q2 q3]; exact hF c y q2 q3)
      rw [← ex_no hI hS hcF] at this
      rw [show qm_or (bits (fun y => opn n w p S y ∧ rL n w p y < c) (rT n w p) : Int) 0 = (bits (fun y => opn n w p S y ∧ rL n w p y < c) (rT n w p) : Int) from (qb_or hb (b := 0) (by decide)).trans (by rw [Nat.or_zero])]
      exact this
theorem s_R_exposed  {n : Nat} {w p : Nat → Nat} {d : Nat} {K : qm_K} {M : qm_M} {m : Int} (hp0 : qMR M n w p) (hp1 : M 71 35 ≠ 0 → rKn M n w p) (hK : ∀ (r : Int) (M2 : qm_M), (r = anExposed n w p m ∧ (M2 71 35 ≠ 0 → rKn M2 n w p) ∧ mF M2 M) → K (.inl r) (qL qLM) M2) : qm_Runs qm_P (d + 9) 189 [(.inr (some 71)), (.inl m)] (qL qLM) M K := by
  have hI := hp0.2.2.2
  have self : mF M M := fun _ _ _ _ => rfl
  refine en_R_exposed (n := n) (tt := 0) (i := 0) (w := w) (p := p) (u := mU n w p (bS (cE n w p m.toNat))) (v := mV n w p (bS (cE n w p m.toNat))) (And.intro (fun h => And.intro hp0 (And.intro hp1 ?_)) (fun h => hK _ M ⟨by unfold anExposed; rw [if_pos (by omega)], hp1, self⟩))
  intro r1 M2 q2
  have m2 := kF_MR hp0 q2.2.2.2
  refine And.intro (fun h4 => ?_) (fun h4 => hK _ M2 ⟨?_, fun _ => q2.2.1, mF_k q2.2.2.2⟩)
  · have hm : 0 ≤ m ∧ m < (cN n w p : Int) := Classical.byContradiction fun q => h4 (by rw [q2.1, qm_bff q])
    refine And.intro ⟨m2, q2.2.1⟩ (And.intro hm (And.intro (by decide) ?_))
    intro M4 q4
    have hs := cE_spec (n := n) (w := w) (p := p) (m := m.toNat) (by omega)
    have m4 := qMR_mem m2 (by rw [q4.2 71 (by decide)]) (q4.2 72 (by decide)) (q4.2 73 (by decide))
    have k4 := rKn_86 q2.2.1 q4.2
    refine And.intro m4 (And.intro ⟨q4.1, m_qMt hI hs.2.1, by decide, by decide⟩ ?_)
    intro M6 q6
    have m6 := qMR_mem m4 (by rw [q6.2 71 (by decide)]) (q6.2 72 (by decide)) (q6.2 73 (by decide))
    have k6 : rKn M6 n w p := rKn_keep k4 (q6.2 _ (by decide)) (q6.2 _ (by decide)) (q6.2 _ (by decide)) (q6.2 _ (by decide)) (q6.2 _ (by decide)) (q6.2 _ (by decide)) (by rw [q6.2 71 (by decide)]) (by rw [q6.2 71 (by decide)])
    have := lp_R_exposed (d := d) (S := bS (cE n w p m.toNat)) m6 hs.2.1 k6.2.1 (qAr_mem q4.1 (q6.2 86 (by decide))) q6.1 (fun M8 q8 => hK _ M8 ⟨by unfold anExposed; rw [if_neg (by omega), if_pos hm.2], fun _ => rKn_keep k6 (funext fun y => q8 _ y (by decide) (Or.inl (by decide))) (funext fun y => q8 _ y (by decide) (Or.inl (by decide))) (funext fun y => q8 _ y (by decide) (Or.inl (by decide))) (funext fun y => q8 _ y (by decide) (Or.inl (by decide))) (funext fun y => q8 _ y (by decide) (Or.inl (by decide))) (funext fun y => q8 _ y (by decide) (Or.inl (by decide))) (q8 71 _ (by decide) (Or.inr (by decide))) (q8 71 _ (by decide) (Or.inr (by decide))), fun c y g1 g2 => by rw [q8 c y (by omega) (by omega), q6.2 c (by omega), q4.2 c (by omega), mF_k q2.2.2.2 c y g1 g2]⟩) n 0 M6 (by omega) (fun _ _ _ _ => rfl)
    rw [show bits (fun y => opn n w p (bS (cE n w p m.toNat)) y ∧ rL n w p y < 0) (rT n w p) = 0 from bits_0 (fun t _ q => absurd q.2 (Nat.not_lt_zero _))] at this
    exact this
  · have : ¬ (0 ≤ m ∧ m < (cN n w p : Int)) := fun q => h4 (by rw [q2.1, qm_bt q]; decide)
    unfold anExposed
    rw [if_neg (by omega), if_neg (by omega)]
theorem en_R_text  {n : Nat} {w p u v : Nat → Nat} {d : Nat} {K : qm_K} {M : qm_M} {m : Int} {i : Int} (h :
    (m < 0 →
     K (.inl ((-1))) (qL qLM) M) ∧
    (¬ m < 0 →
     ((-1) ≤ i →
      (qMR M n w p) ∧
      (M 71 35 ≠ 0 → rKn M n w p) ∧
      (∀ (r1 : Int) (M2 : qm_M), (r1 = qm_b (0 ≤ m ∧ m < (cN n w p : Int)) ∧ rKn M2 n w p ∧ M2 71 35 ≠ 0 ∧ kF M2 M) →
       (r1 = 0 →
        K (.inl ((-2))) (qL qLM) M2) ∧
       (¬ r1 = 0 →
        qm_R (4 * (M2 71 0)) ∧
        qm_R ((4 * (M2 71 0)) - 1) ∧
        (i < ((4 * (M2 71 0)) - 1) →
         (0 ≤ i →
          (qMR M2 n w p ∧ rKn M2 n w p) ∧
          (0 ≤ (m : Int) ∧ (m : Int) < (cN n w p : Int)) ∧
          (8 ≤ (8 : Nat) ∧ 86 ≠ 71 ∧ 86 ≠ 85 ∧ 86 ≠ 89 ∧ 86 ≠ 90 ∧ 86 ≠ 95) ∧
          (∀ (M4 : qm_M), (qAr M4 86 n (mU n w p (bS (cE n w p (Int.toNat m)))) ∧ ∀ c, c ≠ 86 → M4 c = M2 c) →
           (0 : Int) < 4 ∧
           ((Int.tmod i 4) ≠ 0 →
            (0 : Int) < 4 ∧
            ((Int.tmod i 4) ≠ 1 →
             (0 : Int) < 4 ∧
             ((Int.tmod i 4) ≠ 2 →
              K (.inl 32) (qL qLM) M4) ∧
             (¬ (Int.tmod i 4) ≠ 2 →
              (0 : Int) < 4 ∧
              0 ≤ (Int.tdiv i 4) ∧ (Int.tdiv i 4) < 8 ∧
              ∀ (y5 : Int), y5 = (M4 86 (Int.toNat (Int.tdiv i 4))) →
              qm_R (48 + y5) ∧
              K (.inl ((48 + y5))) (qL qLM) M4)) ∧
            (¬ (Int.tmod i 4) ≠ 1 →
             K (.inl 45) (qL qLM) M4)) ∧
           (¬ (Int.tmod i 4) ≠ 0 →
            (0 : Int) < 4 ∧
            qm_R (48 + (Int.tdiv i 4)) ∧
            K (.inl ((48 + (Int.tdiv i 4)))) (qL qLM) M4))) ∧
         (¬ 0 ≤ i →
          qm_R (4 * (M2 71 0)) ∧
          qm_R ((4 * (M2 71 0)) - 1) ∧
          K (.inl (((4 * (M2 71 0)) - 1))) (qL qLM) M2)) ∧
        (¬ i < ((4 * (M2 71 0)) - 1) →
         K (.inl ((-2))) (qL qLM) M2)))) ∧
     (¬ (-1) ≤ i →
      K (.inl ((-1))) (qL qLM) M))) : qm_Runs qm_P (d + 9) 203 [(.inr (some 71)), (.inl m), (.inl i)] (qL qLM) M K :=
  And.intro (Nat.le_of_ble_eq_true rfl) (show qm_TT qi_203 (qm_Runs qm_P (d + 8)) K 0 [some (.inr (some 71)), some (.inl m), some (.inl i)] [] (qL qLM) M 0 0 from qm_wp_TT [] 51 (And.intro (fun q6 => (h.1 q6)) (fun q7 => And.intro (fun q8 => And.intro (lo_71 ()) (s_R_isMatch (d := d + 0)  (((h.2 q7).1 q8).1) (((h.2 q7).1 q8).2.1) (fun r1 M2 p10 => And.intro (fun q11 => ((((h.2 q7).1 q8).2.2 r1 M2 p10).1 q11)) (fun q12 => And.intro (lf_71_0 ()) (And.intro ((((h.2 q7).1 q8).2.2 r1 M2 p10).2 q12).1 (And.intro ((((h.2 q7).1 q8).2.2 r1 M2 p10).2 q12).2.1 (And.intro (fun q13 => And.intro (fun q15 => Exists.intro 86 (And.intro (lf_71_21 ()) (And.intro (lo_71 ()) (s_R_makes (d := d + 6) (And.intro (la_86 ()) (by decide)) (((((((h.2 q7).1 q8).2.2 r1 M2 p10).2 q12).2.2.1 q13).1 q15).1) (((((((h.2 q7).1 q8).2.2 r1 M2 p10).2 q12).2.2.1 q13).1 q15).2.1) (((((((h.2 q7).1 q8).2.2 r1 M2 p10).2 q12).2.2.1 q13).1 q15).2.2.1) (fun M4 p17 => And.intro (((((((h.2 q7).1 q8).2.2 r1 M2 p10).2 q12).2.2.1 q13).1 q15).2.2.2 M4 p17).1 (And.intro (fun q18 => And.intro ((((((((h.2 q7).1 q8).2.2 r1 M2 p10).2 q12).2.2.1 q13).1 q15).2.2.2 M4 p17).2.1 q18).1 (And.intro (fun q20 => And.intro (((((((((h.2 q7).1 q8).2.2 r1 M2 p10).2 q12).2.2.1 q13).1 q15).2.2.2 M4 p17).2.1 q18).2.1 q20).1 (And.intro (fun q22 => ((((((((((h.2 q7).1 q8).2.2 r1 M2 p10).2 q12).2.2.1 q13).1 q15).2.2.2 M4 p17).2.1 q18).2.1 q20).2.1 q22)) (fun q23 => Exists.intro 86 (And.intro (lf_71_21 ()) (And.intro ((((((((((h.2 q7).1 q8).2.2 r1 M2 p10).2 q12).2.2.1 q13).1 q15).2.2.2 M4 p17).2.1 q18).2.1 q20).2.2 q23).1 (Exists.intro 8 (And.intro (la_86 ()) (And.intro ((((((((((h.2 q7).1 q8).2.2 r1 M2 p10).2 q12).2.2.1 q13).1 q15).2.2.2 M4 p17).2.1 q18).2.1 q20).2.2 q23).2.1 (And.intro ((((((((((h.2 q7).1 q8).2.2 r1 M2 p10).2 q12).2.2.1 q13).1 q15).2.2.2 M4 p17).2.1 q18).2.1 q20).2.2 q23).2.2.1 (And.intro (((((((((((h.2 q7).1 q8).2.2 r1 M2 p10).2 q12).2.2.1 q13).1 q15).2.2.2 M4 p17).2.1 q18).2.1 q20).2.2 q23).2.2.2 _ rfl).1 ((((((((((((h.2 q7).1 q8).2.2 r1 M2 p10).2 q12).2.2.1 q13).1 q15).2.2.2 M4 p17).2.1 q18).2.1 q20).2.2 q23).2.2.2 _ rfl).2))))))))))) (fun q21 => (((((((((h.2 q7).1 q8).2.2 r1 M2 p10).2 q12).2.2.1 q13).1 q15).2.2.2 M4 p17).2.1 q18).2.2 q21)))) (fun q19 => And.intro ((((((((h.2 q7).1 q8).2.2 r1 M2 p10).2 q12).2.2.1 q13).1 q15).2.2.2 M4 p17).2.2 q19).1 (And.intro ((((((((h.2 q7).1 q8).2.2 r1 M2 p10).2 q12).2.2.1 q13).1 q15).2.2.2 M4 p17).2.2 q19).2.1 (((((((((h.2 q7).1 q8).2.2 r1 M2 p10).2 q12).2.2.1 q13).1 q15).2.2.2 M4 p17).2.2 q19).2.2))))))))) (fun q16 => And.intro (lf_71_0 ()) (And.intro ((((((h.2 q7).1 q8).2.2 r1 M2 p10).2 q12).2.2.1 q13).2 q16).1 (And.intro ((((((h.2 q7).1 q8).2.2 r1 M2 p10).2 q12).2.2.1 q13).2 q16).2.1 (((((((h.2 q7).1 q8).2.2 r1 M2 p10).2 q12).2.2.1 q13).2 q16).2.2))))) (fun q14 => (((((h.2 q7).1 q8).2.2 r1 M2 p10).2 q12).2.2.2 q14))))))))) (fun q9 => ((h.2 q7).2 q9)))))
theorem s_R_text  {n : Nat} {w p : Nat → Nat} {d : Nat} {K : qm_K} {M : qm_M} {m : Int} {i : Int} (hp0 : qMR M n w p) (hp1 : M 71 35 ≠ 0 → rKn M n w p) (hK : ∀ (r : Int) (M2 : qm_M), (r = anText n w p m i ∧ (M2 71 35 ≠ 0 → rKn M2 n w p) ∧ mF M2 M) → K (.inl r) (qL qLM) M2) : qm_Runs qm_P (d + 9) 203 [(.inr (some 71)), (.inl m), (.inl i)] (qL qLM) M K := by
  have hI := hp0.2.2.2
  have h1 := hI.1
  have h8 := hI.2.1
  have self : mF M M := fun _ _ _ _ => rfl
  have bad : (m < 0 ∨ i < -1) → K (.inl (-1)) (qL qLM) M := fun h => hK _ M ⟨by unfold anText; rw [if_pos h], hp1, self⟩
  refine en_R_text (n := n) (w := w) (p := p) (u := p) (v := p) (And.intro (fun h => bad (by omega)) (fun h => And.intro (fun h2 => And.intro hp0 (And.intro hp1 ?_)) (fun h2 => bad (by omega))))
  intro r1 M2 q2
  have m2 := kF_MR hp0 q2.2.2.2
  have fin2 : ∀ r, r = anText n w p m i → K (.inl r) (qL qLM) M2 := fun r hr => hK _ M2 ⟨hr, fun _ => q2.2.1, mF_k q2.2.2.2⟩
  rw [m2.1]
  have nm : r1 = 0 ↔ (cN n w p : Int) ≤ m := ⟨fun z => Classical.byContradiction fun q => by rw [q2.1, qm_bt (show 0 ≤ m ∧ m < (cN n w p : Int) by omega)] at z; exact absurd z (by decide), fun z => by rw [q2.1]; exact qm_bff (by omega)⟩
  have all : ∀ M3 : qm_M, (∀ r, r = anText n w p m i → K (.inl r) (qL qLM) M3) → ((cN n w p : Int) ≤ m ∨ 4 * (n : Int) - 1 ≤ i) → K (.inl (-2)) (qL qLM) M3 := fun M3 hf q => hf _ (by unfold anText; rw [if_neg (by omega), if_pos q])
  refine And.intro (fun h3 => all M2 fin2 (Or.inl (nm.mp h3))) (fun h3 => And.intro (by unfold qm_R; omega) (And.intro (by unfold qm_R; omega) (And.intro (fun h4 => And.intro (fun h5 => ?_) (fun h5 => And.intro (by unfold qm_R; omega) (And.intro (by unfold qm_R; omega) (fin2 _ ?_)))) (fun h4 => all M2 fin2 (Or.inr (by omega))))))
  · have hm : 0 ≤ m ∧ m < (cN n w p : Int) := ⟨by omega, by have := mt nm.mpr h3; omega⟩
    refine And.intro ⟨m2, q2.2.1⟩ (And.intro hm (And.intro (by decide) ?_))
    intro M4 q4
    have hs := cE_spec (n := n) (w := w) (p := p) (m := m.toNat) (by omega)
    have f4 : mF M4 M := mF_trans (mF_k (kF_86 q4.2)) (mF_k q2.2.2.2)
    have fin : ∀ r, r = anText n w p m i → K (.inl r) (qL qLM) M4 := fun r hr => hK r M4 ⟨hr, fun _ => rKn_86 q2.2.1 q4.2, f4⟩
    unfold anText at fin
    rw [if_neg (by omega), if_neg (by omega), if_neg (by omega)] at fin
    obtain ⟨j, rfl⟩ : ∃ j : Nat, i = (j : Int) := ⟨i.toNat, by omega⟩
    have hd : Int.tdiv (j : Int) 4 = ((j / 4 : Nat) : Int) := rfl
    have ht : Int.tmod (j : Int) 4 = ((j % 4 : Nat) : Int) := rfl
    rw [hd, ht]
    rw [Int.toNat_natCast] at fin
    have hu := (m_qMt hI hs.2.1).1 (j / 4) (by omega)
    refine And.intro (by decide) (And.intro (fun h6 => And.intro (by decide) (And.intro (fun h7 => And.intro (by decide) (And.intro (fun h8 => fin _ ?_) (fun h8 => And.intro (by decide) (And.intro (by omega) (And.intro (by omega) ?_))))) (fun h7 => fin _ ?_))) (fun h6 => And.intro (by decide) (And.intro (by unfold qm_R; omega) (fin _ ?_))))
    · rw [if_neg (by omega), if_neg (by omega), if_neg (by omega)]
    · intro y5 e5
      rw [Int.toNat_natCast, q4.1 (j / 4) (by omega)] at e5
      refine And.intro (by unfold qm_R; omega) (fin _ ?_)
      rw [if_neg (by omega), if_neg (by omega), if_pos (by omega), e5]
      omega
    · rw [if_neg (by omega), if_pos (by omega)]
    · rw [if_pos (by omega)]
      omega
  · have hm : ¬ (cN n w p : Int) ≤ m := mt nm.mpr h3
    unfold anText
    rw [if_neg (by omega), if_neg (by omega), if_pos (by omega)]
