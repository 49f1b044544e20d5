def rNum (n : Nat) (w p u : Nat → Nat) (r : Int) : Prop := (∃ z, cQ n w p z ∧ (∀ a, a < n → mU n w p (bS z) a = u a) ∧ r = (cC n w p z : Int)) ∨ (r = -2 ∧ ∀ z, cQ n w p z → ¬ ∀ a, a < n → mU n w p (bS z) a = u a)
theorem kF_trans {M M1 M2 : qm_M} (h : kF M2 M1) (h2 : kF M1 M) : kF M2 M := fun c y q1 q2 q3 => by rw [h c y q1 q2 q3]; exact h2 c y q1 q2 q3
theorem kF_86 {M M2 : qm_M} (h : ∀ c, c ≠ 86 → M2 c = M c) : kF M2 M := fun c y q1 _ _ => by rw [h c (by omega)]
def at_R_numberOf2_6 (a N : Nat) (d : Nat) (K : qm_K) (M : qm_M) (x2 : Int) : Prop := qm_TT qi_188 (qm_Runs qm_P (d + 7)) K 6 [some (.inr (some 71)), some (.inr (some a)), some (.inl x2)] [] (qL qLM) M 0 0
theorem rg_R_numberOf2_6 {a N : Nat} {n : Nat} {w p : Nat → Nat} {d : Nat} {K : qm_K} {M : qm_M} {x2 : Int} (hA : qArr (qL qLM) a N) (h :
    ((M 71 34) ≤ x2 →
     K (.inl ((-2))) (qL qLM) M) ∧
    (¬ (M 71 34) ≤ x2 →
     (qMR M n w p ∧ rKn M n w p) ∧
     (0 ≤ (x2 : Int) ∧ (x2 : Int) < (cN n w p : Int)) ∧
     (8 ≤ (8 : Nat) ∧ 86 ≠ 71 ∧ 86 ≠ 85 ∧ 86 ≠ 89 ∧ 86 ≠ 90 ∧ 86 ≠ 95) ∧
     (∀ (M4 : qm_M), (qAr M4 86 n (mU n w p (bS (cE n w p (Int.toNat x2)))) ∧ ∀ c, c ≠ 86 → M4 c = M c) →
      (M4 71 0 = (n : Int) ∧ n ≤ 8 ∧ n ≤ (8 : Nat) ∧ n ≤ (N : Nat)) ∧
      ((∀ x, x < n → M4 86 x = M4 a x) →
       K (.inl x2) (qL qLM) M4) ∧
      (¬ (∀ x, x < n → M4 86 x = M4 a x) →
       qm_R (x2 + 1) ∧
       at_R_numberOf2_6 a N d K M4 ((x2 + 1)))))) : at_R_numberOf2_6 a N d K M x2 :=
  qm_wp_TT [6] 21 (And.intro (lf_71_34 ()) (And.intro (fun q5 => (h.1 q5)) (fun q6 => Exists.intro 86 (And.intro (lf_71_21 ()) (And.intro (lo_71 ()) (s_R_makes (d := d + 5) (And.intro (la_86 ()) (by decide)) ((h.2 q6).1) ((h.2 q6).2.1) ((h.2 q6).2.2.1) (fun M4 p7 => Exists.intro 86 (And.intro (lf_71_21 ()) (And.intro (lo_71 ()) (s_R_isLike (d := d + 6) (And.intro (la_86 ()) (by decide)) hA (((h.2 q6).2.2.2 M4 p7).1) (And.intro (fun q8 => And.intro (((h.2 q6).2.2.2 M4 p7).2.2 (qm_b0 q8)).1 ((((h.2 q6).2.2.2 M4 p7).2.2 (qm_b0 q8)).2)) (fun q9 => (((h.2 q6).2.2.2 M4 p7).2.1 (qm_b1 q9))))))))))))))
theorem en_R_numberOf2 {a N : Nat} {n : Nat} {w p : Nat → Nat} {d : Nat} {K : qm_K} {M : qm_M}  (hA : qArr (qL qLM) a N) (h :
    (qMR M n w p) ∧
    (M 71 35 ≠ 0 → rKn M n w p) ∧
    (∀ (M2 : qm_M), (rKn M2 n w p ∧ M2 71 35 ≠ 0 ∧ kF M2 M) →
     at_R_numberOf2_6 a N d K M2 0)) : qm_Runs qm_P (d + 8) 188 [(.inr (some 71)), (.inr (some a))] (qL qLM) M K :=
  And.intro (Nat.le_of_ble_eq_true rfl) (show qm_TT qi_188 (qm_Runs qm_P (d + 7)) K 0 [some (.inr (some 71)), some (.inr (some a)), none] [] (qL qLM) M 0 0 from qm_wp_TT [6] 21 (And.intro (lo_71 ()) (s_R_knows (d := d + 0)  (h.1) (h.2.1) (fun M2 p10 => (h.2.2 M2 p10)))))
theorem lp_R_numberOf2 {a N d : Nat} {K : qm_K} {M0 : qm_M} {n : Nat} {w p u : Nat → Nat} (hA : qArr (qL qLM) a N) (h8N : 8 ≤ N) (hne : (a < 82 ∨ 86 < a) ∧ (a < 89 ∨ 95 < a) ∧ a ≠ 71) (hMR : qMR M0 n w p) (hu : qHa M0 a n u) (hK : ∀ (r : Int) (M2 : qm_M), (rNum n w p u r ∧ rKn M2 n w p ∧ M2 71 35 ≠ 0 ∧ kF M2 M0) → K (.inl r) (qL qLM) M2) : ∀ (j m : Nat) (M : qm_M), m + j = cN n w p → rKn M n w p → M 71 35 ≠ 0 → kF M M0 → (∀ i, i < m → ¬ ∀ x, x < n → mU n w p (bS (cE n w p i)) x = u x) → at_R_numberOf2_6 a N d K M (m : Int)
  | 0, m, M, hm, hKn, h35, hF, hn => by
    refine rg_R_numberOf2_6 (n := n) (w := w) (p := p) hA (And.intro (fun _ => hK _ M ⟨Or.inr ⟨rfl, fun z hz q => ?_⟩, hKn, h35, hF⟩) (fun q => absurd q (by rw [hKn.2.2.2.1]; omega)))
    have h1 := cE_of hz
    refine hn (cC n w p z) (by omega) ?_
    rw [h1.1]
    exact q
  | j + 1, m, M, hm, hKn, h35, hF, hn => by
    have hI := hMR.2.2.2
    have h8 := hI.2.1
    have h4 := cN_le hI
    have hs := cE_spec (n := n) (w := w) (p := p) (m := m) (by omega)
    have hm1 := kF_MR hMR hF
    refine rg_R_numberOf2_6 (n := n) (w := w) (p := p) hA (And.intro (fun q => absurd q (by rw [hKn.2.2.2.1]; omega)) (fun _ => And.intro ⟨hm1, hKn⟩ (And.intro ⟨by omega, by omega⟩ (And.intro ⟨by decide, by decide, by decide, by decide, by decide, by decide⟩ ?_))))
    intro M4 h4m
    rw [Int.toNat_natCast] at h4m
    have hKn4 : rKn M4 n w p := rKn_keep hKn (h4m.2 _ (by decide)) (h4m.2 _ (by decide)) (h4m.2 _ (by decide)) (h4m.2 _ (by decide)) (h4m.2 _ (by decide)) (h4m.2 _ (by decide)) (by rw [h4m.2 71 (by decide)]) (by rw [h4m.2 71 (by decide)])
    have h354 : M4 71 35 ≠ 0 := by rw [h4m.2 71 (by decide)]; exact h35
    have hF4 : kF M4 M0 := kF_trans (kF_86 h4m.2) hF
    have ha4 : ∀ x, x < n → M4 a x = mz (u x) := fun x hx => by rw [h4m.2 a (by omega), hF a x (by omega) (by omega) (Or.inl hne.2.2)]; exact hu x hx
    have hiff : (∀ x, x < n → M4 86 x = M4 a x) ↔ ∀ x, x < n → mU n w p (bS (cE n w p m)) x = u x := by
      constructor
      · intro q x hx
        have q1 := q x hx
        rw [h4m.1 x hx, ha4 x hx] at q1
        have := (m_inv hI hs.2.1 hx).1
        exact ((mz_eq (by omega)).mp q1.symm).symm
      · intro q x hx
        have := (m_inv hI hs.2.1 hx).1
        rw [h4m.1 x hx, ha4 x hx, ← q x hx, mz_n (by omega)]
    refine And.intro ⟨by rw [h4m.2 71 (by decide)]; exact hm1.1, h8, h8, by omega⟩ (And.intro (fun q => hK _ M4 ⟨Or.inl ⟨_, hs.2.1, hiff.mp q, by rw [hs.2.2]⟩, hKn4, h354, hF4⟩) (fun q => And.intro (by unfold qm_R; omega) (lp_R_numberOf2 hA h8N hne hMR hu hK j (m + 1) M4 (by omega) hKn4 h354 hF4 (fun i hi z => ?_))))
    by_cases him : i = m
    · rw [him] at z
      exact q (hiff.mpr z)
    · exact hn i (by omega) z
theorem s_R_numberOf2 {a N : Nat} {n : Nat} {w p u : Nat → Nat} {d : Nat} {K : qm_K} {M : qm_M}  (hA : qArr (qL qLM) a N) (hp0 : qMR M n w p) (hp1 : M 71 35 ≠ 0 → rKn M n w p) (hp2 : qHa M a n u ∧ 8 ≤ (N : Nat) ∧ (a < 82 ∨ 86 < a) ∧ (a < 89 ∨ 95 < a) ∧ a ≠ 71) (hK : ∀ (r : Int) (M2 : qm_M), (rNum n w p u r ∧ rKn M2 n w p ∧ M2 71 35 ≠ 0 ∧ kF M2 M) → K (.inl r) (qL qLM) M2) : qm_Runs qm_P (d + 8) 188 [(.inr (some 71)), (.inr (some a))] (qL qLM) M K := by
  obtain ⟨hu, h8N, hne⟩ := hp2
  refine en_R_numberOf2 (n := n) (w := w) (p := p) hA (And.intro hp0 (And.intro hp1 ?_))
  intro M2 h2
  exact lp_R_numberOf2 hA h8N hne hp0 hu hK (cN n w p) 0 M2 (by omega) h2.1 h2.2.1 h2.2.2 (fun i hi => absurd hi (Nat.not_lt_zero _))
