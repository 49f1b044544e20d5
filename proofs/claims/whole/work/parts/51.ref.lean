def anList (n : Nat) (w : Nat → Nat) (s a k : Int) : Int := if s < 0 ∨ 1 < s ∨ a < 0 ∨ (n : Int) ≤ a ∨ k < 0 ∨ (n : Int) ≤ k then -1 else (w (ix s.toNat a.toNat k.toNat) : Int)
def anHanded (n : Nat) (u : Nat → Nat) (l : Int) : Int := if l < 0 ∨ (n : Int) ≤ l then -1 else mz (u l.toNat)
theorem en_R_list   {d : Nat} {K : qm_K} {M : qm_M} {s : Int} {a : Int} {k : Int} (h :
    ((0 ≤ s ∧ s ≤ 1) →
     (1 ≤ M 71 0 ∧ M 71 0 ≤ 8) ∧
     ((0 ≤ a ∧ a < M 71 0) →
      (1 ≤ M 71 0 ∧ M 71 0 ≤ 8) ∧
      ((0 ≤ k ∧ k < M 71 0) →
       (0 ≤ (s : Int) ∧ (s : Int) ≤ 1 ∧ 0 ≤ (a : Int) ∧ (a : Int) ≤ 8 ∧ 0 ≤ (k : Int) ∧ (k : Int) ≤ 8) ∧
       ∀ (y1 : Int), y1 = (64 * s + 8 * a + k) →
       0 ≤ y1 ∧ y1 < 128 ∧
       ∀ (y2 : Int), y2 = (M 72 (Int.toNat y1)) →
       K (.inl y2) (qL qLM) M) ∧
      (¬ (0 ≤ k ∧ k < M 71 0) →
       K (.inl ((-1))) (qL qLM) M)) ∧
     (¬ (0 ≤ a ∧ a < M 71 0) →
      K (.inl ((-1))) (qL qLM) M)) ∧
    (¬ (0 ≤ s ∧ s ≤ 1) →
     K (.inl ((-1))) (qL qLM) M)) : qm_Runs qm_P (d + 3) 159 [(.inr (some 71)), (.inl s), (.inl a), (.inl k)] (qL qLM) M K :=
  And.intro (Nat.le_of_ble_eq_true rfl) (show qm_TT qi_159 (qm_Runs qm_P (d + 2)) K 0 [some (.inr (some 71)), some (.inl s), some (.inl a), some (.inl k)] [] (qL qLM) M 0 0 from qm_wp_TT [] 25 (And.intro True.intro (s_R_isIn (d := d + 1)   (And.intro (fun q3 => (h.2 (qm_b0 q3))) (fun q4 => And.intro (lo_71 ()) (s_R_isOne (d := d + 0)  ((h.1 (qm_b1 q4)).1) (And.intro (fun q5 => ((h.1 (qm_b1 q4)).2.2 (qm_b0 q5))) (fun q6 => And.intro (lo_71 ()) (s_R_isOne (d := d + 0)  (((h.1 (qm_b1 q4)).2.1 (qm_b1 q6)).1) (And.intro (fun q7 => (((h.1 (qm_b1 q4)).2.1 (qm_b1 q6)).2.2 (qm_b0 q7))) (fun q8 => Exists.intro 72 (And.intro (lf_71_2 ()) (And.intro True.intro (s_R_at (d := d + 1)  ((((h.1 (qm_b1 q4)).2.1 (qm_b1 q6)).2.1 (qm_b1 q8)).1) (Exists.intro 128 (And.intro (la_72 ()) (And.intro ((((h.1 (qm_b1 q4)).2.1 (qm_b1 q6)).2.1 (qm_b1 q8)).2 _ rfl).1 (And.intro ((((h.1 (qm_b1 q4)).2.1 (qm_b1 q6)).2.1 (qm_b1 q8)).2 _ rfl).2.1 ((((((h.1 (qm_b1 q4)).2.1 (qm_b1 q6)).2.1 (qm_b1 q8)).2 _ rfl).2.2 _ rfl))))))))))))))))))))
theorem s_R_list  {n : Nat} {w p : Nat → Nat} {d : Nat} {K : qm_K} {M : qm_M} {s : Int} {a : Int} {k : Int} (hp0 : qMR M n w p) (hK : ∀ (r : Int), (r = anList n w s a k) → K (.inl r) (qL qLM) M) : qm_Runs qm_P (d + 3) 159 [(.inr (some 71)), (.inl s), (.inl a), (.inl k)] (qL qLM) M K := by
  have hI := hp0.2.2.2
  have h1 := hI.1
  have h8 := hI.2.1
  have bad : (s < 0 ∨ 1 < s ∨ a < 0 ∨ (n : Int) ≤ a ∨ k < 0 ∨ (n : Int) ≤ k) → K (.inl (-1)) (qL qLM) M := fun h => hK _ (by unfold anList; rw [if_pos h])
  refine en_R_list ?_
  rw [hp0.1]
  refine And.intro (fun h => And.intro (by omega) (And.intro (fun h2 => And.intro (by omega) (And.intro (fun h3 => And.intro (by omega) ?_) (fun h3 => bad (by omega)))) (fun h2 => bad (by omega)))) (fun h => bad (by omega))
  intro y1 e1
  refine And.intro (by omega) (And.intro (by omega) ?_)
  intro y2 e2
  refine hK _ ?_
  unfold anList
  rw [if_neg (by omega), e2, e1, ← rLi hp0 (s := s.toNat) (a := a.toNat) (k := k.toNat) (by omega) (by omega) (by omega)]
  congr 1
  omega
theorem en_R_handed   {d : Nat} {K : qm_K} {M : qm_M} {l : Int} (h :
    (1 ≤ M 71 0 ∧ M 71 0 ≤ 8) ∧
    ((0 ≤ l ∧ l < M 71 0) →
     0 ≤ l ∧ l < 8 ∧
     ∀ (y1 : Int), y1 = (M 79 (Int.toNat l)) →
     K (.inl y1) (qL qLM) M) ∧
    (¬ (0 ≤ l ∧ l < M 71 0) →
     K (.inl ((-1))) (qL qLM) M)) : qm_Runs qm_P (d + 3) 207 [(.inr (some 71)), (.inl l)] (qL qLM) M K :=
  And.intro (Nat.le_of_ble_eq_true rfl) (show qm_TT qi_207 (qm_Runs qm_P (d + 2)) K 0 [some (.inr (some 71)), some (.inl l)] [] (qL qLM) M 0 0 from qm_wp_TT [] 13 (And.intro (lo_71 ()) (s_R_isOne (d := d + 0)  (h.1) (And.intro (fun q2 => (h.2.2 (qm_b0 q2))) (fun q3 => Exists.intro 79 (And.intro (lf_71_11 ()) (Exists.intro 8 (And.intro (la_79 ()) (And.intro (h.2.1 (qm_b1 q3)).1 (And.intro (h.2.1 (qm_b1 q3)).2.1 (((h.2.1 (qm_b1 q3)).2.2 _ rfl))))))))))))
theorem s_R_handed  {n : Nat} {u : Nat → Nat} {d : Nat} {K : qm_K} {M : qm_M} {l : Int} (hp0 : M 71 0 = (n : Int) ∧ 1 ≤ n ∧ n ≤ 8 ∧ qHa M 79 n u) (hK : ∀ (r : Int), (r = anHanded n u l) → K (.inl r) (qL qLM) M) : qm_Runs qm_P (d + 3) 207 [(.inr (some 71)), (.inl l)] (qL qLM) M K := by
  obtain ⟨h0, h1, h8, hu⟩ := hp0
  refine en_R_handed ?_
  rw [h0]
  refine And.intro (by omega) (And.intro (fun h => And.intro (by omega) (And.intro (by omega) ?_)) (fun h => hK _ (by unfold anHanded; rw [if_pos (by omega)])))
  intro y1 e1
  refine hK _ ?_
  unfold anHanded
  rw [if_neg (by omega), e1, hu _ (by omega)]
theorem en_R_gives {a N : Nat} {n : Nat} {u v : Nat → Nat} {d : Nat} {K : qm_K} {M : qm_M} {l : Int} {r : Int} (hA : qArr (qL qLM) a N) (h :
    (M 71 0 = (n : Int) ∧ qHa M a n u ∧ qPm n u v ∧ n ≤ 8 ∧ n ≤ (N : Nat)) ∧
    (0 ≤ (r : Int) ∧ (r : Int) < (n : Int)) ∧
    ∀ (y1 : Int), y1 = (mz (v (Int.toNat r))) →
    (y1 < 0 →
     0 ≤ l ∧ l < N ∧
     ∀ (M2 : qm_M), M2 = (qm_u M a (Int.toNat l) r) →
     K (.inl 0) (qL qLM) M2) ∧
    (¬ y1 < 0 →
     0 ≤ y1 ∧ y1 < N ∧
     ∀ (M3 : qm_M), M3 = (qm_u M a (Int.toNat y1) (-2)) →
     0 ≤ l ∧ l < N ∧
     ∀ (M4 : qm_M), M4 = (qm_u M3 a (Int.toNat l) r) →
     K (.inl 0) (qL qLM) M4)) : qm_Runs qm_P (d + 2) 205 [(.inr (some 71)), (.inr (some a)), (.inl l), (.inl r)] (qL qLM) M K :=
  And.intro (Nat.le_of_ble_eq_true rfl) (show qm_TT qi_205 (qm_Runs qm_P (d + 1)) K 0 [some (.inr (some 71)), some (.inr (some a)), some (.inl l), some (.inl r), none] [] (qL qLM) M 0 0 from qm_wp_TT [] 19 (And.intro (lo_71 ()) (s_R_handLeft (d := d + 0) hA (h.1) (h.2.1) (And.intro (fun q5 => Exists.intro N (And.intro hA.1 (And.intro ((h.2.2 _ rfl).1 q5).1 (And.intro ((h.2.2 _ rfl).1 q5).2.1 ((((h.2.2 _ rfl).1 q5).2.2 _ rfl)))))) (fun q6 => Exists.intro N (And.intro hA.1 (And.intro ((h.2.2 _ rfl).2 q6).1 (And.intro ((h.2.2 _ rfl).2 q6).2.1 (Exists.intro N (And.intro hA.1 (And.intro (((h.2.2 _ rfl).2 q6).2.2 _ rfl).1 (And.intro (((h.2.2 _ rfl).2 q6).2.2 _ rfl).2.1 (((((h.2.2 _ rfl).2 q6).2.2 _ rfl).2.2 _ rfl))))))))))))))
theorem s_R_gives {a N : Nat} {n : Nat} {u v : Nat → Nat} {d : Nat} {K : qm_K} {M : qm_M} {l : Int} {r : Int} (hA : qArr (qL qLM) a N) (hp0 : M 71 0 = (n : Int) ∧ qHa M a n u ∧ qPm n u v ∧ n ≤ 8 ∧ 8 ≤ (N : Nat)) (hp1 : 0 ≤ (l : Int) ∧ (l : Int) < (n : Int) ∧ 0 ≤ (r : Int) ∧ (r : Int) < (n : Int)) (hK : ∀ (M2 : qm_M), (qHa M2 a n (pmJoin u v (Int.toNat l) (Int.toNat r)).1 ∧ ∀ c, c ≠ a → M2 c = M c) → K (.inl 0) (qL qLM) M2) : qm_Runs qm_P (d + 2) 205 [(.inr (some 71)), (.inr (some a)), (.inl l), (.inl r)] (qL qLM) M K := by
  obtain ⟨h0, hu, hpm, h8, hN⟩ := hp0
  obtain ⟨i, rfl⟩ : ∃ b : Nat, l = (b : Int) := ⟨l.toNat, by omega⟩
  obtain ⟨b, rfl⟩ : ∃ b : Nat, r = (b : Int) := ⟨r.toNat, by omega⟩
  rw [Int.toNat_natCast, Int.toNat_natCast] at hK
  have hb : b < n := by omega
  refine en_R_gives (n := n) (u := u) (v := v) hA (And.intro ⟨h0, hu, hpm, h8, by omega⟩ (And.intro (by omega) ?_))
  intro y1 e1
  rw [Int.toNat_natCast] at e1
  refine And.intro (fun h => And.intro (by omega) (And.intro (by omega) ?_)) (fun h => ?_)
  · intro M2 e2
    rw [Int.toNat_natCast] at e2
    have hv : v b = 9 := by
      rcases hpm.2 b hb with q | q
      · exact q
      · rw [mz_n (by omega)] at e1; omega
    refine hK M2 ⟨fun x hx => ?_, fun c hc => by rw [e2, qu_cf hc]⟩
    unfold pmJoin
    simp only
    rw [e2]
    by_cases hxi : x = i
    · rw [hxi, qu_s, if_pos rfl, mz_n (by omega)]
    · rw [qu_k hxi, if_neg hxi, if_neg, hu x hx]
      intro q
      rcases hpm.1 x hx with q2 | q2
      · omega
      · rw [q, hv] at q2; omega
  · have hv : v b < n ∧ u (v b) = b := by
      rcases hpm.2 b hb with q | q
      · rw [e1, q] at h; exact absurd (by decide) h
      · exact q
    rw [mz_n (by omega)] at e1
    refine And.intro (by omega) (And.intro (by omega) ?_)
    intro M3 e3
    rw [e1, Int.toNat_natCast] at e3
    refine And.intro (by omega) (And.intro (by omega) ?_)
    intro M4 e4
    rw [Int.toNat_natCast] at e4
    refine hK M4 ⟨fun x hx => ?_, fun c hc => by rw [e4, qu_cf hc, e3, qu_cf hc]⟩
    unfold pmJoin
    simp only
    rw [e4]
    by_cases hxi : x = i
    · rw [hxi, qu_s, if_pos rfl, mz_n (by omega)]
    · rw [qu_k hxi, if_neg hxi, e3]
      by_cases hxv : x = v b
      · rw [hxv, qu_s, if_pos hv.2]
        rfl
      · rw [qu_k hxv, if_neg, hu x hx]
        intro q
        rcases hpm.1 x hx with q2 | q2
        · omega
        · rw [q] at q2; exact hxv q2.2.symm
