/-- the lists as they were and are to be: H b are those that are now -/
def qY (M : qm_M) (n : Nat) (H : Nat → Nat → Nat) (b f : Nat) : Prop := ∃ ol : Nat, ol < 13 ∧ M 14 1 = (ol : Int) ∧ M 14 2 = (b : Int) ∧ M 14 3 = (f : Int) ∧ b + f ≤ 12 ∧ ∀ i, i ≤ b + f → (∃ p, qInv n (H i) p) ∧ ∀ s a k, s < 2 → a < n → k < n → M 16 (((ol + i) % 13) * 128 + ix s a k) = (H i (ix s a k) : Int)
theorem tm13 (x : Nat) : Int.tmod ((x : Nat) : Int) 13 = ((x % 13 : Nat) : Int) := rfl
theorem svRow_at {M : qm_M} {c b c2 x : Nat} (h : x < 128) : svRow M c b c2 c (b + x) = M c2 x := by
  unfold svRow
  rw [if_pos rfl, if_pos (by omega)]
  congr 1
  omega
theorem svRow_k {M : qm_M} {c b c2 x : Nat} (h : x < b ∨ b + 128 ≤ x) : svRow M c b c2 c x = M c x := by
  unfold svRow
  rw [if_pos rfl, if_neg (by omega)]
theorem svRow_c {M : qm_M} {c b c2 a : Nat} (h : a ≠ c) : svRow M c b c2 a = M a := by
  funext x
  unfold svRow
  rw [if_neg h]
theorem qu_cf {M : qm_M} {c k a : Nat} {v : Int} (h : a ≠ c) : qm_u M c k v a = M a := by
  funext b
  exact qu_c h
theorem en_Hist_start {T : qm_L}  {d : Nat} {K : qm_K} {M : qm_M}  (h :
    qm_R ((M 14 1) + (M 14 2)) ∧
    (0 : Int) < 13 ∧
    qm_R ((Int.tmod ((M 14 1) + (M 14 2)) 13) * 128) ∧
    K (.inl (((Int.tmod ((M 14 1) + (M 14 2)) 13) * 128))) (qL T) M) : qm_Runs qm_P (d + 1) 14 [(.inr (some 14))] (qL T) M K :=
  And.intro (Nat.le_of_ble_eq_true rfl) (show qm_TT qi_14 (qm_Runs qm_P (d + 0)) K 0 [some (.inr (some 14))] [] (qL T) M 0 0 from qm_wp_TT [] 13 (And.intro (lf_14_1 T) (And.intro (lf_14_2 T) (And.intro h.1 (And.intro h.2.1 (And.intro h.2.2.1 (h.2.2.2)))))))
theorem s_Hist_start {T : qm_L}  {d : Nat} {K : qm_K} {M : qm_M}  (hp0 : 0 ≤ M 14 1 ∧ M 14 1 ≤ 12 ∧ 0 ≤ M 14 2 ∧ M 14 2 ≤ 12) (hK : K (.inl (((Int.tmod (M 14 1 + M 14 2) 13) * 128))) (qL T) M) : qm_Runs qm_P (d + 1) 14 [(.inr (some 14))] (qL T) M K := by
  refine en_Hist_start   ?_
  have h1 : Int.tmod (M 14 1 + M 14 2) 13 < 13 := Int.tmod_lt_of_pos _ (by decide)
  have h2 : 0 ≤ Int.tmod (M 14 1 + M 14 2) 13 := Int.tmod_nonneg _ (by omega)
  exact And.intro (by unfold qm_R; omega) (And.intro (by decide) (And.intro (by unfold qm_R; omega) hK))
theorem en_Hist_behind {T : qm_L}  {d : Nat} {K : qm_K} {M : qm_M}  (h :
    K (.inl ((M 14 2))) (qL T) M) : qm_Runs qm_P (d + 1) 8 [(.inr (some 14))] (qL T) M K :=
  And.intro (Nat.le_of_ble_eq_true rfl) (show qm_TT qi_8 (qm_Runs qm_P (d + 0)) K 0 [some (.inr (some 14))] [] (qL T) M 0 0 from qm_wp_TT [] 6 (And.intro (lf_14_2 T) (h)))
theorem s_Hist_behind {T : qm_L}  {d : Nat} {K : qm_K} {M : qm_M}   (hK : K (.inl (M 14 2)) (qL T) M) : qm_Runs qm_P (d + 1) 8 [(.inr (some 14))] (qL T) M K :=
  en_Hist_behind   hK
theorem en_Hist_before {T : qm_L}  {d : Nat} {K : qm_K} {M : qm_M}  (h :
    K (.inl ((M 14 3))) (qL T) M) : qm_Runs qm_P (d + 1) 9 [(.inr (some 14))] (qL T) M K :=
  And.intro (Nat.le_of_ble_eq_true rfl) (show qm_TT qi_9 (qm_Runs qm_P (d + 0)) K 0 [some (.inr (some 14))] [] (qL T) M 0 0 from qm_wp_TT [] 6 (And.intro (lf_14_3 T) (h)))
theorem s_Hist_before {T : qm_L}  {d : Nat} {K : qm_K} {M : qm_M}   (hK : K (.inl (M 14 3)) (qL T) M) : qm_Runs qm_P (d + 1) 9 [(.inr (some 14))] (qL T) M K :=
  en_Hist_before   hK
theorem hist_slot {x : Nat} (hx : x < 13) : (0 : Int) ≤ ((x : Nat) : Int) * 128 ∧ ((x : Nat) : Int) * 128 + 128 ≤ (1664 : Int) := by omega
theorem hist_apart {a b x y : Nat} (ha : a < 13) (hb : b < 13) (hne : a ≠ b) (hx : x < 128) (hy : y < 128) : a * 128 + x < b * 128 ∨ b * 128 + 128 ≤ a * 128 + x := by omega
theorem hist_mod {ol i j : Nat} (hi : i < 13) (hj : j < 13) (h : (ol + i) % 13 = (ol + j) % 13) : i = j := by omega
/-- the newest lists laid into the ring -/
theorem qY_lay {M M2 : qm_M} {n ol b : Nat} {H : Nat → Nat → Nat} {w p : Nat → Nat} (hol : ol < 13) (hb : b ≤ 12) (h1 : M2 14 1 = (ol : Int)) (h2 : M2 14 2 = (b : Int)) (h3 : M2 14 3 = 0) (hold : ∀ i, i < b → (∃ p, qInv n (H i) p) ∧ ∀ s a k, s < 2 → a < n → k < n → M 16 (((ol + i) % 13) * 128 + ix s a k) = (H i (ix s a k) : Int)) (hw : qLR M 4 n w p) (h16 : M2 16 = svRow M 16 (((ol + b) % 13) * 128) 6 16) : qY M2 n (fun i => if i < b then H i else w) b 0 := by
  refine ⟨ol, hol, h1, h2, h3, by omega, fun i hi => ?_⟩
  have h8 := hw.2.2.2.2.1
  by_cases hib : i < b
  · simp only [hib, if_true]
    refine ⟨(hold i hib).1, fun s a k hs ha hk => ?_⟩
    have hx := ix_lt (s := s) (a := a) (k := k) hs (by omega) (by omega)
    rw [h16, svRow_k]
    · exact (hold i hib).2 s a k hs ha hk
    · have hne : (ol + i) % 13 ≠ (ol + b) % 13 := fun z => by have := hist_mod (by omega) (by omega) z; omega
      exact hist_apart (y := 0) (Nat.mod_lt _ (by decide)) (Nat.mod_lt _ (by decide)) hne hx (by decide)
  · have : i = b := by omega
    subst this
    simp only [Nat.lt_irrefl, if_false]
    refine ⟨⟨p, hw.2.2.2⟩, fun s a k hs ha hk => ?_⟩
    rw [h16, svRow_at (ix_lt hs (by omega) (by omega))]
    exact hw.2.1 s a k hs ha hk
theorem en_Hist_forget {T : qm_L} {n : Nat} {w p : Nat → Nat} {d : Nat} {K : qm_K} {M : qm_M}  (h :
    (0 ≤ (qm_u (qm_u M 14 2 0) 14 3 0) 14 1 ∧ (qm_u (qm_u M 14 2 0) 14 3 0) 14 1 ≤ 12 ∧ 0 ≤ (qm_u (qm_u M 14 2 0) 14 3 0) 14 2 ∧ (qm_u (qm_u M 14 2 0) 14 3 0) 14 2 ≤ 12) ∧
    (0 ≤ ((Int.tmod ((qm_u (qm_u M 14 2 0) 14 3 0) 14 1 + (qm_u (qm_u M 14 2 0) 14 3 0) 14 2) 13) * 128) ∧ ((Int.tmod ((qm_u (qm_u M 14 2 0) 14 3 0) 14 1 + (qm_u (qm_u M 14 2 0) 14 3 0) 14 2) 13) * 128) + 128 ≤ (1664 : Int)) ∧
    (16 ≠ 6) ∧
    K (.inl 0) (qL T) (svRow (qm_u (qm_u M 14 2 0) 14 3 0) 16 (Int.toNat ((Int.tmod ((qm_u (qm_u M 14 2 0) 14 3 0) 14 1 + (qm_u (qm_u M 14 2 0) 14 3 0) 14 2) 13) * 128)) 6)) : qm_Runs qm_P (d + 3) 10 [(.inr (some 14)), (.inr (some 4))] (qL T) M K :=
  And.intro (Nat.le_of_ble_eq_true rfl) (show qm_TT qi_10 (qm_Runs qm_P (d + 2)) K 0 [some (.inr (some 14)), some (.inr (some 4))] [] (qL T) M 0 0 from qm_wp_TT [] 16 (And.intro (lf_14_2 T) (And.intro (lf_14_3 T) (Exists.intro 15 (And.intro (lf_14_0 T) (And.intro (lo_14 T) (s_Hist_start (d := d + 1)  (h.1) (And.intro (lo_4 T) (s_Lists_saveTo (d := d + 0) (lLs_4 T) (lRow_15 T) (h.2.1) (h.2.2.1) (h.2.2.2))))))))))
theorem s_Hist_forget {T : qm_L} {n : Nat} {w p : Nat → Nat} {d : Nat} {K : qm_K} {M : qm_M}  (hp0 : qLR M 4 n w p) (hp1 : ∃ ol : Nat, ol < 13 ∧ M 14 1 = (ol : Int)) (hK : ∀ (M2 : qm_M), (qY M2 n (fun _ => w) 0 0 ∧ (∀ c, c ≠ 14 → c ≠ 16 → M2 c = M c)) → K (.inl 0) (qL T) M2) : qm_Runs qm_P (d + 3) 10 [(.inr (some 14)), (.inr (some 4))] (qL T) M K := by
  refine en_Hist_forget (n := n) (w := w) (p := p)  ?_
  obtain ⟨ol, hol, e1⟩ := hp1
  have e2 : (qm_u (qm_u M 14 2 0) 14 3 0) 14 1 = (ol : Int) := by rw [qu_k (by decide), qu_k (by decide)]; exact e1
  have e3 : (qm_u (qm_u M 14 2 0) 14 3 0) 14 2 = 0 := by rw [qu_k (by decide), qu_s]
  rw [e2, e3]
  have e4 : Int.tmod ((ol : Int) + 0) 13 = ((ol : Nat) : Int) := by
    rw [Int.add_zero, tm13, Nat.mod_eq_of_lt hol]
  rw [e4]
  refine And.intro (by omega) (And.intro (by omega) (And.intro (by decide) (hK _ ⟨?_, fun c h1 h2 => ?_⟩)))
  · have hw : qLR (qm_u (qm_u M 14 2 0) 14 3 0) 4 n w p := by
      unfold qLR at *
      rw [qu_cf (by decide), qu_cf (by decide)]
      unfold qAt at *
      rw [qu_cf (by decide), qu_cf (by decide), qu_cf (by decide), qu_cf (by decide)]
      exact hp0
    have := qY_lay (M := qm_u (qm_u M 14 2 0) 14 3 0) (M2 := svRow (qm_u (qm_u M 14 2 0) 14 3 0) 16 (Int.toNat ((ol : Int) * 128)) 6) (n := n) (ol := ol) (b := 0) (H := fun _ => w) hol (by omega) (by rw [svRow_c (by decide)]; exact e2) (by rw [svRow_c (by decide)]; exact e3) (by rw [svRow_c (by decide), qu_s]) (fun i hi => absurd hi (Nat.not_lt_zero _)) hw (by
        rw [show Int.toNat ((ol : Int) * 128) = (ol + 0) % 13 * 128 by omega])
    have h2 : (fun i => if i < 0 then (fun _ => w) i else w) = fun (_ : Nat) => w := by
      funext i; rw [if_neg (Nat.not_lt_zero _)]
    rw [h2] at this
    exact this
  · rw [svRow_c h2, qu_cf h1, qu_cf h1]
theorem en_Hist_note {T : qm_L} {n b f : Nat} {H : Nat → Nat → Nat} {w p : Nat → Nat} {d : Nat} {K : qm_K} {M : qm_M}  (h :
    (12 ≤ (M 14 2) →
     qm_R ((M 14 1) + 1) ∧
     (0 : Int) < 13 ∧
     (0 ≤ (qm_u (qm_u M 14 1 (Int.tmod ((M 14 1) + 1) 13)) 14 3 0) 14 1 ∧ (qm_u (qm_u M 14 1 (Int.tmod ((M 14 1) + 1) 13)) 14 3 0) 14 1 ≤ 12 ∧ 0 ≤ (qm_u (qm_u M 14 1 (Int.tmod ((M 14 1) + 1) 13)) 14 3 0) 14 2 ∧ (qm_u (qm_u M 14 1 (Int.tmod ((M 14 1) + 1) 13)) 14 3 0) 14 2 ≤ 12) ∧
     (0 ≤ ((Int.tmod ((qm_u (qm_u M 14 1 (Int.tmod ((M 14 1) + 1) 13)) 14 3 0) 14 1 + (qm_u (qm_u M 14 1 (Int.tmod ((M 14 1) + 1) 13)) 14 3 0) 14 2) 13) * 128) ∧ ((Int.tmod ((qm_u (qm_u M 14 1 (Int.tmod ((M 14 1) + 1) 13)) 14 3 0) 14 1 + (qm_u (qm_u M 14 1 (Int.tmod ((M 14 1) + 1) 13)) 14 3 0) 14 2) 13) * 128) + 128 ≤ (1664 : Int)) ∧
     (16 ≠ 6) ∧
     K (.inl 0) (qL T) (svRow (qm_u (qm_u M 14 1 (Int.tmod ((M 14 1) + 1) 13)) 14 3 0) 16 (Int.toNat ((Int.tmod ((qm_u (qm_u M 14 1 (Int.tmod ((M 14 1) + 1) 13)) 14 3 0) 14 1 + (qm_u (qm_u M 14 1 (Int.tmod ((M 14 1) + 1) 13)) 14 3 0) 14 2) 13) * 128)) 6)) ∧
    (¬ 12 ≤ (M 14 2) →
     qm_R ((M 14 2) + 1) ∧
     (0 ≤ (qm_u (qm_u M 14 2 ((M 14 2) + 1)) 14 3 0) 14 1 ∧ (qm_u (qm_u M 14 2 ((M 14 2) + 1)) 14 3 0) 14 1 ≤ 12 ∧ 0 ≤ (qm_u (qm_u M 14 2 ((M 14 2) + 1)) 14 3 0) 14 2 ∧ (qm_u (qm_u M 14 2 ((M 14 2) + 1)) 14 3 0) 14 2 ≤ 12) ∧
     (0 ≤ ((Int.tmod ((qm_u (qm_u M 14 2 ((M 14 2) + 1)) 14 3 0) 14 1 + (qm_u (qm_u M 14 2 ((M 14 2) + 1)) 14 3 0) 14 2) 13) * 128) ∧ ((Int.tmod ((qm_u (qm_u M 14 2 ((M 14 2) + 1)) 14 3 0) 14 1 + (qm_u (qm_u M 14 2 ((M 14 2) + 1)) 14 3 0) 14 2) 13) * 128) + 128 ≤ (1664 : Int)) ∧
     (16 ≠ 6) ∧
     K (.inl 0) (qL T) (svRow (qm_u (qm_u M 14 2 ((M 14 2) + 1)) 14 3 0) 16 (Int.toNat ((Int.tmod ((qm_u (qm_u M 14 2 ((M 14 2) + 1)) 14 3 0) 14 1 + (qm_u (qm_u M 14 2 ((M 14 2) + 1)) 14 3 0) 14 2) 13) * 128)) 6))) : qm_Runs qm_P (d + 3) 11 [(.inr (some 14)), (.inr (some 4))] (qL T) M K :=
  And.intro (Nat.le_of_ble_eq_true rfl) (show qm_TT qi_11 (qm_Runs qm_P (d + 2)) K 0 [some (.inr (some 14)), some (.inr (some 4))] [] (qL T) M 0 0 from qm_wp_TT [] 25 (And.intro (lf_14_2 T) (And.intro (fun q1 => And.intro (lf_14_1 T) (And.intro (h.1 q1).1 (And.intro (h.1 q1).2.1 (And.intro (lf_14_1 T) (And.intro (lf_14_3 T) (Exists.intro 15 (And.intro (lf_14_0 T) (And.intro (lo_14 T) (s_Hist_start (d := d + 1)  ((h.1 q1).2.2.1) (And.intro (lo_4 T) (s_Lists_saveTo (d := d + 0) (lLs_4 T) (lRow_15 T) ((h.1 q1).2.2.2.1) ((h.1 q1).2.2.2.2.1) ((h.1 q1).2.2.2.2.2)))))))))))) (fun q2 => And.intro (lf_14_2 T) (And.intro (h.2 q2).1 (And.intro (lf_14_2 T) (And.intro (lf_14_3 T) (Exists.intro 15 (And.intro (lf_14_0 T) (And.intro (lo_14 T) (s_Hist_start (d := d + 1)  ((h.2 q2).2.1) (And.intro (lo_4 T) (s_Lists_saveTo (d := d + 0) (lLs_4 T) (lRow_15 T) ((h.2 q2).2.2.1) ((h.2 q2).2.2.2.1) ((h.2 q2).2.2.2.2))))))))))))))
theorem s_Hist_note {T : qm_L} {n b f : Nat} {H : Nat → Nat → Nat} {w p : Nat → Nat} {d : Nat} {K : qm_K} {M : qm_M}  (hp0 : qLR M 4 n w p) (hp1 : qY M n H b f) (hK : ∀ (M2 : qm_M), (qY M2 n (if b < 12 then (fun i => if i < b + 1 then H i else w) else (fun i => if i < 12 then H (i + 1) else w)) (if b < 12 then b + 1 else 12) 0 ∧ (∀ c, c ≠ 14 → c ≠ 16 → M2 c = M c)) → K (.inl 0) (qL T) M2) : qm_Runs qm_P (d + 3) 11 [(.inr (some 14)), (.inr (some 4))] (qL T) M K := by
  refine en_Hist_note (n := n) (b := b) (f := f) (H := H) (w := w) (p := p)  ?_
  obtain ⟨ol, hol, e1, e2, e3, hbf, hH⟩ := hp1
  have key : ∀ M1 : qm_M, (∀ c, c ≠ 14 → M1 c = M c) → qLR M1 4 n w p := fun M1 h => by
    unfold qLR qAt at *
    rw [h 4 (by decide), h (4 + 2) (by decide), h (4 + 4) (by decide)]
    exact hp0
  refine And.intro (fun h12 => ?_) (fun h12 => ?_)
  · have hb : ¬ b < 12 := by omega
    rw [if_neg hb, if_neg hb] at hK
    rw [e1, show Int.tmod ((ol : Int) + 1) 13 = (((ol + 1) % 13 : Nat) : Int) from tm13 (ol + 1)]
    have a1 : (qm_u (qm_u M 14 1 (((ol + 1) % 13 : Nat) : Int)) 14 3 0) 14 1 = (((ol + 1) % 13 : Nat) : Int) := by rw [qu_k (by decide), qu_s]
    have a2 : (qm_u (qm_u M 14 1 (((ol + 1) % 13 : Nat) : Int)) 14 3 0) 14 2 = ((12 : Nat) : Int) := by rw [qu_k (by decide), qu_k (by decide), e2]; omega
    rw [a1, a2, show Int.tmod ((((ol + 1) % 13 : Nat) : Int) + ((12 : Nat) : Int)) 13 = ((((ol + 1) % 13 + 12) % 13 : Nat) : Int) from tm13 _]
    refine And.intro (by unfold qm_R; omega) (And.intro (by decide) (And.intro (by omega) (And.intro (by omega) (And.intro (by decide) (hK _ ⟨?_, fun c h1 h2 => ?_⟩)))))
    · refine qY_lay (M := qm_u (qm_u M 14 1 (((ol + 1) % 13 : Nat) : Int)) 14 3 0) (ol := (ol + 1) % 13) (H := fun i => H (i + 1)) (Nat.mod_lt _ (by decide)) (Nat.le_refl _) ?_ ?_ ?_ (fun i hi => ⟨(hH (i + 1) (by omega)).1, fun s a k hs ha hk => ?_⟩) (key _ (fun c hc => by rw [qu_cf hc, qu_cf hc])) ?_
      · rw [svRow_c (by decide)]; exact a1
      · rw [svRow_c (by decide)]; exact a2
      · rw [svRow_c (by decide), qu_s]
      · rw [qu_c (by decide), qu_c (by decide), ← (hH (i + 1) (by omega)).2 s a k hs ha hk]
        congr 2
        omega
      · rw [show Int.toNat ((((((ol + 1) % 13 + 12) % 13 : Nat)) : Int) * 128) = ((ol + 1) % 13 + 12) % 13 * 128 by omega]
    · rw [svRow_c h2, qu_cf h1, qu_cf h1]
  · have hb : b < 12 := by omega
    rw [if_pos hb, if_pos hb] at hK
    have a1 : (qm_u (qm_u M 14 2 (M 14 2 + 1)) 14 3 0) 14 1 = (ol : Int) := by rw [qu_k (by decide), qu_k (by decide), e1]
    have a2 : (qm_u (qm_u M 14 2 (M 14 2 + 1)) 14 3 0) 14 2 = ((b + 1 : Nat) : Int) := by rw [qu_k (by decide), qu_s, e2]; rfl
    rw [a1, a2, show Int.tmod ((ol : Int) + ((b + 1 : Nat) : Int)) 13 = (((ol + (b + 1)) % 13 : Nat) : Int) from tm13 _]
    refine And.intro (by unfold qm_R; omega) (And.intro (by omega) (And.intro (by omega) (And.intro (by decide) (hK _ ⟨?_, fun c h1 h2 => ?_⟩))))
    · refine qY_lay (M := qm_u (qm_u M 14 2 (M 14 2 + 1)) 14 3 0) (ol := ol) (H := H) hol (by omega) ?_ ?_ ?_ (fun i hi => ⟨(hH i (by omega)).1, fun s a k hs ha hk => ?_⟩) (key _ (fun c hc => by rw [qu_cf hc, qu_cf hc])) ?_
      · rw [svRow_c (by decide)]; exact a1
      · rw [svRow_c (by decide)]; exact a2
      · rw [svRow_c (by decide), qu_s]
      · rw [qu_c (by decide), qu_c (by decide)]; exact (hH i (by omega)).2 s a k hs ha hk
      · rw [show Int.toNat ((((ol + (b + 1)) % 13 : Nat) : Int) * 128) = (ol + (b + 1)) % 13 * 128 by omega]
    · rw [svRow_c h2, qu_cf h1, qu_cf h1]
theorem en_Hist_stepBack {T : qm_L} {n : Nat} {w p : Nat → Nat} {d : Nat} {K : qm_K} {M : qm_M}  (h :
    qm_R ((M 14 2) - 1) ∧
    qm_R (((qm_u M 14 2 ((M 14 2) - 1)) 14 3) + 1) ∧
    (0 ≤ (qm_u (qm_u M 14 2 ((M 14 2) - 1)) 14 3 (((qm_u M 14 2 ((M 14 2) - 1)) 14 3) + 1)) 14 1 ∧ (qm_u (qm_u M 14 2 ((M 14 2) - 1)) 14 3 (((qm_u M 14 2 ((M 14 2) - 1)) 14 3) + 1)) 14 1 ≤ 12 ∧ 0 ≤ (qm_u (qm_u M 14 2 ((M 14 2) - 1)) 14 3 (((qm_u M 14 2 ((M 14 2) - 1)) 14 3) + 1)) 14 2 ∧ (qm_u (qm_u M 14 2 ((M 14 2) - 1)) 14 3 (((qm_u M 14 2 ((M 14 2) - 1)) 14 3) + 1)) 14 2 ≤ 12) ∧
    (0 ≤ ((Int.tmod ((qm_u (qm_u M 14 2 ((M 14 2) - 1)) 14 3 (((qm_u M 14 2 ((M 14 2) - 1)) 14 3) + 1)) 14 1 + (qm_u (qm_u M 14 2 ((M 14 2) - 1)) 14 3 (((qm_u M 14 2 ((M 14 2) - 1)) 14 3) + 1)) 14 2) 13) * 128) ∧ ((Int.tmod ((qm_u (qm_u M 14 2 ((M 14 2) - 1)) 14 3 (((qm_u M 14 2 ((M 14 2) - 1)) 14 3) + 1)) 14 1 + (qm_u (qm_u M 14 2 ((M 14 2) - 1)) 14 3 (((qm_u M 14 2 ((M 14 2) - 1)) 14 3) + 1)) 14 2) 13) * 128) + 128 ≤ (1664 : Int)) ∧
    (16 ≠ 6 ∧ 16 ≠ 8) ∧
    ((qm_u (qm_u M 14 2 ((M 14 2) - 1)) 14 3 (((qm_u M 14 2 ((M 14 2) - 1)) 14 3) + 1)) 4 2 = (n : Int)) ∧
    (qInv n w p) ∧
    (∀ s a k, s < 2 → a < n → k < n → (qm_u (qm_u M 14 2 ((M 14 2) - 1)) 14 3 (((qm_u M 14 2 ((M 14 2) - 1)) 14 3) + 1)) 16 (Int.toNat ((Int.tmod ((qm_u (qm_u M 14 2 ((M 14 2) - 1)) 14 3 (((qm_u M 14 2 ((M 14 2) - 1)) 14 3) + 1)) 14 1 + (qm_u (qm_u M 14 2 ((M 14 2) - 1)) 14 3 (((qm_u M 14 2 ((M 14 2) - 1)) 14 3) + 1)) 14 2) 13) * 128) + ix s a k) = (w (ix s a k) : Int)) ∧
    (∀ (M2 : qm_M), (qLR M2 4 n w p ∧ ∀ c b : Nat, c ≠ 6 → c ≠ 8 → M2 c b = (qm_u (qm_u M 14 2 ((M 14 2) - 1)) 14 3 (((qm_u M 14 2 ((M 14 2) - 1)) 14 3) + 1)) c b) →
     K (.inl 0) (qL T) M2)) : qm_Runs qm_P (d + 4) 12 [(.inr (some 14)), (.inr (some 4))] (qL T) M K :=
  And.intro (Nat.le_of_ble_eq_true rfl) (show qm_TT qi_12 (qm_Runs qm_P (d + 3)) K 0 [some (.inr (some 14)), some (.inr (some 4))] [] (qL T) M 0 0 from qm_wp_TT [] 22 (And.intro (lf_14_2 T) (And.intro h.1 (And.intro (lf_14_2 T) (And.intro (lf_14_3 T) (And.intro h.2.1 (And.intro (lf_14_3 T) (Exists.intro 15 (And.intro (lf_14_0 T) (And.intro (lo_14 T) (s_Hist_start (d := d + 2)  (h.2.2.1) (And.intro (lo_4 T) (s_Lists_loadFrom (d := d + 0) (lLs_4 T) (lRow_15 T) (h.2.2.2.1) (h.2.2.2.2.1) (h.2.2.2.2.2.1) (h.2.2.2.2.2.2.1) (h.2.2.2.2.2.2.2.1) (fun M2 p3 => (h.2.2.2.2.2.2.2.2 M2 p3)))))))))))))))
theorem s_Hist_stepBack {T : qm_L} {n b f : Nat} {H : Nat → Nat → Nat} {d : Nat} {K : qm_K} {M : qm_M}  (hp0 : qY M n H b f) (hp1 : 0 < b) (hp2 : M 4 2 = (n : Int)) (hK : ∀ (M2 : qm_M), ((∃ p, qLR M2 4 n (H (b - 1)) p) ∧ qY M2 n H (b - 1) (f + 1) ∧ (∀ c, c ≠ 14 → c ≠ 6 → c ≠ 8 → M2 c = M c)) → K (.inl 0) (qL T) M2) : qm_Runs qm_P (d + 4) 12 [(.inr (some 14)), (.inr (some 4))] (qL T) M K := by
  obtain ⟨ol, hol, e1, e2, e3, hbf, hH⟩ := hp0
  obtain ⟨⟨p, hI⟩, hc⟩ := hH (b - 1) (by omega)
  refine en_Hist_stepBack (n := n) (w := H (b - 1)) (p := p) ?_
  have r1 : qm_R (M 14 2 - 1) := by unfold qm_R; omega
  have r2 : qm_R ((qm_u M 14 2 (M 14 2 - 1)) 14 3 + 1) := by rw [qu_k (by decide), e3]; unfold qm_R; omega
  have a1 : (qm_u (qm_u M 14 2 (M 14 2 - 1)) 14 3 ((qm_u M 14 2 (M 14 2 - 1)) 14 3 + 1)) 14 1 = (ol : Int) := by rw [qu_k (by decide), qu_k (by decide), e1]
  have a2 : (qm_u (qm_u M 14 2 (M 14 2 - 1)) 14 3 ((qm_u M 14 2 (M 14 2 - 1)) 14 3 + 1)) 14 2 = ((b - 1 : Nat) : Int) := by rw [qu_k (by decide), qu_s, e2]; omega
  have a3 : (qm_u (qm_u M 14 2 (M 14 2 - 1)) 14 3 ((qm_u M 14 2 (M 14 2 - 1)) 14 3 + 1)) 14 3 = ((f + 1 : Nat) : Int) := by rw [qu_s, qu_k (by decide), e3]; omega
  have hcm : ∀ c, c ≠ 14 → (qm_u (qm_u M 14 2 (M 14 2 - 1)) 14 3 ((qm_u M 14 2 (M 14 2 - 1)) 14 3 + 1)) c = M c := fun c hc => by rw [qu_cf hc, qu_cf hc]
  refine And.intro r1 (And.intro r2 ?_)
  generalize (qm_u (qm_u M 14 2 (M 14 2 - 1)) 14 3 ((qm_u M 14 2 (M 14 2 - 1)) 14 3 + 1)) = M1 at *
  rw [a1, a2, show Int.tmod ((ol : Int) + ((b - 1 : Nat) : Int)) 13 = (((ol + (b - 1)) % 13 : Nat) : Int) from tm13 _]
  refine And.intro (by omega) (And.intro (by omega) (And.intro (by decide) (And.intro (by rw [hcm 4 (by decide)]; exact hp2) (And.intro hI (And.intro (fun s a k hs ha hk => ?_) (fun M2 hM2 => hK M2 ⟨⟨p, hM2.1⟩, ⟨ol, hol, ?_, ?_, ?_, by omega, fun i hi => ⟨(hH i (by omega)).1, fun s a k hs ha hk => ?_⟩⟩, fun c h1 h2 h3 => ?_⟩))))))
  · rw [hcm 16 (by decide), show Int.toNat ((((ol + (b - 1)) % 13 : Nat) : Int) * 128) = (ol + (b - 1)) % 13 * 128 by omega]
    exact hc s a k hs ha hk
  · rw [hM2.2 14 _ (by decide) (by decide)]; exact a1
  · rw [hM2.2 14 _ (by decide) (by decide)]; exact a2
  · rw [hM2.2 14 _ (by decide) (by decide)]; exact a3
  · rw [hM2.2 16 _ (by decide) (by decide), hcm 16 (by decide)]
    exact (hH i (by omega)).2 s a k hs ha hk
  · rw [← hcm c h1]
    funext x
    exact hM2.2 c x h2 h3
theorem en_Hist_stepOn {T : qm_L} {n : Nat} {w p : Nat → Nat} {d : Nat} {K : qm_K} {M : qm_M}  (h :
    qm_R ((M 14 2) + 1) ∧
    qm_R (((qm_u M 14 2 ((M 14 2) + 1)) 14 3) - 1) ∧
    (0 ≤ (qm_u (qm_u M 14 2 ((M 14 2) + 1)) 14 3 (((qm_u M 14 2 ((M 14 2) + 1)) 14 3) - 1)) 14 1 ∧ (qm_u (qm_u M 14 2 ((M 14 2) + 1)) 14 3 (((qm_u M 14 2 ((M 14 2) + 1)) 14 3) - 1)) 14 1 ≤ 12 ∧ 0 ≤ (qm_u (qm_u M 14 2 ((M 14 2) + 1)) 14 3 (((qm_u M 14 2 ((M 14 2) + 1)) 14 3) - 1)) 14 2 ∧ (qm_u (qm_u M 14 2 ((M 14 2) + 1)) 14 3 (((qm_u M 14 2 ((M 14 2) + 1)) 14 3) - 1)) 14 2 ≤ 12) ∧
    (0 ≤ ((Int.tmod ((qm_u (qm_u M 14 2 ((M 14 2) + 1)) 14 3 (((qm_u M 14 2 ((M 14 2) + 1)) 14 3) - 1)) 14 1 + (qm_u (qm_u M 14 2 ((M 14 2) + 1)) 14 3 (((qm_u M 14 2 ((M 14 2) + 1)) 14 3) - 1)) 14 2) 13) * 128) ∧ ((Int.tmod ((qm_u (qm_u M 14 2 ((M 14 2) + 1)) 14 3 (((qm_u M 14 2 ((M 14 2) + 1)) 14 3) - 1)) 14 1 + (qm_u (qm_u M 14 2 ((M 14 2) + 1)) 14 3 (((qm_u M 14 2 ((M 14 2) + 1)) 14 3) - 1)) 14 2) 13) * 128) + 128 ≤ (1664 : Int)) ∧
    (16 ≠ 6 ∧ 16 ≠ 8) ∧
    ((qm_u (qm_u M 14 2 ((M 14 2) + 1)) 14 3 (((qm_u M 14 2 ((M 14 2) + 1)) 14 3) - 1)) 4 2 = (n : Int)) ∧
    (qInv n w p) ∧
    (∀ s a k, s < 2 → a < n → k < n → (qm_u (qm_u M 14 2 ((M 14 2) + 1)) 14 3 (((qm_u M 14 2 ((M 14 2) + 1)) 14 3) - 1)) 16 (Int.toNat ((Int.tmod ((qm_u (qm_u M 14 2 ((M 14 2) + 1)) 14 3 (((qm_u M 14 2 ((M 14 2) + 1)) 14 3) - 1)) 14 1 + (qm_u (qm_u M 14 2 ((M 14 2) + 1)) 14 3 (((qm_u M 14 2 ((M 14 2) + 1)) 14 3) - 1)) 14 2) 13) * 128) + ix s a k) = (w (ix s a k) : Int)) ∧
    (∀ (M2 : qm_M), (qLR M2 4 n w p ∧ ∀ c b : Nat, c ≠ 6 → c ≠ 8 → M2 c b = (qm_u (qm_u M 14 2 ((M 14 2) + 1)) 14 3 (((qm_u M 14 2 ((M 14 2) + 1)) 14 3) - 1)) c b) →
     K (.inl 0) (qL T) M2)) : qm_Runs qm_P (d + 4) 13 [(.inr (some 14)), (.inr (some 4))] (qL T) M K :=
  And.intro (Nat.le_of_ble_eq_true rfl) (show qm_TT qi_13 (qm_Runs qm_P (d + 3)) K 0 [some (.inr (some 14)), some (.inr (some 4))] [] (qL T) M 0 0 from qm_wp_TT [] 22 (And.intro (lf_14_2 T) (And.intro h.1 (And.intro (lf_14_2 T) (And.intro (lf_14_3 T) (And.intro h.2.1 (And.intro (lf_14_3 T) (Exists.intro 15 (And.intro (lf_14_0 T) (And.intro (lo_14 T) (s_Hist_start (d := d + 2)  (h.2.2.1) (And.intro (lo_4 T) (s_Lists_loadFrom (d := d + 0) (lLs_4 T) (lRow_15 T) (h.2.2.2.1) (h.2.2.2.2.1) (h.2.2.2.2.2.1) (h.2.2.2.2.2.2.1) (h.2.2.2.2.2.2.2.1) (fun M2 p3 => (h.2.2.2.2.2.2.2.2 M2 p3)))))))))))))))
theorem s_Hist_stepOn {T : qm_L} {n b f : Nat} {H : Nat → Nat → Nat} {d : Nat} {K : qm_K} {M : qm_M}  (hp0 : qY M n H b f) (hp1 : 0 < f) (hp2 : M 4 2 = (n : Int)) (hK : ∀ (M2 : qm_M), ((∃ p, qLR M2 4 n (H (b + 1)) p) ∧ qY M2 n H (b + 1) (f - 1) ∧ (∀ c, c ≠ 14 → c ≠ 6 → c ≠ 8 → M2 c = M c)) → K (.inl 0) (qL T) M2) : qm_Runs qm_P (d + 4) 13 [(.inr (some 14)), (.inr (some 4))] (qL T) M K := by
  obtain ⟨ol, hol, e1, e2, e3, hbf, hH⟩ := hp0
  obtain ⟨⟨p, hI⟩, hc⟩ := hH (b + 1) (by omega)
  refine en_Hist_stepOn (n := n) (w := H (b + 1)) (p := p) ?_
  have r1 : qm_R (M 14 2 + 1) := by unfold qm_R; omega
  have r2 : qm_R ((qm_u M 14 2 (M 14 2 + 1)) 14 3 - 1) := by rw [qu_k (by decide), e3]; unfold qm_R; omega
  have a1 : (qm_u (qm_u M 14 2 (M 14 2 + 1)) 14 3 ((qm_u M 14 2 (M 14 2 + 1)) 14 3 - 1)) 14 1 = (ol : Int) := by rw [qu_k (by decide), qu_k (by decide), e1]
  have a2 : (qm_u (qm_u M 14 2 (M 14 2 + 1)) 14 3 ((qm_u M 14 2 (M 14 2 + 1)) 14 3 - 1)) 14 2 = ((b + 1 : Nat) : Int) := by rw [qu_k (by decide), qu_s, e2]; omega
  have a3 : (qm_u (qm_u M 14 2 (M 14 2 + 1)) 14 3 ((qm_u M 14 2 (M 14 2 + 1)) 14 3 - 1)) 14 3 = ((f - 1 : Nat) : Int) := by rw [qu_s, qu_k (by decide), e3]; omega
  have hcm : ∀ c, c ≠ 14 → (qm_u (qm_u M 14 2 (M 14 2 + 1)) 14 3 ((qm_u M 14 2 (M 14 2 + 1)) 14 3 - 1)) c = M c := fun c hc => by rw [qu_cf hc, qu_cf hc]
  refine And.intro r1 (And.intro r2 ?_)
  generalize (qm_u (qm_u M 14 2 (M 14 2 + 1)) 14 3 ((qm_u M 14 2 (M 14 2 + 1)) 14 3 - 1)) = M1 at *
  rw [a1, a2, show Int.tmod ((ol : Int) + ((b + 1 : Nat) : Int)) 13 = (((ol + (b + 1)) % 13 : Nat) : Int) from tm13 _]
  refine And.intro (by omega) (And.intro (by omega) (And.intro (by decide) (And.intro (by rw [hcm 4 (by decide)]; exact hp2) (And.intro hI (And.intro (fun s a k hs ha hk => ?_) (fun M2 hM2 => hK M2 ⟨⟨p, hM2.1⟩, ⟨ol, hol, ?_, ?_, ?_, by omega, fun i hi => ⟨(hH i (by omega)).1, fun s a k hs ha hk => ?_⟩⟩, fun c h1 h2 h3 => ?_⟩))))))
  · rw [hcm 16 (by decide), show Int.toNat ((((ol + (b + 1)) % 13 : Nat) : Int) * 128) = (ol + (b + 1)) % 13 * 128 by omega]
    exact hc s a k hs ha hk
  · rw [hM2.2 14 _ (by decide) (by decide)]; exact a1
  · rw [hM2.2 14 _ (by decide) (by decide)]; exact a2
  · rw [hM2.2 14 _ (by decide) (by decide)]; exact a3
  · rw [hM2.2 16 _ (by decide) (by decide), hcm 16 (by decide)]
    exact (hH i (by omega)).2 s a k hs ha hk
  · rw [← hcm c h1]
    funext x
    exact hM2.2 c x h2 h3
