/-! a line of the text -/
def lnBad (n : Nat) (B : Nat → Nat) (o : Nat) : Prop := (o = 0 ∧ B 0 ≠ 108 ∧ B 0 ≠ 114) ∨ (o = 1 ∧ ¬ dgt n (B 1)) ∨ (o = 2 ∧ B 2 ≠ 58) ∨ (3 ≤ o ∧ (¬ dgt n (B o) ∨ ∃ j, 3 ≤ j ∧ j < o ∧ B j = B o))
noncomputable def lnF (n : Nat) (B : Nat → Nat) : Nat := lst (lnBad n B) (n + 3)
def sd (B : Nat → Nat) : Nat := if B 0 = 114 then 1 else 0
def lnC (B : Nat → Nat) (M0 : qm_M) (k y : Nat) : Int := if y / 8 = 8 * sd B + (B 1 - 48) ∧ y % 8 < k then ((B (3 + y % 8) - 48 : Nat) : Int) else M0 75 y
def btA (ln : Nat) (tp : Nat → Nat) (a : Nat) : Nat → Nat := fun j => bt ln tp (a + j)
def stg (M : qm_M) (n : Nat) (B : Nat → Nat) (a j : Nat) : Prop := (M 71 16 = -1 ∧ M 71 15 = ((a + j : Nat) : Int) ∧ ∀ o, o < j → ¬ lnBad n B o) ∨ ∃ o, o < j ∧ lnBad n B o ∧ (∀ i, i < o → ¬ lnBad n B i) ∧ M 71 16 = ((a + o : Nat) : Int) ∧ M 71 15 = ((a + o : Nat) : Int)
theorem stg_step {M M2 : qm_M} {n a j : Nat} {B : Nat → Nat} {C : Prop} (h : stg M n B a j) (hc : M 71 16 = -1 → M 71 15 = ((a + j : Nat) : Int) → (∀ o, o < j → ¬ lnBad n B o) → (C ↔ ¬ lnBad n B j)) (h1 : M 71 16 < 0 ∧ C → M2 71 15 = M 71 15 + 1 ∧ M2 71 16 = M 71 16) (h2 : ¬ (M 71 16 < 0 ∧ C) → M2 71 15 = M 71 15 ∧ M2 71 16 = fq (M 71 16) (M 71 15)) : stg M2 n B a (j + 1) := by
  rcases h with ⟨a1, a2, a3⟩ | ⟨o, b1, b2, b3, b4, b5⟩
  · have hc := hc a1 a2 a3
    by_cases q : C
    · have g := h1 ⟨by omega, q⟩
      refine Or.inl ⟨by omega, by omega, fun o ho => ?_⟩
      by_cases hoj : o = j
      · rw [hoj]; exact hc.mp q
      · exact a3 o (by omega)
    · have g := h2 (fun z => q z.2)
      unfold fq at g
      rw [if_pos (by omega)] at g
      exact Or.inr ⟨j, by omega, Classical.not_not.mp (fun z => q (hc.mpr z)), a3, by omega, by omega⟩
  · have g := h2 (fun z => by omega)
    unfold fq at g
    rw [if_neg (by omega)] at g
    exact Or.inr ⟨o, by omega, b2, b3, by omega, by omega⟩
theorem psP_step {M M2 : qm_M} {n ln : Nat} {tp : Nat → Nat} {C : Prop} (hp : psP M n ln tp) (hF : psF M2 M) (hpos : C → 0 < bt ln tp (Int.toNat (M 71 15))) (h1 : M 71 16 < 0 ∧ C → M2 71 15 = M 71 15 + 1 ∧ M2 71 16 = M 71 16) (h2 : ¬ (M 71 16 < 0 ∧ C) → M2 71 15 = M 71 15 ∧ M2 71 16 = fq (M 71 16) (M 71 15)) : psP M2 n ln tp := by
  have h0 := hp.2.2.2.2.2.2
  by_cases q : M 71 16 < 0 ∧ C
  · have := bt_lt hp (hpos q.2)
    have := h1 q
    exact psP_F hp hF (by omega)
  · have := h2 q
    exact psP_F hp hF (by omega)
def LF (M2 M : qm_M) : Prop := ∀ c y, c ≠ 75 → c ≠ 71 ∨ (y ≠ 15 ∧ y ≠ 16) → M2 c y = M c y
def lnPost (M2 M0 : qm_M) (n ln : Nat) (tp : Nat → Nat) (a : Nat) : Prop := psP M2 n ln tp ∧ LF M2 M0 ∧ (lnF n (btA ln tp a) = n + 3 → M2 71 16 = -1 ∧ M2 71 15 = ((a + (n + 3) : Nat) : Int) ∧ ∀ y, M2 75 y = lnC (btA ln tp a) M0 n y) ∧ (lnF n (btA ln tp a) < n + 3 → M2 71 16 = ((a + lnF n (btA ln tp a) : Nat) : Int))
def at_R_line_60  (d : Nat) (K : qm_K) (M : qm_M) (x1 x2 x3 x4 : Int) : Prop := ∀ (d5 : Option qm_V), qm_TT qi_156 (qm_Runs qm_P (d + 3)) K 60 [some (.inr (some 71)), some (.inl x1), some (.inl x2), some (.inl x3), some (.inl x4), d5] [] (qL qLM) M 0 0
theorem rg_R_line_60  {n ln : Nat} {tp : Nat → Nat} {d : Nat} {K : qm_K} {M : qm_M} {x1 x2 x3 x4 : Int} (h :
    ((M 71 0) ≤ x4 →
     K (.inl 0) (qL qLM) M) ∧
    (¬ (M 71 0) ≤ x4 →
     (0 ≤ (M 71 16) →
      K (.inl 0) (qL qLM) M) ∧
     (¬ 0 ≤ (M 71 16) →
      (psP M n ln tp) ∧
      (0 ≤ (x3 : Int) ∧ (x3 : Int) < 1024) ∧
      (∀ (r12 : Int) (M13 : qm_M), (((M 71 16 < 0 ∧ dgt n (bt ln tp (Int.toNat (M 71 15))) ∧ ¬ bS (Int.toNat x3) (bt ln tp (Int.toNat (M 71 15)) - 48)) → r12 = ((bt ln tp (Int.toNat (M 71 15)) - 48 : Nat) : Int) ∧ M13 71 15 = M 71 15 + 1 ∧ M13 71 16 = M 71 16) ∧ (¬ (M 71 16 < 0 ∧ dgt n (bt ln tp (Int.toNat (M 71 15))) ∧ ¬ bS (Int.toNat x3) (bt ln tp (Int.toNat (M 71 15)) - 48)) → r12 = 0 ∧ M13 71 15 = M 71 15 ∧ M13 71 16 = fq (M 71 16) (M 71 15)) ∧ psF M13 M) →
       (0 ≤ (x1 : Int) ∧ (x1 : Int) ≤ 1 ∧ 0 ≤ (x2 : Int) ∧ (x2 : Int) ≤ 8 ∧ 0 ≤ (x4 : Int) ∧ (x4 : Int) ≤ 8) ∧
       ∀ (y14 : Int), y14 = (64 * x1 + 8 * x2 + x4) →
       0 ≤ y14 ∧ y14 < 128 ∧
       ∀ (M15 : qm_M), M15 = (qm_u M13 75 (Int.toNat y14) r12) →
       qm_R (x4 + 1) ∧
       at_R_line_60  d K M15 x1 x2 ((qm_or x3 (qm_shl 1 r12))) ((x4 + 1)))))) : at_R_line_60  d K M x1 x2 x3 x4 :=
  fun d5 => qm_wp_TT [60] 34 (And.intro (lf_71_0 ()) (And.intro (fun q16 => (h.1 q16)) (fun q17 => And.intro (lf_71_16 ()) (And.intro (fun q18 => ((h.2 q17).1 q18)) (fun q19 => And.intro (lo_71 ()) (s_R_figure (d := d + 0)  (((h.2 q17).2 q19).1) (((h.2 q17).2 q19).2.1) (fun r12 M13 p20 => Exists.intro 75 (And.intro (lf_71_5 ()) (And.intro True.intro (s_R_at (d := d + 2)  ((((h.2 q17).2 q19).2.2 r12 M13 p20).1) (Exists.intro 128 (And.intro (la_75 ()) (And.intro ((((h.2 q17).2 q19).2.2 r12 M13 p20).2 _ rfl).1 (And.intro ((((h.2 q17).2 q19).2.2 r12 M13 p20).2 _ rfl).2.1 (And.intro (((((h.2 q17).2 q19).2.2 r12 M13 p20).2 _ rfl).2.2 _ rfl).1 ((((((h.2 q17).2 q19).2.2 r12 M13 p20).2 _ rfl).2.2 _ rfl).2 _))))))))))))))))
theorem en_R_line  {n ln : Nat} {tp : Nat → Nat} {d : Nat} {K : qm_K} {M : qm_M}  (h :
    (psP M n ln tp) ∧
    (32 ≤ ((114 : Int) : Int)) ∧
    ((M 71 16 < 0 ∧ (114 : Int) ≤ (bt ln tp (Int.toNat (M 71 15)) : Int) ∧ (bt ln tp (Int.toNat (M 71 15)) : Int) ≤ 114) →
     qm_R ((M 71 15) + 1) ∧
     ∀ (M1 : qm_M), M1 = (qm_u M 71 15 ((M 71 15) + 1)) →
     (psP M1 n ln tp) ∧
     (0 ≤ ((0 : Int) : Int) ∧ ((0 : Int) : Int) < 1024) ∧
     (∀ (r2 : Int) (M3 : qm_M), (((M1 71 16 < 0 ∧ dgt n (bt ln tp (Int.toNat (M1 71 15))) ∧ ¬ bS (Int.toNat 0) (bt ln tp (Int.toNat (M1 71 15)) - 48)) → r2 = ((bt ln tp (Int.toNat (M1 71 15)) - 48 : Nat) : Int) ∧ M3 71 15 = M1 71 15 + 1 ∧ M3 71 16 = M1 71 16) ∧ (¬ (M1 71 16 < 0 ∧ dgt n (bt ln tp (Int.toNat (M1 71 15))) ∧ ¬ bS (Int.toNat 0) (bt ln tp (Int.toNat (M1 71 15)) - 48)) → r2 = 0 ∧ M3 71 15 = M1 71 15 ∧ M3 71 16 = fq (M1 71 16) (M1 71 15)) ∧ psF M3 M1) →
      (psP M3 n ln tp) ∧
      (32 ≤ ((58 : Int) : Int)) ∧
      (∀ (r4 : Int) (M5 : qm_M), ((M3 71 16 < 0 ∧ (bt ln tp (Int.toNat (M3 71 15)) : Int) = 58 → r4 = 1 ∧ M5 71 15 = M3 71 15 + 1 ∧ M5 71 16 = M3 71 16) ∧ (¬ (M3 71 16 < 0 ∧ (bt ln tp (Int.toNat (M3 71 15)) : Int) = 58) → r4 = 0 ∧ M5 71 15 = M3 71 15 ∧ M5 71 16 = fq (M3 71 16) (M3 71 15)) ∧ psF M5 M3) →
       at_R_line_60  d K M5 1 r2 0 0))) ∧
    (¬ (M 71 16 < 0 ∧ (114 : Int) ≤ (bt ln tp (Int.toNat (M 71 15)) : Int) ∧ (bt ln tp (Int.toNat (M 71 15)) : Int) ≤ 114) →
     (psP M n ln tp) ∧
     (32 ≤ ((108 : Int) : Int)) ∧
     (∀ (r6 : Int) (M7 : qm_M), ((M 71 16 < 0 ∧ (bt ln tp (Int.toNat (M 71 15)) : Int) = 108 → r6 = 1 ∧ M7 71 15 = M 71 15 + 1 ∧ M7 71 16 = M 71 16) ∧ (¬ (M 71 16 < 0 ∧ (bt ln tp (Int.toNat (M 71 15)) : Int) = 108) → r6 = 0 ∧ M7 71 15 = M 71 15 ∧ M7 71 16 = fq (M 71 16) (M 71 15)) ∧ psF M7 M) →
      (psP M7 n ln tp) ∧
      (0 ≤ ((0 : Int) : Int) ∧ ((0 : Int) : Int) < 1024) ∧
      (∀ (r8 : Int) (M9 : qm_M), (((M7 71 16 < 0 ∧ dgt n (bt ln tp (Int.toNat (M7 71 15))) ∧ ¬ bS (Int.toNat 0) (bt ln tp (Int.toNat (M7 71 15)) - 48)) → r8 = ((bt ln tp (Int.toNat (M7 71 15)) - 48 : Nat) : Int) ∧ M9 71 15 = M7 71 15 + 1 ∧ M9 71 16 = M7 71 16) ∧ (¬ (M7 71 16 < 0 ∧ dgt n (bt ln tp (Int.toNat (M7 71 15))) ∧ ¬ bS (Int.toNat 0) (bt ln tp (Int.toNat (M7 71 15)) - 48)) → r8 = 0 ∧ M9 71 15 = M7 71 15 ∧ M9 71 16 = fq (M7 71 16) (M7 71 15)) ∧ psF M9 M7) →
       (psP M9 n ln tp) ∧
       (32 ≤ ((58 : Int) : Int)) ∧
       (∀ (r10 : Int) (M11 : qm_M), ((M9 71 16 < 0 ∧ (bt ln tp (Int.toNat (M9 71 15)) : Int) = 58 → r10 = 1 ∧ M11 71 15 = M9 71 15 + 1 ∧ M11 71 16 = M9 71 16) ∧ (¬ (M9 71 16 < 0 ∧ (bt ln tp (Int.toNat (M9 71 15)) : Int) = 58) → r10 = 0 ∧ M11 71 15 = M9 71 15 ∧ M11 71 16 = fq (M9 71 16) (M9 71 15)) ∧ psF M11 M9) →
        at_R_line_60  d K M11 0 r8 0 0))))) : qm_Runs qm_P (d + 4) 156 [(.inr (some 71))] (qL qLM) M K :=
  And.intro (Nat.le_of_ble_eq_true rfl) (show qm_TT qi_156 (qm_Runs qm_P (d + 3)) K 0 [some (.inr (some 71)), none, none, none, none, none] [] (qL qLM) M 0 0 from qm_wp_TT [60] 34 (And.intro (lo_71 ()) (s_R_sees (d := d + 1)  (h.1) (h.2.1) (And.intro (fun q21 => And.intro (fun _ => And.intro (lo_71 ()) (s_R_takes (d := d + 0)  ((h.2.2.2 (qm_b0 q21)).1) ((h.2.2.2 (qm_b0 q21)).2.1) (fun r6 M7 p23 => And.intro (lo_71 ()) (s_R_figure (d := d + 0)  (((h.2.2.2 (qm_b0 q21)).2.2 r6 M7 p23).1) (((h.2.2.2 (qm_b0 q21)).2.2 r6 M7 p23).2.1) (fun r8 M9 p24 => And.intro (lo_71 ()) (s_R_takes (d := d + 0)  ((((h.2.2.2 (qm_b0 q21)).2.2 r6 M7 p23).2.2 r8 M9 p24).1) ((((h.2.2.2 (qm_b0 q21)).2.2 r6 M7 p23).2.2 r8 M9 p24).2.1) (fun r10 M11 p25 => ((((h.2.2.2 (qm_b0 q21)).2.2 r6 M7 p23).2.2 r8 M9 p24).2.2 r10 M11 p25) _))))))) (fun q => absurd (show ((0 : Int) ≠ 1 : Prop) by decide) q)) (fun q22 => And.intro (fun q => absurd q (show ¬ ((1 : Int) ≠ 1 : Prop) by decide)) (fun _ => And.intro (lf_71_15 ()) (And.intro (h.2.2.1 (qm_b1 q22)).1 (And.intro (lf_71_15 ()) (And.intro (lo_71 ()) (s_R_figure (d := d + 0)  (((h.2.2.1 (qm_b1 q22)).2 _ rfl).1) (((h.2.2.1 (qm_b1 q22)).2 _ rfl).2.1) (fun r2 M3 p26 => And.intro (lo_71 ()) (s_R_takes (d := d + 0)  ((((h.2.2.1 (qm_b1 q22)).2 _ rfl).2.2 r2 M3 p26).1) ((((h.2.2.1 (qm_b1 q22)).2 _ rfl).2.2 r2 M3 p26).2.1) (fun r4 M5 p27 => ((((h.2.2.1 (qm_b1 q22)).2 _ rfl).2.2 r2 M3 p26).2.2 r4 M5 p27) _)))))))))))))
theorem lp_R_line {d : Nat} {K : qm_K} {M0 : qm_M} {n ln a : Nat} {tp : Nat → Nat} (h8 : 1 ≤ n ∧ n ≤ 8) (hK : ∀ M2 : qm_M, lnPost M2 M0 n ln tp a → K (.inl 0) (qL qLM) M2) : ∀ (j k : Nat) (M : qm_M) (x2 x3 : Int), k + j = n → psP M n ln tp → LF M M0 → stg M n (btA ln tp a) a (3 + k) → 0 ≤ x2 ∧ x2 < 8 → (M 71 16 = -1 → x2 = ((btA ln tp a 1 - 48 : Nat) : Int) ∧ x3 = (bits (fun x => ∃ i, i < k ∧ btA ln tp a (3 + i) - 48 = x) 8 : Int) ∧ ∀ y, M 75 y = lnC (btA ln tp a) M0 k y) → at_R_line_60 d K M (sd (btA ln tp a) : Int) x2 x3 (k : Int)
  | j, k, M, x2, x3, hk, hp, hF, hS, hx2, hG => fun d5 => by
    have fin : (k = n ∨ 0 ≤ M 71 16) → K (.inl 0) (qL qLM) M := fun he => hK M ⟨hp, hF, fun hl => by
        rcases hS with ⟨a1, a2, a3⟩ | ⟨o, b1, b2, b3, b4, b5⟩
        · have hkn : k = n := by omega
          subst hkn
          exact ⟨a1, by rw [a2, Nat.add_comm 3 k], (hG a1).2.2⟩
        · have := lst_eq (N := n + 3) (show o < n + 3 by omega) b2 b3
          unfold lnF at hl
          omega, fun hl => by
        rcases hS with ⟨a1, a2, a3⟩ | ⟨o, b1, b2, b3, b4, b5⟩
        · have hkn : k = n := by omega
          subst hkn
          exact absurd (lst_P hl) (a3 _ (by unfold lnF at hl; omega))
        · have : lnF n (btA ln tp a) = o := lst_eq (N := n + 3) (show o < n + 3 by omega) b2 b3
          rw [this]; exact b4⟩
    have sd1 : sd (btA ln tp a) < 2 := by unfold sd; split <;> omega
    refine rg_R_line_60 (n := n) (ln := ln) (tp := tp) (And.intro (fun h => fin (Or.inl (by rw [hp.1] at h; omega))) (fun h => And.intro (fun h2 => fin (Or.inr h2)) (fun h2 => ?_))) d5
    rw [hp.1] at h
    have hkn : k < n := by omega
    obtain ⟨a1, a2, a3⟩ : M 71 16 = -1 ∧ M 71 15 = ((a + (3 + k) : Nat) : Int) ∧ ∀ o, o < 3 + k → ¬ lnBad n (btA ln tp a) o := by
      rcases hS with q | ⟨o, b1, b2, b3, b4, b5⟩
      · exact q
      · omega
    obtain ⟨g1, g2, g3⟩ := hG a1
    have hB : bt ln tp (Int.toNat (M 71 15)) = btA ln tp a (3 + k) := by rw [a2, Int.toNat_natCast]; rfl
    have hb256 : bits (fun x => ∃ i, i < k ∧ btA ln tp a (3 + i) - 48 = x) 8 < 256 := bits_lt _ 8
    have dg : ∀ i, i < k → dgt n (btA ln tp a (3 + i)) := fun i hi => Classical.byContradiction fun q => a3 (3 + i) (by omega) (Or.inr (Or.inr (Or.inr ⟨by omega, Or.inl q⟩)))
    have hCC : (dgt n (btA ln tp a (3 + k)) ∧ ¬ bS (Int.toNat x3) (btA ln tp a (3 + k) - 48)) ↔ ¬ lnBad n (btA ln tp a) (3 + k) := by
      rw [g2, Int.toNat_natCast]
      unfold bS
      rw [bits_test]
      constructor
      · rintro ⟨c1, c2⟩ (q | q | q | q)
        · omega
        · omega
        · omega
        · rcases q.2 with q | ⟨i, i1, i2, i3⟩
          · exact q c1
          · refine c2 ⟨by unfold dgt at c1; omega, i - 3, by omega, ?_⟩
            rw [show 3 + (i - 3) = i by omega, i3]
      · intro q
        have c1 : dgt n (btA ln tp a (3 + k)) := Classical.byContradiction fun z => q (Or.inr (Or.inr (Or.inr ⟨by omega, Or.inl z⟩)))
        refine ⟨c1, fun z => q (Or.inr (Or.inr (Or.inr ⟨by omega, Or.inr ?_⟩)))⟩
        obtain ⟨_, i, hi, e⟩ := z
        have := dg i hi
        unfold dgt at this c1
        exact ⟨3 + i, by omega, by omega, by omega⟩
    refine And.intro hp (And.intro (by omega) ?_)
    intro r12 M13 q
    obtain ⟨t1, t2, t3⟩ := q
    have hS13 : stg M13 n (btA ln tp a) a (3 + (k + 1)) := stg_step (C := dgt n (bt ln tp (Int.toNat (M 71 15))) ∧ ¬ bS (Int.toNat x3) (bt ln tp (Int.toNat (M 71 15)) - 48)) hS (fun _ _ _ => by rw [hB]; exact hCC) (fun z => (t1 z).2) (fun z => (t2 z).2)
    have hp13 : psP M13 n ln tp := psP_step (C := dgt n (bt ln tp (Int.toNat (M 71 15))) ∧ ¬ bS (Int.toNat x3) (bt ln tp (Int.toNat (M 71 15)) - 48)) hp t3 (fun z => by have := z.1; unfold dgt at this; omega) (fun z => (t1 z).2) (fun z => (t2 z).2)
    refine And.intro (by omega) ?_
    intro y14 e14
    refine And.intro (by omega) (And.intro (by omega) ?_)
    intro M15 e15
    have c15 : ∀ c, c ≠ 75 → M15 c = M13 c := fun c hc => by rw [e15, qu_cf hc]
    have f15 : M15 71 = M13 71 := c15 71 (by decide)
    have p15 : psP M15 n ln tp := by
      unfold psP at hp13 ⊢
      rw [f15, c15 78 (by decide)]
      exact hp13
    have s15 : stg M15 n (btA ln tp a) a (3 + (k + 1)) := by
      unfold stg at hS13 ⊢
      rw [f15]
      exact hS13
    refine And.intro (by unfold qm_R; omega) ?_
    cases j with
    | zero => omega
    | succ j =>
      refine lp_R_line h8 hK j (k + 1) M15 x2 (qm_or x3 (qm_shl 1 r12)) (by omega) p15 (fun c y q1 q2 => by rw [c15 c q1, t3 c y q2]; exact hF c y q1 q2) s15 hx2 (fun z => ?_)
      rw [f15] at z
      have hC : M 71 16 < 0 ∧ dgt n (bt ln tp (Int.toNat (M 71 15))) ∧ ¬ bS (Int.toNat x3) (bt ln tp (Int.toNat (M 71 15)) - 48) := Classical.byContradiction fun q => by
        have := (t2 q).2
        unfold fq at this
        rw [if_pos (by omega)] at this
        omega
      have e12 := (t1 hC).1
      rw [hB] at e12
      have d12 := hC.2.1
      rw [hB] at d12
      unfold dgt at d12
      refine ⟨g1, ?_, fun y => ?_⟩
      · rw [e12, g2, qb_shl1 _ (by omega), qb_or (by omega) (pow_lt31 (by omega)), bits_or (by omega)]
        congr 1
        refine bits_congr (fun u _ => ⟨fun q => q.elim (fun ⟨i, hi, e⟩ => ⟨i, by omega, e⟩) (fun e => ⟨k, by omega, e.symm⟩), fun ⟨i, hi, e⟩ => ?_⟩)
        by_cases hik : i = k
        · exact Or.inr (by rw [← e, hik])
        · exact Or.inl ⟨i, by omega, e⟩
      · have e75 : M13 75 = M 75 := funext fun y => t3 75 y (Or.inl (by decide))
        rw [e15]
        have hi14 : Int.toNat y14 = 8 * (8 * sd (btA ln tp a) + (btA ln tp a 1 - 48)) + k := by omega
        rw [hi14]
        by_cases hy : y = 8 * (8 * sd (btA ln tp a) + (btA ln tp a 1 - 48)) + k
        · rw [hy, qu_s, e12]
          unfold lnC
          rw [if_pos (by omega), show (8 * (8 * sd (btA ln tp a) + (btA ln tp a 1 - 48)) + k) % 8 = k by omega]
        · rw [qu_k hy, e75, g3 y]
          unfold lnC
          by_cases hq : y / 8 = 8 * sd (btA ln tp a) + (btA ln tp a 1 - 48) ∧ y % 8 < k
          · rw [if_pos hq, if_pos ⟨hq.1, by omega⟩]
          · rw [if_neg hq, if_neg (fun z => hq ⟨z.1, by omega⟩)]
theorem tl_R_line {d : Nat} {K : qm_K} {M0 : qm_M} {n ln a : Nat} {tp : Nat → Nat} (h8 : 1 ≤ n ∧ n ≤ 8) (hK : ∀ M2 : qm_M, lnPost M2 M0 n ln tp a → K (.inl 0) (qL qLM) M2) {M1 : qm_M} (hp : psP M1 n ln tp) (hF : psF M1 M0) (hS : stg M1 n (btA ln tp a) a 1) : psP M1 n ln tp ∧ (0 ≤ ((0 : Int) : Int) ∧ ((0 : Int) : Int) < 1024) ∧ ∀ (r2 : Int) (M3 : qm_M), (((M1 71 16 < 0 ∧ dgt n (bt ln tp (Int.toNat (M1 71 15))) ∧ ¬ bS (Int.toNat 0) (bt ln tp (Int.toNat (M1 71 15)) - 48)) → r2 = ((bt ln tp (Int.toNat (M1 71 15)) - 48 : Nat) : Int) ∧ M3 71 15 = M1 71 15 + 1 ∧ M3 71 16 = M1 71 16) ∧ (¬ (M1 71 16 < 0 ∧ dgt n (bt ln tp (Int.toNat (M1 71 15))) ∧ ¬ bS (Int.toNat 0) (bt ln tp (Int.toNat (M1 71 15)) - 48)) → r2 = 0 ∧ M3 71 15 = M1 71 15 ∧ M3 71 16 = fq (M1 71 16) (M1 71 15)) ∧ psF M3 M1) →
      (psP M3 n ln tp) ∧
      (32 ≤ ((58 : Int) : Int)) ∧
      (∀ (r4 : Int) (M5 : qm_M), ((M3 71 16 < 0 ∧ (bt ln tp (Int.toNat (M3 71 15)) : Int) = 58 → r4 = 1 ∧ M5 71 15 = M3 71 15 + 1 ∧ M5 71 16 = M3 71 16) ∧ (¬ (M3 71 16 < 0 ∧ (bt ln tp (Int.toNat (M3 71 15)) : Int) = 58) → r4 = 0 ∧ M5 71 15 = M3 71 15 ∧ M5 71 16 = fq (M3 71 16) (M3 71 15)) ∧ psF M5 M3) →
       at_R_line_60 d K M5 (sd (btA ln tp a) : Int) r2 0 0) := by
  refine ⟨hp, by decide, fun r2 M3 q => ?_⟩
  obtain ⟨t1, t2, t3⟩ := q
  have nb : ∀ x, ¬ bS (Int.toNat 0) x := fun x z => by
    have : Nat.testBit 0 x = true := z
    rw [Nat.zero_testBit] at this
    exact absurd this (by decide)
  have hS3 : stg M3 n (btA ln tp a) a 2 := stg_step (C := dgt n (bt ln tp (Int.toNat (M1 71 15))) ∧ ¬ bS (Int.toNat 0) (bt ln tp (Int.toNat (M1 71 15)) - 48)) hS (fun _ e _ => by
    rw [e, Int.toNat_natCast]
    constructor
    · rintro ⟨c1, c2⟩ (z | z | z | z)
      · omega
      · exact z.2 c1
      · omega
      · omega
    · exact fun z => ⟨Classical.byContradiction fun y => z (Or.inr (Or.inl ⟨rfl, y⟩)), nb _⟩) (fun z => (t1 z).2) (fun z => (t2 z).2)
  have hp3 : psP M3 n ln tp := psP_step (C := dgt n (bt ln tp (Int.toNat (M1 71 15))) ∧ ¬ bS (Int.toNat 0) (bt ln tp (Int.toNat (M1 71 15)) - 48)) hp t3 (fun z => by have := z.1; unfold dgt at this; omega) (fun z => (t1 z).2) (fun z => (t2 z).2)
  refine ⟨hp3, by decide, fun r4 M5 q => ?_⟩
  obtain ⟨u1, u2, u3⟩ := q
  have hS5 : stg M5 n (btA ln tp a) a (3 + 0) := stg_step (C := (bt ln tp (Int.toNat (M3 71 15)) : Int) = 58) hS3 (fun _ e _ => by
    rw [e, Int.toNat_natCast]
    constructor
    · rintro c1 (z | z | z | z)
      · omega
      · omega
      · exact z.2 (by show bt ln tp (a + 2) = 58; omega)
      · omega
    · exact fun z => Classical.byContradiction fun y => z (Or.inr (Or.inr (Or.inl ⟨rfl, fun e2 => y (by have : bt ln tp (a + 2) = 58 := e2; omega)⟩)))) (fun z => (u1 z).2) (fun z => (u2 z).2)
  have hp5 : psP M5 n ln tp := psP_step (C := (bt ln tp (Int.toNat (M3 71 15)) : Int) = 58) hp3 u3 (fun z => by omega) (fun z => (u1 z).2) (fun z => (u2 z).2)
  have hF5 : psF M5 M0 := fun c y hc => by rw [u3 c y hc, t3 c y hc, hF c y hc]
  have hr2 : 0 ≤ r2 ∧ r2 < 8 := by
    by_cases z : M1 71 16 < 0 ∧ dgt n (bt ln tp (Int.toNat (M1 71 15))) ∧ ¬ bS (Int.toNat 0) (bt ln tp (Int.toNat (M1 71 15)) - 48)
    · have := (t1 z).1
      have := z.2.1
      unfold dgt at this
      omega
    · have := (t2 z).1
      omega
  have := lp_R_line (d := d) (M0 := M0) h8 hK n 0 M5 r2 0 (by omega) hp5 (fun c y _ hc => hF5 c y hc) hS5 hr2 (fun z => ⟨?_, by rw [bits_0 (fun t _ q => by obtain ⟨i, hi, _⟩ := q; omega)]; rfl, fun y => ?_⟩)
  · exact this
  · have m3 : M3 71 16 = -1 := by
      rcases hS3 with q | ⟨o, b1, b2, b3, b4, b5⟩
      · exact q.1
      · have := u2 (fun y => by omega)
        unfold fq at this
        rw [if_neg (by omega)] at this
        omega
    have hz : M1 71 16 < 0 ∧ dgt n (bt ln tp (Int.toNat (M1 71 15))) ∧ ¬ bS (Int.toNat 0) (bt ln tp (Int.toNat (M1 71 15)) - 48) := Classical.byContradiction fun y => by
      have := (t2 y).2.2
      unfold fq at this
      have h0 := hp.2.2.2.2.2.2.1
      split at this <;> omega
    rw [(t1 hz).1]
    rcases hS with q | ⟨o, b1, b2, b3, b4, b5⟩
    · rw [q.2.1, Int.toNat_natCast]; rfl
    · omega
  · rw [hF5 75 y (Or.inl (by decide))]
    unfold lnC
    rw [if_neg (by omega)]
theorem s_R_line  {n ln : Nat} {tp : Nat → Nat} {d : Nat} {K : qm_K} {M : qm_M}  (hp0 : psP M n ln tp) (hp1 : M 71 16 = -1) (hK : ∀ (M2 : qm_M), (lnPost M2 M n ln tp (Int.toNat (M 71 15))) → K (.inl 0) (qL qLM) M2) : qm_Runs qm_P (d + 4) 156 [(.inr (some 71))] (qL qLM) M K := by
  have h8 : 1 ≤ n ∧ n ≤ 8 := ⟨hp0.2.1, hp0.2.2.1⟩
  have h0 := hp0.2.2.2.2.2.2.1
  have h120 := hp0.2.2.2.2.1
  generalize ha : Int.toNat (M 71 15) = a at hK
  have ea : M 71 15 = (a : Int) := by omega
  have hB0 : bt ln tp (Int.toNat (M 71 15)) = btA ln tp a 0 := by rw [ha]; rfl
  refine en_R_line (n := n) (ln := ln) (tp := tp) (And.intro hp0 (And.intro (by decide) (And.intro (fun h => ?_) (fun h => And.intro hp0 (And.intro (by decide) ?_)))))
  · have hl := bt_lt hp0 (by omega)
    refine And.intro (by unfold qm_R; omega) ?_
    intro M1 e1
    have hF1 : psF M1 M := fun c y hc => by
      rw [e1]
      rcases hc with hc | hc
      · rw [qu_c hc]
      · rw [qu_k hc.1]
    have f15 : M1 71 15 = M 71 15 + 1 := by rw [e1, qu_s]
    have f16 : M1 71 16 = -1 := by rw [e1, qu_k (by decide)]; exact hp1
    have hs : sd (btA ln tp a) = 1 := by unfold sd; rw [if_pos (by omega)]
    have := tl_R_line (d := d) h8 hK (M1 := M1) (psP_F hp0 hF1 (by omega)) hF1 (Or.inl ⟨f16, by omega, fun o ho z => by
      have : o = 0 := by omega
      subst this
      rcases z with z | z | z | z <;> omega⟩)
    rw [hs] at this
    exact this
  · intro r6 M7 q
    obtain ⟨t1, t2, t3⟩ := q
    have hs : sd (btA ln tp a) = 0 := by unfold sd; rw [if_neg (by omega)]
    have s0 : stg M n (btA ln tp a) a 0 := Or.inl ⟨hp1, by omega, fun o ho => absurd ho (Nat.not_lt_zero _)⟩
    have := tl_R_line (d := d) h8 hK (M1 := M7) (psP_step (C := (bt ln tp (Int.toNat (M 71 15)) : Int) = 108) hp0 t3 (fun z => by omega) (fun z => (t1 z).2) (fun z => (t2 z).2)) t3 (stg_step (C := (bt ln tp (Int.toNat (M 71 15)) : Int) = 108) s0 (fun _ _ _ => by
      rw [hB0]
      constructor
      · rintro c1 (z | z | z | z) <;> omega
      · exact fun z => Classical.byContradiction fun y => z (Or.inl ⟨rfl, by omega, by omega⟩)) (fun z => (t1 z).2) (fun z => (t2 z).2))
    rw [hs] at this
    exact this
