def rG (M : qm_M) (n : Nat) (w p : Nat → Nat) (s i : Nat) (q h : Nat → Nat) : Prop := (∀ x, x < n → M 83 x = (q x : Int)) ∧ (∀ y, y < n → M 84 y = mz (h y)) ∧ M 71 24 = (i : Int) ∧ ∀ j, j < i → M 82 j = (gtold n w p s j : Int)
def rGF (M2 M : qm_M) : Prop := ∀ c x, c ≠ 82 → c ≠ 83 → c ≠ 84 → c ≠ 71 ∨ x ≠ 24 → M2 c x = M c x
theorem rG_MR {M M0 : qm_M} {n : Nat} {w p : Nat → Nat} (h : qMR M0 n w p) (hF : rGF M M0) : qMR M n w p := qMR_mem h (hF 71 0 (by decide) (by decide) (by decide) (Or.inr (by decide))) (funext fun x => hF 72 x (by decide) (by decide) (by decide) (Or.inl (by decide))) (funext fun x => hF 73 x (by decide) (by decide) (by decide) (Or.inl (by decide)))
def at_R_asks_7  (d : Nat) (K : qm_K) (M : qm_M) (x1 x2 : Int) : Prop := ∀ (d3 d4 : Option qm_V), qm_TT qi_166 (qm_Runs qm_P (d + 3)) K 7 [some (.inr (some 71)), some (.inl x1), some (.inl x2), d3, d4] [] (qL qLM) M 0 0
def at_R_asks_38  (d : Nat) (K : qm_K) (M : qm_M) (x1 x2 : Int) : Prop := ∀ (d3 d4 : Option qm_V), qm_TT qi_166 (qm_Runs qm_P (d + 3)) K 38 [some (.inr (some 71)), some (.inl x1), some (.inl x2), d3, d4] [] (qL qLM) M 0 0
theorem rg_R_asks_7  {n : Nat} {h : Nat → Nat} {d : Nat} {K : qm_K} {M : qm_M} {x1 x2 : Int} (h :
    ((M 71 0) ≤ x2 →
     at_R_asks_38  d K M x1 0) ∧
    (¬ (M 71 0) ≤ x2 →
     0 ≤ x2 ∧ x2 < 8 ∧
     ∀ (M2 : qm_M), M2 = (qm_u M 83 (Int.toNat x2) 0) →
     0 ≤ x2 ∧ x2 < 8 ∧
     ∀ (M3 : qm_M), M3 = (qm_u M2 84 (Int.toNat x2) (-2)) →
     qm_R (x2 + 1) ∧
     at_R_asks_7  d K M3 x1 ((x2 + 1)))) : at_R_asks_7  d K M x1 x2 :=
  fun d3 d4 => qm_wp_TT [7, 38] 73 (And.intro (lf_71_0 ()) (And.intro (fun q20 => (h.1 q20) _ _) (fun q21 => Exists.intro 83 (And.intro (lf_71_18 ()) (Exists.intro 8 (And.intro (la_83 ()) (And.intro (h.2 q21).1 (And.intro (h.2 q21).2.1 (Exists.intro 84 (And.intro (lf_71_19 ()) (Exists.intro 8 (And.intro (la_84 ()) (And.intro ((h.2 q21).2.2 _ rfl).1 (And.intro ((h.2 q21).2.2 _ rfl).2.1 (And.intro (((h.2 q21).2.2 _ rfl).2.2 _ rfl).1 ((((h.2 q21).2.2 _ rfl).2.2 _ rfl).2 _ _))))))))))))))))
theorem rg_R_asks_38  {n : Nat} {h : Nat → Nat} {d : Nat} {K : qm_K} {M : qm_M} {x1 x2 : Int} (h :
    ((M 71 0) ≤ x2 →
     K (.inl 0) (qL qLM) M) ∧
    (¬ (M 71 0) ≤ x2 →
     0 ≤ x2 ∧ x2 < 8 ∧
     ∀ (y4 : Int), y4 = (M 83 (Int.toNat x2)) →
     (0 ≤ (x1 : Int) ∧ (x1 : Int) ≤ 1 ∧ 0 ≤ (x2 : Int) ∧ (x2 : Int) ≤ 8 ∧ 0 ≤ (y4 : Int) ∧ (y4 : Int) ≤ 8) ∧
     ∀ (y5 : Int), y5 = (64 * x1 + 8 * x2 + y4) →
     0 ≤ y5 ∧ y5 < 128 ∧
     ∀ (y6 : Int), y6 = (M 72 (Int.toNat y5)) →
     0 ≤ x2 ∧ x2 < 8 ∧
     ∀ (y7 : Int), y7 = (M 83 (Int.toNat x2)) →
     qm_R (y7 + 1) ∧
     0 ≤ x2 ∧ x2 < 8 ∧
     ∀ (M8 : qm_M), M8 = (qm_u M 83 (Int.toNat x2) (y7 + 1)) →
     qm_R (1 - x1) ∧
     0 ≤ y6 ∧ y6 < 8 ∧
     ∀ (y9 : Int), y9 = (M8 84 (Int.toNat y6)) →
     (0 ≤ ((1 - x1) : Int) ∧ ((1 - x1) : Int) ≤ 1 ∧ 0 ≤ (y6 : Int) ∧ (y6 : Int) ≤ 7 ∧ 0 ≤ (x2 : Int) ∧ (x2 : Int) ≤ 7 ∧ (y9 : Int) ≤ 7) ∧
     qm_R (100 * x2) ∧
     qm_R (10 * y6) ∧
     qm_R ((100 * x2) + (10 * y6)) ∧
     (((y9 : Int) < 0 ∨ M8 73 (Int.toNat (64 * (1 - x1) + 8 * y6 + x2)) < M8 73 (Int.toNat (64 * (1 - x1) + 8 * y6 + y9))) →
      qm_R (((100 * x2) + (10 * y6)) + 1) ∧
      0 ≤ (M8 71 24) ∧ (M8 71 24) < 64 ∧
      ∀ (M10 : qm_M), M10 = (qm_u M8 82 (Int.toNat (M8 71 24)) (((100 * x2) + (10 * y6)) + 1)) →
      qm_R ((M10 71 24) + 1) ∧
      ∀ (M11 : qm_M), M11 = (qm_u M10 71 24 ((M10 71 24) + 1)) →
      (((y9 : Int) < 0 ∨ M8 73 (Int.toNat (64 * (1 - x1) + 8 * y6 + x2)) < M8 73 (Int.toNat (64 * (1 - x1) + 8 * y6 + y9))) →
       0 ≤ y6 ∧ y6 < 8 ∧
       ∀ (M12 : qm_M), M12 = (qm_u M11 84 (Int.toNat y6) x2) →
       (M12 71 0 = (n : Int) ∧ n ≤ 8 ∧ ∀ y, y < n → M12 84 y = mz (h y)) ∧
       ∀ (y13 : Int), y13 = (gfa n h : Int) →
       at_R_asks_38  d K M12 x1 y13) ∧
      (¬ ((y9 : Int) < 0 ∨ M8 73 (Int.toNat (64 * (1 - x1) + 8 * y6 + x2)) < M8 73 (Int.toNat (64 * (1 - x1) + 8 * y6 + y9))) →
       (M11 71 0 = (n : Int) ∧ n ≤ 8 ∧ ∀ y, y < n → M11 84 y = mz (h y)) ∧
       ∀ (y14 : Int), y14 = (gfa n h : Int) →
       at_R_asks_38  d K M11 x1 y14)) ∧
     (¬ ((y9 : Int) < 0 ∨ M8 73 (Int.toNat (64 * (1 - x1) + 8 * y6 + x2)) < M8 73 (Int.toNat (64 * (1 - x1) + 8 * y6 + y9))) →
      qm_R (((100 * x2) + (10 * y6)) + 0) ∧
      0 ≤ (M8 71 24) ∧ (M8 71 24) < 64 ∧
      ∀ (M15 : qm_M), M15 = (qm_u M8 82 (Int.toNat (M8 71 24)) (((100 * x2) + (10 * y6)) + 0)) →
      qm_R ((M15 71 24) + 1) ∧
      ∀ (M16 : qm_M), M16 = (qm_u M15 71 24 ((M15 71 24) + 1)) →
      (((y9 : Int) < 0 ∨ M8 73 (Int.toNat (64 * (1 - x1) + 8 * y6 + x2)) < M8 73 (Int.toNat (64 * (1 - x1) + 8 * y6 + y9))) →
       0 ≤ y6 ∧ y6 < 8 ∧
       ∀ (M17 : qm_M), M17 = (qm_u M16 84 (Int.toNat y6) x2) →
       (M17 71 0 = (n : Int) ∧ n ≤ 8 ∧ ∀ y, y < n → M17 84 y = mz (h y)) ∧
       ∀ (y18 : Int), y18 = (gfa n h : Int) →
       at_R_asks_38  d K M17 x1 y18) ∧
      (¬ ((y9 : Int) < 0 ∨ M8 73 (Int.toNat (64 * (1 - x1) + 8 * y6 + x2)) < M8 73 (Int.toNat (64 * (1 - x1) + 8 * y6 + y9))) →
       (M16 71 0 = (n : Int) ∧ n ≤ 8 ∧ ∀ y, y < n → M16 84 y = mz (h y)) ∧
       ∀ (y19 : Int), y19 = (gfa n h : Int) →
       at_R_asks_38  d K M16 x1 y19)))) : at_R_asks_38  d K M x1 x2 :=
  fun d3 d4 => qm_wp_TT [7, 38] 73 (And.intro (lf_71_0 ()) (And.intro (fun q22 => (h.1 q22)) (fun q23 => Exists.intro 72 (And.intro (lf_71_2 ()) (Exists.intro 83 (And.intro (lf_71_18 ()) (Exists.intro 8 (And.intro (la_83 ()) (And.intro (h.2 q23).1 (And.intro (h.2 q23).2.1 (And.intro True.intro (s_R_at (d := d + 2)  (((h.2 q23).2.2 _ rfl).1) (Exists.intro 128 (And.intro (la_72 ()) (And.intro (((h.2 q23).2.2 _ rfl).2 _ rfl).1 (And.intro (((h.2 q23).2.2 _ rfl).2 _ rfl).2.1 (Exists.intro 83 (And.intro (lf_71_18 ()) (Exists.intro 8 (And.intro (la_83 ()) (And.intro ((((h.2 q23).2.2 _ rfl).2 _ rfl).2.2 _ rfl).1 (And.intro ((((h.2 q23).2.2 _ rfl).2 _ rfl).2.2 _ rfl).2.1 (And.intro (((((h.2 q23).2.2 _ rfl).2 _ rfl).2.2 _ rfl).2.2 _ rfl).1 (Exists.intro 8 (And.intro (la_83 ()) (And.intro (((((h.2 q23).2.2 _ rfl).2 _ rfl).2.2 _ rfl).2.2 _ rfl).2.1 (And.intro (((((h.2 q23).2.2 _ rfl).2 _ rfl).2.2 _ rfl).2.2 _ rfl).2.2.1 (And.intro ((((((h.2 q23).2.2 _ rfl).2 _ rfl).2.2 _ rfl).2.2 _ rfl).2.2.2 _ rfl).1 (Exists.intro 84 (And.intro (lf_71_19 ()) (Exists.intro 8 (And.intro (la_84 ()) (And.intro ((((((h.2 q23).2.2 _ rfl).2 _ rfl).2.2 _ rfl).2.2 _ rfl).2.2.2 _ rfl).2.1 (And.intro ((((((h.2 q23).2.2 _ rfl).2 _ rfl).2.2 _ rfl).2.2 _ rfl).2.2.2 _ rfl).2.2.1 (And.intro (lo_71 ()) (s_R_rather (d := d + 0)  ((((((((h.2 q23).2.2 _ rfl).2 _ rfl).2.2 _ rfl).2.2 _ rfl).2.2.2 _ rfl).2.2.2 _ rfl).1) (Exists.intro 82 (And.intro (lf_71_17 ()) (And.intro (lf_71_24 ()) (And.intro (((((((h.2 q23).2.2 _ rfl).2 _ rfl).2.2 _ rfl).2.2 _ rfl).2.2.2 _ rfl).2.2.2 _ rfl).2.1 (And.intro (((((((h.2 q23).2.2 _ rfl).2 _ rfl).2.2 _ rfl).2.2 _ rfl).2.2.2 _ rfl).2.2.2 _ rfl).2.2.1 (And.intro (((((((h.2 q23).2.2 _ rfl).2 _ rfl).2.2 _ rfl).2.2 _ rfl).2.2.2 _ rfl).2.2.2 _ rfl).2.2.2.1 (And.intro (fun q24 => And.intro ((((((((h.2 q23).2.2 _ rfl).2 _ rfl).2.2 _ rfl).2.2 _ rfl).2.2.2 _ rfl).2.2.2 _ rfl).2.2.2.2.2 (qm_b0 q24)).1 (Exists.intro 64 (And.intro (la_82 ()) (And.intro ((((((((h.2 q23).2.2 _ rfl).2 _ rfl).2.2 _ rfl).2.2 _ rfl).2.2.2 _ rfl).2.2.2 _ rfl).2.2.2.2.2 (qm_b0 q24)).2.1 (And.intro ((((((((h.2 q23).2.2 _ rfl).2 _ rfl).2.2 _ rfl).2.2 _ rfl).2.2.2 _ rfl).2.2.2 _ rfl).2.2.2.2.2 (qm_b0 q24)).2.2.1 (And.intro (lf_71_24 ()) (And.intro (((((((((h.2 q23).2.2 _ rfl).2 _ rfl).2.2 _ rfl).2.2 _ rfl).2.2.2 _ rfl).2.2.2 _ rfl).2.2.2.2.2 (qm_b0 q24)).2.2.2 _ rfl).1 (And.intro (lf_71_24 ()) (And.intro (fun q26 => And.intro (lo_71 ()) (s_R_firstAlone (d := d + 2)  ((((((((((((h.2 q23).2.2 _ rfl).2 _ rfl).2.2 _ rfl).2.2 _ rfl).2.2.2 _ rfl).2.2.2 _ rfl).2.2.2.2.2 (qm_b0 q24)).2.2.2 _ rfl).2 _ rfl).2 (qm_b0 q26)).1) (((((((((((((h.2 q23).2.2 _ rfl).2 _ rfl).2.2 _ rfl).2.2 _ rfl).2.2.2 _ rfl).2.2.2 _ rfl).2.2.2.2.2 (qm_b0 q24)).2.2.2 _ rfl).2 _ rfl).2 (qm_b0 q26)).2 _ rfl) _ _))) (fun q27 => Exists.intro 84 (And.intro (lf_71_19 ()) (Exists.intro 8 (And.intro (la_84 ()) (And.intro (((((((((((h.2 q23).2.2 _ rfl).2 _ rfl).2.2 _ rfl).2.2 _ rfl).2.2.2 _ rfl).2.2.2 _ rfl).2.2.2.2.2 (qm_b0 q24)).2.2.2 _ rfl).2 _ rfl).1 (qm_b1 q27)).1 (And.intro (((((((((((h.2 q23).2.2 _ rfl).2 _ rfl).2.2 _ rfl).2.2 _ rfl).2.2.2 _ rfl).2.2.2 _ rfl).2.2.2.2.2 (qm_b0 q24)).2.2.2 _ rfl).2 _ rfl).1 (qm_b1 q27)).2.1 (And.intro (lo_71 ()) (s_R_firstAlone (d := d + 2)  (((((((((((((h.2 q23).2.2 _ rfl).2 _ rfl).2.2 _ rfl).2.2 _ rfl).2.2.2 _ rfl).2.2.2 _ rfl).2.2.2.2.2 (qm_b0 q24)).2.2.2 _ rfl).2 _ rfl).1 (qm_b1 q27)).2.2 _ rfl).1) ((((((((((((((h.2 q23).2.2 _ rfl).2 _ rfl).2.2 _ rfl).2.2 _ rfl).2.2.2 _ rfl).2.2.2 _ rfl).2.2.2.2.2 (qm_b0 q24)).2.2.2 _ rfl).2 _ rfl).1 (qm_b1 q27)).2.2 _ rfl).2 _ rfl) _ _)))))))))))))))))) (fun q25 => And.intro ((((((((h.2 q23).2.2 _ rfl).2 _ rfl).2.2 _ rfl).2.2 _ rfl).2.2.2 _ rfl).2.2.2 _ rfl).2.2.2.2.1 (qm_b1 q25)).1 (Exists.intro 64 (And.intro (la_82 ()) (And.intro ((((((((h.2 q23).2.2 _ rfl).2 _ rfl).2.2 _ rfl).2.2 _ rfl).2.2.2 _ rfl).2.2.2 _ rfl).2.2.2.2.1 (qm_b1 q25)).2.1 (And.intro ((((((((h.2 q23).2.2 _ rfl).2 _ rfl).2.2 _ rfl).2.2 _ rfl).2.2.2 _ rfl).2.2.2 _ rfl).2.2.2.2.1 (qm_b1 q25)).2.2.1 (And.intro (lf_71_24 ()) (And.intro (((((((((h.2 q23).2.2 _ rfl).2 _ rfl).2.2 _ rfl).2.2 _ rfl).2.2.2 _ rfl).2.2.2 _ rfl).2.2.2.2.1 (qm_b1 q25)).2.2.2 _ rfl).1 (And.intro (lf_71_24 ()) (And.intro (fun q28 => And.intro (lo_71 ()) (s_R_firstAlone (d := d + 2)  ((((((((((((h.2 q23).2.2 _ rfl).2 _ rfl).2.2 _ rfl).2.2 _ rfl).2.2.2 _ rfl).2.2.2 _ rfl).2.2.2.2.1 (qm_b1 q25)).2.2.2 _ rfl).2 _ rfl).2 (qm_b0 q28)).1) (((((((((((((h.2 q23).2.2 _ rfl).2 _ rfl).2.2 _ rfl).2.2 _ rfl).2.2.2 _ rfl).2.2.2 _ rfl).2.2.2.2.1 (qm_b1 q25)).2.2.2 _ rfl).2 _ rfl).2 (qm_b0 q28)).2 _ rfl) _ _))) (fun q29 => Exists.intro 84 (And.intro (lf_71_19 ()) (Exists.intro 8 (And.intro (la_84 ()) (And.intro (((((((((((h.2 q23).2.2 _ rfl).2 _ rfl).2.2 _ rfl).2.2 _ rfl).2.2.2 _ rfl).2.2.2 _ rfl).2.2.2.2.1 (qm_b1 q25)).2.2.2 _ rfl).2 _ rfl).1 (qm_b1 q29)).1 (And.intro (((((((((((h.2 q23).2.2 _ rfl).2 _ rfl).2.2 _ rfl).2.2 _ rfl).2.2.2 _ rfl).2.2.2 _ rfl).2.2.2.2.1 (qm_b1 q25)).2.2.2 _ rfl).2 _ rfl).1 (qm_b1 q29)).2.1 (And.intro (lo_71 ()) (s_R_firstAlone (d := d + 2)  (((((((((((((h.2 q23).2.2 _ rfl).2 _ rfl).2.2 _ rfl).2.2 _ rfl).2.2.2 _ rfl).2.2.2 _ rfl).2.2.2.2.1 (qm_b1 q25)).2.2.2 _ rfl).2 _ rfl).1 (qm_b1 q29)).2.2 _ rfl).1) ((((((((((((((h.2 q23).2.2 _ rfl).2 _ rfl).2.2 _ rfl).2.2 _ rfl).2.2.2 _ rfl).2.2.2 _ rfl).2.2.2.2.1 (qm_b1 q25)).2.2.2 _ rfl).2 _ rfl).1 (qm_b1 q29)).2.2 _ rfl).2 _ rfl) _ _)))))))))))))))))))))))))))))))))))))))))))))))))))))))))))))
theorem en_R_asks  {n : Nat} {h : Nat → Nat} {d : Nat} {K : qm_K} {M : qm_M} {s : Int} (h :
    ∀ (M1 : qm_M), M1 = (qm_u M 71 24 0) →
    at_R_asks_7  d K M1 s 0) : qm_Runs qm_P (d + 4) 166 [(.inr (some 71)), (.inl s)] (qL qLM) M K :=
  And.intro (Nat.le_of_ble_eq_true rfl) (show qm_TT qi_166 (qm_Runs qm_P (d + 3)) K 0 [some (.inr (some 71)), some (.inl s), none, none, none] [] (qL qLM) M 0 0 from qm_wp_TT [7, 38] 73 (And.intro (lf_71_24 ()) ((h _ rfl) _ _)))
theorem lp_R_asks {d : Nat} {K : qm_K} {M0 : qm_M} {n sg : Nat} {w p : Nat → Nat} (hs : sg < 2) (hMR : qMR M0 n w p) (hK : ∀ M2 : qm_M, (rG M2 n w p sg (gN n w p sg) (gst n w p sg (gN n w p sg)).1 (gH n w p sg) ∧ rGF M2 M0) → K (.inl 0) (qL qLM) M2) : ∀ (j i : Nat) (M : qm_M), i + j = gN n w p sg → rG M n w p sg i (gst n w p sg i).1 (gst n w p sg i).2 → rGF M M0 → at_R_asks_38 d K M (sg : Int) (gfa n (gst n w p sg i).2 : Int)
  | 0, i, M, hi, g, hF => fun d3 d4 => by
    have hI := hMR.2.2.2
    have hm := rG_MR hMR hF
    have hi : i = gN n w p sg := by omega
    subst hi
    have he : gfa n (gst n w p sg (gN n w p sg)).2 = n := gN_end hI hs
    refine rg_R_asks_38 (n := n) (h := p) (And.intro (fun _ => hK M ⟨g, hF⟩) (fun z => absurd z (by rw [hm.1, he]; omega))) d3 d4
  | j + 1, i, M, hi, g, hF => fun d3 d4 => by
    have hI := hMR.2.2.2
    have h8 := hI.2.1
    have hm := rG_MR hMR hF
    have hN := gN_le hI hs
    have hfa := gN_lt (n := n) (w := w) (p := p) (s := sg) (i := i) (by omega)
    have hal : galone n (gst n w p sg i).2 (gfa n (gst n w p sg i).2) := lst_P hfa
    have hgI := gst_I hI hs i (fun k hk => gN_lt (by omega))
    have hqn := gI_ask hI hs hgI hfa hal
    have ih := lp_R_asks (d := d) hs hMR hK j (i + 1)
    obtain ⟨g2, g1, g3, g4⟩ := g
    have hle := hgI.1
    have hnx : gst n w p sg (i + 1) = gstep n w p sg (gst n w p sg i) := rfl
    have htl : gtold n w p sg i = 100 * gfa n (gst n w p sg i).2 + 10 * w (ix sg (gfa n (gst n w p sg i).2) ((gst n w p sg i).1 (gfa n (gst n w p sg i).2))) + @ite Nat (gyes p sg (gst n w p sg i).2 (gfa n (gst n w p sg i).2) (w (ix sg (gfa n (gst n w p sg i).2) ((gst n w p sg i).1 (gfa n (gst n w p sg i).2))))) (Classical.propDecidable _) 1 0 := rfl
    rw [hnx] at ih
    unfold gstep at ih
    generalize (gst n w p sg i).1 = q at *
    generalize (gst n w p sg i).2 = h at *
    generalize gfa n h = a at *
    have hw := hI.2.2 sg a hs hfa (q a) hqn
    have hr := rRat (M := M) (x := a) hm (show 1 - sg < 2 by omega) hw.1 hfa (hle _ hw.1)
    rw [show ((1 - sg : Nat) : Int) = 1 - (sg : Int) by omega] at hr
    generalize hy : w (ix sg a (q a)) = y at *
    have hyn := hw.1
    have hmz := mz_le (show h y = 9 ∨ h y < 8 from (hle y hyn).imp id (fun z => by omega))
    have key : ∀ (M5 M6 : qm_M) (h2 : Nat → Nat) (v : Int), (∀ c, c ≠ 83 → M5 c = M c) → M5 83 = (qm_u M 83 a ((q a : Int) + 1)) 83 → v = (gtold n w p sg i : Int) → M6 = qm_u (qm_u M5 82 i v) 71 24 (((i + 1 : Nat) : Nat) : Int) → ∀ M7 : qm_M, (∀ c, c ≠ 84 → M7 c = M6 c) → (∀ y, y < n → M7 84 y = mz (h2 y)) → rG M7 n w p sg (i + 1) (updF q a (q a + 1)) h2 ∧ rGF M7 M0 := by
      intro M5 M6 h2 v c5 e5 ev e6 M7 c7 e7
      refine ⟨⟨fun x hx => ?_, e7, ?_, fun j hj => ?_⟩, fun c x q1 q2 q3 q4 => ?_⟩
      · rw [c7 83 (by decide), e6, qu_cf (by decide), qu_cf (by decide), e5]
        unfold updF
        by_cases hxa : x = a
        · rw [if_pos hxa, hxa, qu_s]; rfl
        · rw [if_neg hxa, qu_k hxa]; exact g2 x hx
      · rw [c7 71 (by decide), e6, qu_s]
      · rw [c7 82 (by decide), e6, qu_cf (by decide)]
        by_cases hji : j = i
        · rw [hji, qu_s, ev]
        · rw [qu_k hji, c5 82 (by decide)]; exact g4 j (by omega)
      · rw [c7 c q3, e6]
        have : M5 c x = M0 c x := by rw [c5 c q2]; exact hF c x q1 q2 q3 q4
        rcases q4 with q4 | q4
        · rw [qu_c q4, qu_c q1, this]
        · rw [qu_k q4, qu_c q1, this]
    refine rg_R_asks_38 (n := n) (h := @ite (Nat → Nat) (gyes p sg h a y) (Classical.propDecidable _) (updF h y a) h) (And.intro (fun z => absurd z (by rw [hm.1]; omega)) (fun _ => And.intro (by omega) (And.intro (by omega) ?_))) d3 d4
    intro y4 e4
    rw [Int.toNat_natCast, g2 a hfa] at e4
    subst e4
    refine And.intro (by omega) ?_
    intro y5 e5
    refine And.intro (by omega) (And.intro (by omega) ?_)
    intro y6 e6
    rw [e5, rLi hm hs hfa hqn, hy] at e6
    subst e6
    refine And.intro (by omega) (And.intro (by omega) ?_)
    intro y7 e7
    rw [Int.toNat_natCast, g2 a hfa] at e7
    subst e7
    refine And.intro (by unfold qm_R; omega) (And.intro (by omega) (And.intro (by omega) ?_))
    intro M8 e8
    rw [Int.toNat_natCast] at e8
    have c8 : ∀ c, c ≠ 83 → M8 c = M c := fun c hc => by rw [e8, qu_cf hc]
    refine And.intro (by unfold qm_R; omega) (And.intro (by omega) (And.intro (by omega) ?_))
    intro y9 e9
    rw [Int.toNat_natCast, c8 84 (by decide), g1 y hyn] at e9
    subst e9
    refine And.intro (by omega) (And.intro (by unfold qm_R; omega) (And.intro (by unfold qm_R; omega) (And.intro (by unfold qm_R; omega) ?_)))
    rw [c8 73 (by decide), lnk hr]
    have t8 : M8 71 24 = (i : Int) := by rw [c8 71 (by decide)]; exact g3
    have m8 : M8 71 0 = (n : Int) := by rw [c8 71 (by decide)]; exact hm.1
    refine And.intro (fun hyes => ?_) (fun hno => ?_)
    · rw [if_pos (show gyes p sg h a y from hyes)] at htl ih
      rw [if_pos (show gyes p sg h a y from hyes)]
      refine And.intro (by unfold qm_R; omega) (And.intro (by omega) (And.intro (by omega) ?_))
      intro M10 e10
      rw [t8, Int.toNat_natCast] at e10
      have t10 : M10 71 24 = (i : Int) := by rw [e10, qu_cf (by decide)]; exact t8
      refine And.intro (by rw [t10]; unfold qm_R; omega) ?_
      intro M11 e11
      rw [t10] at e11
      refine And.intro (fun _ => And.intro (by omega) (And.intro (by omega) ?_)) (fun z => absurd hyes z)
      intro M12 e12
      rw [Int.toNat_natCast] at e12
      have h12 : ∀ z, z < n → M12 84 z = mz (updF h y a z) := fun z hz => by
        rw [e12]
        unfold updF
        by_cases hzy : z = y
        · rw [if_pos hzy, hzy, qu_s, mz_n (by omega)]
        · rw [if_neg hzy, qu_k hzy, e11, qu_cf (by decide), e10, qu_cf (by decide), c8 84 (by decide)]
          exact g1 z hz
      have kk := key M8 M11 (updF h y a) (100 * (a : Int) + 10 * (y : Int) + 1) c8 (by rw [e8]) (by rw [htl]; omega) (by rw [e11, e10]; rfl) M12 (fun c hc => by rw [e12, qu_cf hc]) h12
      refine And.intro ⟨by rw [e12, qu_cf (by decide), e11, qu_k (by decide), e10, qu_cf (by decide)]; exact m8, h8, h12⟩ ?_
      intro y13 e13
      rw [e13]
      exact ih M12 (by omega) kk.1 kk.2
    · rw [if_neg (show ¬ gyes p sg h a y from hno)] at htl ih
      rw [if_neg (show ¬ gyes p sg h a y from hno)]
      refine And.intro (by unfold qm_R; omega) (And.intro (by omega) (And.intro (by omega) ?_))
      intro M10 e10
      rw [t8, Int.toNat_natCast] at e10
      have t10 : M10 71 24 = (i : Int) := by rw [e10, qu_cf (by decide)]; exact t8
      refine And.intro (by rw [t10]; unfold qm_R; omega) ?_
      intro M11 e11
      rw [t10] at e11
      refine And.intro (fun z => absurd z hno) (fun _ => ?_)
      have h12 : ∀ z, z < n → M11 84 z = mz (h z) := fun z hz => by
        rw [e11, qu_cf (by decide), e10, qu_cf (by decide), c8 84 (by decide)]
        exact g1 z hz
      have kk := key M8 M11 h (100 * (a : Int) + 10 * (y : Int) + 0) c8 (by rw [e8]) (by rw [htl]; omega) (by rw [e11, e10]; rfl) M11 (fun _ _ => rfl) h12
      refine And.intro ⟨by rw [e11, qu_k (by decide), e10, qu_cf (by decide)]; exact m8, h8, h12⟩ ?_
      intro y13 e13
      rw [e13]
      exact ih M11 (by omega) kk.1 kk.2
theorem lp_R_asks0 {d : Nat} {K : qm_K} {M0 : qm_M} {n sg : Nat} {w p : Nat → Nat} (hs : sg < 2) (hMR : qMR M0 n w p) (hK : ∀ M2 : qm_M, (rG M2 n w p sg (gN n w p sg) (gst n w p sg (gN n w p sg)).1 (gH n w p sg) ∧ rGF M2 M0) → K (.inl 0) (qL qLM) M2) : ∀ (j x : Nat) (M : qm_M), x + j = n → M 71 24 = 0 → (∀ z, z < x → M 83 z = 0 ∧ M 84 z = -2) → rGF M M0 → at_R_asks_7 d K M (sg : Int) (x : Int)
  | 0, x, M, hx, h24, hS, hF => fun d3 d4 => by
    have hI := hMR.2.2.2
    have hm := rG_MR hMR hF
    refine rg_R_asks_7 (n := n) (h := p) (And.intro (fun _ => ?_) (fun z => absurd z (by rw [hm.1]; omega))) d3 d4
    have h0 : gfa n (gst n w p sg 0).2 = 0 := lst_eq (by have := hI.1; omega) (fun y hy => (show (9 : Nat) ≠ 0 by decide)) (fun j hj => absurd hj (Nat.not_lt_zero _))
    have := lp_R_asks (d := d) hs hMR hK (gN n w p sg) 0 M (by omega) ⟨fun z hz => (hS z (by omega)).1, fun z hz => (hS z (by omega)).2, h24, fun j hj => absurd hj (Nat.not_lt_zero _)⟩ hF
    rw [h0] at this
    exact this
  | j + 1, x, M, hx, h24, hS, hF => fun d3 d4 => by
    have hI := hMR.2.2.2
    have h8 := hI.2.1
    have hm := rG_MR hMR hF
    refine rg_R_asks_7 (n := n) (h := p) (And.intro (fun z => absurd z (by rw [hm.1]; omega)) (fun _ => And.intro (by omega) (And.intro (by omega) ?_))) d3 d4
    intro M2 e2
    refine And.intro (by omega) (And.intro (by omega) ?_)
    intro M3 e3
    rw [Int.toNat_natCast] at e2 e3
    refine And.intro (by unfold qm_R; omega) (lp_R_asks0 hs hMR hK j (x + 1) M3 (by omega) (by rw [e3, qu_cf (by decide), e2, qu_cf (by decide)]; exact h24) (fun z hz => ?_) (fun c y q1 q2 q3 q4 => by rw [e3, qu_c q3, e2, qu_c q2]; exact hF c y q1 q2 q3 q4))
    by_cases hzx : z = x
    · rw [hzx, e3, qu_s, qu_cf (by decide), e2, qu_s]
      exact ⟨rfl, rfl⟩
    · refine ⟨?_, ?_⟩
      · rw [e3, qu_cf (by decide), e2, qu_k hzx]
        exact (hS z (by omega)).1
      · rw [e3, qu_k hzx, e2, qu_cf (by decide)]
        exact (hS z (by omega)).2
theorem s_R_asks  {n sg : Nat} {w p : Nat → Nat} {d : Nat} {K : qm_K} {M : qm_M} {s : Int} (hp0 : qMR M n w p) (hp1 : sg < 2 ∧ s = (sg : Int)) (hK : ∀ (M2 : qm_M), (rG M2 n w p sg (gN n w p sg) (gst n w p sg (gN n w p sg)).1 (gH n w p sg) ∧ rGF M2 M) → K (.inl 0) (qL qLM) M2) : qm_Runs qm_P (d + 4) 166 [(.inr (some 71)), (.inl s)] (qL qLM) M K := by
  obtain ⟨hs, rfl⟩ := hp1
  refine en_R_asks (n := n) (h := p) ?_
  intro M1 e1
  refine lp_R_asks0 hs hp0 hK n 0 M1 (by omega) (by rw [e1, qu_s]) (fun z hz => absurd hz (Nat.not_lt_zero _)) (fun c x q1 q2 q3 q4 => ?_)
  rw [e1]
  rcases q4 with q4 | q4
  · rw [qu_c q4]
  · rw [qu_k q4]
def at_R_bests_7 (a N : Nat) (d : Nat) (K : qm_K) (M : qm_M) (x1 x3 : Int) : Prop := qm_TT qi_168 (qm_Runs qm_P (d + 4)) K 7 [some (.inr (some 71)), some (.inl x1), some (.inr (some a)), some (.inl x3)] [] (qL qLM) M 0 0
theorem rg_R_bests_7 {a N : Nat} {n sg : Nat} {w p : Nat → Nat} {d : Nat} {K : qm_K} {M : qm_M} {x1 x3 : Int} (hA : qArr (qL qLM) a N) (h :
    ((M 71 0) ≤ x3 →
     K (.inl 0) (qL qLM) M) ∧
    (¬ (M 71 0) ≤ x3 →
     (x1 ≠ 0 →
      0 ≤ x3 ∧ x3 < 8 ∧
      ∀ (y3 : Int), y3 = (M 84 (Int.toNat x3)) →
      0 ≤ x3 ∧ x3 < N ∧
      ∀ (M4 : qm_M), M4 = (qm_u M a (Int.toNat x3) y3) →
      qm_R (x3 + 1) ∧
      at_R_bests_7 a N d K M4 x1 ((x3 + 1))) ∧
     (¬ x1 ≠ 0 →
      0 ≤ x3 ∧ x3 < 8 ∧
      ∀ (y5 : Int), y5 = (M 84 (Int.toNat x3)) →
      0 ≤ y5 ∧ y5 < N ∧
      ∀ (M6 : qm_M), M6 = (qm_u M a (Int.toNat y5) x3) →
      qm_R (x3 + 1) ∧
      at_R_bests_7 a N d K M6 x1 ((x3 + 1))))) : at_R_bests_7 a N d K M x1 x3 :=
  qm_wp_TT [7] 20 (And.intro (lf_71_0 ()) (And.intro (fun q7 => (h.1 q7)) (fun q8 => And.intro (fun q9 => Exists.intro 84 (And.intro (lf_71_19 ()) (Exists.intro 8 (And.intro (la_84 ()) (And.intro ((h.2 q8).1 q9).1 (And.intro ((h.2 q8).1 q9).2.1 (Exists.intro N (And.intro hA.1 (And.intro (((h.2 q8).1 q9).2.2 _ rfl).1 (And.intro (((h.2 q8).1 q9).2.2 _ rfl).2.1 (And.intro ((((h.2 q8).1 q9).2.2 _ rfl).2.2 _ rfl).1 (((((h.2 q8).1 q9).2.2 _ rfl).2.2 _ rfl).2)))))))))))) (fun q10 => Exists.intro 84 (And.intro (lf_71_19 ()) (Exists.intro 8 (And.intro (la_84 ()) (And.intro ((h.2 q8).2 q10).1 (And.intro ((h.2 q8).2 q10).2.1 (Exists.intro N (And.intro hA.1 (And.intro (((h.2 q8).2 q10).2.2 _ rfl).1 (And.intro (((h.2 q8).2 q10).2.2 _ rfl).2.1 (And.intro ((((h.2 q8).2 q10).2.2 _ rfl).2.2 _ rfl).1 (((((h.2 q8).2 q10).2.2 _ rfl).2.2 _ rfl).2)))))))))))))))
theorem en_R_bests {a N : Nat} {n sg : Nat} {w p : Nat → Nat} {d : Nat} {K : qm_K} {M : qm_M} {s : Int} (hA : qArr (qL qLM) a N) (h :
    (qMR M n w p) ∧
    (sg < 2 ∧ s = (sg : Int)) ∧
    (∀ (M2 : qm_M), (rG M2 n w p sg (gN n w p sg) (gst n w p sg (gN n w p sg)).1 (gH n w p sg) ∧ rGF M2 M) →
     at_R_bests_7 a N d K M2 s 0)) : qm_Runs qm_P (d + 5) 168 [(.inr (some 71)), (.inl s), (.inr (some a))] (qL qLM) M K :=
  And.intro (Nat.le_of_ble_eq_true rfl) (show qm_TT qi_168 (qm_Runs qm_P (d + 4)) K 0 [some (.inr (some 71)), some (.inl s), some (.inr (some a)), none] [] (qL qLM) M 0 0 from qm_wp_TT [7] 20 (And.intro (lo_71 ()) (s_R_asks (d := d + 0)  (h.1) (h.2.1) (fun M2 p11 => (h.2.2 M2 p11)))))
theorem lp_R_bests {a N d : Nat} {K : qm_K} {M0 : qm_M} {n sg : Nat} {w p : Nat → Nat} (hA : qArr (qL qLM) a N) (h8N : 8 ≤ N) (hne : a ≠ 71 ∧ a ≠ 72 ∧ a ≠ 73 ∧ a ≠ 82 ∧ a ≠ 83 ∧ a ≠ 84) (hs : sg < 2) (hI : qInv n w p) (h0 : M0 71 0 = (n : Int)) (hh : ∀ y, y < n → M0 84 y = mz (gH n w p sg y)) (hK : ∀ M2 : qm_M, (qAr M2 a n (if sg = 0 then ginv n (gH n w p 0) else gH n w p 1) ∧ ∀ c, c ≠ a → M2 c = M0 c) → K (.inl 0) (qL qLM) M2) : ∀ (j y : Nat) (M : qm_M), y + j = n → (∀ c, c ≠ a → M c = M0 c) → (sg = 0 → ∀ x, x < n → ginv n (gH n w p 0) x < y → M a x = (ginv n (gH n w p 0) x : Int)) → (sg = 1 → ∀ x, x < y → M a x = (gH n w p 1 x : Int)) → at_R_bests_7 a N d K M (sg : Int) (y : Int)
  | 0, y, M, hy, hc, q0, q1 => by
    refine rg_R_bests_7 (n := n) (sg := sg) (w := w) (p := p) hA (And.intro (fun _ => hK M ⟨fun x hx => ?_, hc⟩) (fun z => absurd z (by rw [hc 71 (Ne.symm hne.1), h0]; omega)))
    have hall := (gH_all hI hs).2.1 x hx
    rcases (show sg = 0 ∨ sg = 1 by omega) with h | h
    · rw [if_pos h]
      subst h
      exact q0 rfl x hx (by omega)
    · rw [if_neg (by omega)]
      exact q1 h x (by omega)
  | j + 1, y, M, hy, hc, q0, q1 => by
    have h8 := hI.2.1
    have hall := (gH_all hI hs).2.2 y (by omega)
    have hq := qMt_best hI
    refine rg_R_bests_7 (n := n) (sg := sg) (w := w) (p := p) hA (And.intro (fun z => absurd z (by rw [hc 71 (Ne.symm hne.1), h0]; omega)) (fun _ => And.intro (fun hz => ?_) (fun hz => ?_)))
    · have h1 : sg = 1 := by omega
      subst h1
      have hlt := (hq.2.1 y (by omega)).1
      refine And.intro (by omega) (And.intro (by omega) ?_)
      intro y1 e1
      rw [Int.toNat_natCast, hc 84 (Ne.symm hne.2.2.2.2.2), hh y (by omega), mz_n (by omega)] at e1
      refine And.intro (by omega) (And.intro (by omega) ?_)
      intro M3 e3
      rw [Int.toNat_natCast, e1] at e3
      refine And.intro (by unfold qm_R; omega) (lp_R_bests hA h8N hne hs hI h0 hh hK j (y + 1) M3 (by omega) (fun c hcc => by rw [e3, qu_cf hcc]; exact hc c hcc) (fun z => absurd z (by decide)) (fun _ x hx => ?_))
      rw [e3]
      by_cases hxy : x = y
      · rw [hxy, qu_s]
      · rw [qu_k hxy]; exact q1 rfl x (by omega)
    · have h1 : sg = 0 := by omega
      subst h1
      have hv := hq.1.2 y (by omega)
      refine And.intro (by omega) (And.intro (by omega) ?_)
      intro y1 e1
      rw [Int.toNat_natCast, hc 84 (Ne.symm hne.2.2.2.2.2), hh y (by omega), mz_n (by omega)] at e1
      refine And.intro (by omega) (And.intro (by omega) ?_)
      intro M3 e3
      rw [e1, Int.toNat_natCast] at e3
      refine And.intro (by unfold qm_R; omega) (lp_R_bests hA h8N hne hs hI h0 hh hK j (y + 1) M3 (by omega) (fun c hcc => by rw [e3, qu_cf hcc]; exact hc c hcc) (fun _ x hx hlt => ?_) (fun z => absurd z (by decide)))
      rw [e3]
      by_cases hxy : x = gH n w p 0 y
      · rw [hxy, qu_s, hv.2]
      · rw [qu_k hxy]
        refine q0 rfl x hx ?_
        rcases Nat.lt_or_ge (ginv n (gH n w p 0) x) y with q | q
        · exact q
        · exfalso
          have he : ginv n (gH n w p 0) x = y := by omega
          have := (hq.1.1 x hx).2
          rw [he] at this
          exact hxy this.symm
theorem s_R_bests {a N : Nat} {n sg : Nat} {w p : Nat → Nat} {d : Nat} {K : qm_K} {M : qm_M} {s : Int} (hA : qArr (qL qLM) a N) (hp0 : qMR M n w p) (hp1 : sg < 2 ∧ s = (sg : Int)) (hp2 : 8 ≤ (N : Nat) ∧ a ≠ 71 ∧ a ≠ 72 ∧ a ≠ 73 ∧ a ≠ 82 ∧ a ≠ 83 ∧ a ≠ 84) (hK : ∀ (M2 : qm_M), (qAr M2 a n (if sg = 0 then ginv n (gH n w p 0) else gH n w p 1) ∧ M2 71 24 = (gN n w p sg : Int) ∧ (∀ j, j < gN n w p sg → M2 82 j = (gtold n w p sg j : Int)) ∧ ∀ c x, c ≠ a → c ≠ 82 → c ≠ 83 → c ≠ 84 → c ≠ 71 ∨ x ≠ 24 → M2 c x = M c x) → K (.inl 0) (qL qLM) M2) : qm_Runs qm_P (d + 5) 168 [(.inr (some 71)), (.inl s), (.inr (some a))] (qL qLM) M K := by
  obtain ⟨hs, rfl⟩ := hp1
  obtain ⟨h8N, hne⟩ := hp2
  refine en_R_bests (n := n) (sg := sg) (w := w) (p := p) hA (And.intro hp0 (And.intro ⟨hs, rfl⟩ ?_))
  intro M2 h2
  have hm := rG_MR hp0 h2.2
  refine lp_R_bests (M0 := M2) hA h8N hne hs hp0.2.2.2 hm.1 h2.1.2.1 (fun M3 h3 => hK M3 ⟨h3.1, ?_, fun j hj => ?_, fun c x q0 q1 q2 q3 q4 => ?_⟩) n 0 M2 (by omega) (fun _ _ => rfl) (fun _ x _ h => absurd h (Nat.not_lt_zero _)) (fun _ x h => absurd h (Nat.not_lt_zero _))
  · rw [h3.2 71 (Ne.symm hne.1)]; exact h2.1.2.2.1
  · rw [h3.2 82 (Ne.symm hne.2.2.2.1)]; exact h2.1.2.2.2 j hj
  · rw [h3.2 c q0]; exact h2.2 c x q1 q2 q3 q4
