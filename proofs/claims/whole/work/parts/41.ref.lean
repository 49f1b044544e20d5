def kF (M2 M : qm_M) : Prop := ∀ c y, (c < 82 ∨ 86 < c) → (c < 89 ∨ 95 < c) → c ≠ 71 ∨ (y ≠ 24 ∧ y ≠ 31 ∧ y ≠ 32 ∧ y ≠ 34 ∧ y ≠ 35) → M2 c y = M c y
theorem kF_MR {M M0 : qm_M} {n : Nat} {w p : Nat → Nat} (h : qMR M0 n w p) (hF : kF M M0) : qMR M n w p := qMR_mem h (hF 71 0 (by decide) (by decide) (Or.inr (by decide))) (funext fun x => hF 72 x (by decide) (by decide) (Or.inl (by decide))) (funext fun x => hF 73 x (by decide) (by decide) (Or.inl (by decide)))
def mCl (M : qm_M) (n : Nat) (w p : Nat → Nat) (k : Nat) : Prop := M 71 34 = (k : Int) ∧ ∀ m, m < k → M 95 m = (cE n w p m : Int)
/-- the reference knows -/
def rKn (M : qm_M) (n : Nat) (w p : Nat → Nat) : Prop := qAr M 85 n (rU n w p 0) ∧ qRp M n w p (rT n w p) ∧ (∀ t, t < rT n w p → M 91 t = (rnd n w p t : Int) ∧ M 92 t = (rdp n w p t : Int)) ∧ mCl M n w p (cN n w p)
def rK0 (M M0 : qm_M) (n : Nat) (w p : Nat → Nat) : Prop := qAr M 85 n (rU n w p 0) ∧ qRp M n w p (rT n w p) ∧ kF M M0
theorem rK0_keep {M M2 M0 : qm_M} {n : Nat} {w p : Nat → Nat} (h : rK0 M M0 n w p) (e85 : M2 85 = M 85) (e90 : M2 90 = M 90) (e89 : M2 89 = M 89) (e : M2 71 31 = M 71 31) (hF : kF M2 M) : rK0 M2 M0 n w p := ⟨qAr_mem h.1 e85, ⟨by rw [e]; exact h.2.1.1, fun t ht => by
  have := h.2.1.2 t ht
  unfold qRt at *
  rw [e90, e89]
  exact this⟩, fun c y q1 q2 q3 => by rw [hF c y q1 q2 q3]; exact h.2.2 c y q1 q2 q3⟩
theorem rnd_end {n : Nat} {w p : Nat → Nat} {t : Nat} : bits (fun u => rNd n w p t u ∧ u < rT n w p) 28 = rnd n w p t := bits_congr (fun u _ => ⟨fun h => h.1, fun h => ⟨h, by have := Nd_lt h; omega⟩⟩)
noncomputable def dpf (n : Nat) (w p : Nat → Nat) (t a : Nat) : Nat := @ite Nat (rNd n w p t a) (Classical.propDecidable _) (rdp n w p a + 1) 0
def at_R_knows_23  (d : Nat) (K : qm_K) (M : qm_M) (x1 : Int) : Prop := ∀ (d2 d3 : Option qm_V), qm_TT qi_179 (qm_Runs qm_P (d + 6)) K 23 [some (.inr (some 71)), some (.inl x1), d2, d3] [] (qL qLM) M 0 0
def at_R_knows_46  (d : Nat) (K : qm_K) (M : qm_M) (x1 : Int) : Prop := ∀ (d2 d3 : Option qm_V), qm_TT qi_179 (qm_Runs qm_P (d + 6)) K 46 [some (.inr (some 71)), some (.inl x1), d2, d3] [] (qL qLM) M 0 0
def at_R_knows_79  (d : Nat) (K : qm_K) (M : qm_M) (x1 : Int) : Prop := ∀ (d2 d3 : Option qm_V), qm_TT qi_179 (qm_Runs qm_P (d + 6)) K 79 [some (.inr (some 71)), some (.inl x1), d2, d3] [] (qL qLM) M 0 0
def at_R_knows_96  (d : Nat) (K : qm_K) (M : qm_M) (x1 x2 : Int) : Prop := ∀ (d3 : Option qm_V), qm_TT qi_179 (qm_Runs qm_P (d + 6)) K 96 [some (.inr (some 71)), some (.inl x1), some (.inl x2), d3] [] (qL qLM) M 0 0
def at_R_knows_159  (d : Nat) (K : qm_K) (M : qm_M) (x1 x2 x3 : Int) : Prop := qm_TT qi_179 (qm_Runs qm_P (d + 6)) K 159 [some (.inr (some 71)), some (.inl x1), some (.inl x2), some (.inl x3)] [] (qL qLM) M 0 0
theorem rg_R_knows_23  {n sg td wx : Nat} {w p ud ue : Nat → Nat} {S : Nat → Prop} {d : Nat} {K : qm_K} {M : qm_M} {x1 : Int} (h :
    ((M 71 31) ≤ x1 →
     at_R_knows_46  d K M 0) ∧
    (¬ (M 71 31) ≤ x1 →
     0 ≤ x1 ∧ x1 < 28 ∧
     ∀ (M5 : qm_M), M5 = (qm_u M 91 (Int.toNat x1) 0) →
     qm_R (x1 + 1) ∧
     at_R_knows_23  d K M5 ((x1 + 1)))) : at_R_knows_23  d K M x1 :=
  fun d2 d3 => qm_wp_TT [23, 46, 79, 96, 159] 40 (And.intro (lf_71_31 ()) (And.intro (fun q23 => (h.1 q23) _ _) (fun q24 => Exists.intro 91 (And.intro (lf_71_27 ()) (Exists.intro 28 (And.intro (la_91 ()) (And.intro (h.2 q24).1 (And.intro (h.2 q24).2.1 (And.intro ((h.2 q24).2.2 _ rfl).1 (((h.2 q24).2.2 _ rfl).2 _ _))))))))))
theorem rg_R_knows_46  {n sg td wx : Nat} {w p ud ue : Nat → Nat} {S : Nat → Prop} {d : Nat} {K : qm_K} {M : qm_M} {x1 : Int} (h :
    ((M 71 31) ≤ x1 →
     ∀ (M6 : qm_M), M6 = (qm_u M 71 34 1) →
     0 ≤ (0 : Int) ∧ (0 : Int) < 4096 ∧
     ∀ (M7 : qm_M), M7 = (qm_u M6 95 (Int.toNat 0) 0) →
     at_R_knows_79  d K M7 0) ∧
    (¬ (M 71 31) ≤ x1 →
     (qMR M n w p ∧ qRp M n w p (rT n w p) ∧ qAr M 85 n (rU n w p 0)) ∧
     (wx < rT n w p ∧ x1 = (wx : Int)) ∧
     (∀ t, t < rT n w p → rAh M n w p wx t) ∧
     (∀ (M9 : qm_M), ((∀ t, t < rT n w p → rAh M9 n w p (wx + 1) t) ∧ ∀ c y, c ≠ 86 → c ≠ 91 → c ≠ 93 → c ≠ 94 → c ≠ 71 ∨ y ≠ 32 → M9 c y = M c y) →
      qm_R (x1 + 1) ∧
      at_R_knows_46  d K M9 ((x1 + 1))))) : at_R_knows_46  d K M x1 :=
  fun d2 d3 => qm_wp_TT [23, 46, 79, 96, 159] 40 (And.intro (lf_71_31 ()) (And.intro (fun q25 => And.intro (lf_71_34 ()) (Exists.intro 95 (And.intro (lf_71_33 ()) (Exists.intro 4096 (And.intro (la_95 ()) (And.intro ((h.1 q25) _ rfl).1 (And.intro ((h.1 q25) _ rfl).2.1 ((((h.1 q25) _ rfl).2.2 _ rfl) _ _)))))))) (fun q26 => And.intro (lo_71 ()) (s_R_without (d := d + 0)  ((h.2 q26).1) ((h.2 q26).2.1) ((h.2 q26).2.2.1) (fun M9 p27 => And.intro ((h.2 q26).2.2.2 M9 p27).1 (((h.2 q26).2.2.2 M9 p27).2 _ _))))))
theorem rg_R_knows_79  {n sg td wx : Nat} {w p ud ue : Nat → Nat} {S : Nat → Prop} {d : Nat} {K : qm_K} {M : qm_M} {x1 : Int} (h :
    ((M 71 31) ≤ x1 →
     ∀ (M10 : qm_M), M10 = (qm_u M 71 35 1) →
     K (.inl 0) (qL qLM) M10) ∧
    (¬ (M 71 31) ≤ x1 →
     0 ≤ x1 ∧ x1 < 28 ∧
     ∀ (M11 : qm_M), M11 = (qm_u M 92 (Int.toNat x1) 0) →
     at_R_knows_96  d K M11 x1 0)) : at_R_knows_79  d K M x1 :=
  fun d2 d3 => qm_wp_TT [23, 46, 79, 96, 159] 40 (And.intro (lf_71_31 ()) (And.intro (fun q28 => And.intro (Or.inr rfl) (And.intro (lf_71_35 ()) (((h.1 q28) _ rfl)))) (fun q29 => Exists.intro 92 (And.intro (lf_71_28 ()) (Exists.intro 28 (And.intro (la_92 ()) (And.intro (h.2 q29).1 (And.intro (h.2 q29).2.1 (((h.2 q29).2.2 _ rfl) _)))))))))
theorem rg_R_knows_96  {n sg td wx : Nat} {w p ud ue : Nat → Nat} {S : Nat → Prop} {d : Nat} {K : qm_K} {M : qm_M} {x1 x2 : Int} (h :
    (x1 ≤ x2 →
     at_R_knows_159  d K M x1 ((M 71 34)) 0) ∧
    (¬ x1 ≤ x2 →
     0 ≤ x1 ∧ x1 < 28 ∧
     ∀ (y12 : Int), y12 = (M 91 (Int.toNat x1)) →
     ((qm_and (qm_shr y12 x2) 1 = 1) →
      0 ≤ x1 ∧ x1 < 28 ∧
      ∀ (y13 : Int), y13 = (M 92 (Int.toNat x1)) →
      0 ≤ x2 ∧ x2 < 28 ∧
      ∀ (y14 : Int), y14 = (M 92 (Int.toNat x2)) →
      qm_R (y14 + 1) ∧
      0 ≤ x1 ∧ x1 < 28 ∧
      ∀ (M15 : qm_M), M15 = (qm_u M 92 (Int.toNat x1) (max y13 (y14 + 1))) →
      qm_R (x2 + 1) ∧
      at_R_knows_96  d K M15 x1 ((x2 + 1))) ∧
     (¬ (qm_and (qm_shr y12 x2) 1 = 1) →
      0 ≤ x1 ∧ x1 < 28 ∧
      ∀ (y16 : Int), y16 = (M 92 (Int.toNat x1)) →
      0 ≤ x1 ∧ x1 < 28 ∧
      ∀ (M17 : qm_M), M17 = (qm_u M 92 (Int.toNat x1) y16) →
      qm_R (x2 + 1) ∧
      at_R_knows_96  d K M17 x1 ((x2 + 1))))) : at_R_knows_96  d K M x1 x2 :=
  fun d3 => qm_wp_TT [23, 46, 79, 96, 159] 40 (And.intro (fun q30 => And.intro (lf_71_34 ()) ((h.1 q30))) (fun q31 => Exists.intro 92 (And.intro (lf_71_28 ()) (Exists.intro 91 (And.intro (lf_71_27 ()) (Exists.intro 28 (And.intro (la_91 ()) (And.intro (h.2 q31).1 (And.intro (h.2 q31).2.1 (And.intro True.intro (s_R_has (d := d + 5)   (And.intro (fun q32 => Exists.intro 92 (And.intro (lf_71_28 ()) (Exists.intro 28 (And.intro (la_92 ()) (And.intro (((h.2 q31).2.2 _ rfl).2 (qm_b0 q32)).1 (And.intro (((h.2 q31).2.2 _ rfl).2 (qm_b0 q32)).2.1 (Exists.intro 28 (And.intro (la_92 ()) (And.intro ((((h.2 q31).2.2 _ rfl).2 (qm_b0 q32)).2.2 _ rfl).1 (And.intro ((((h.2 q31).2.2 _ rfl).2 (qm_b0 q32)).2.2 _ rfl).2.1 (And.intro (((((h.2 q31).2.2 _ rfl).2 (qm_b0 q32)).2.2 _ rfl).2.2 _ rfl).1 ((((((h.2 q31).2.2 _ rfl).2 (qm_b0 q32)).2.2 _ rfl).2.2 _ rfl).2 _)))))))))))) (fun q33 => Exists.intro 92 (And.intro (lf_71_28 ()) (Exists.intro 28 (And.intro (la_92 ()) (And.intro (((h.2 q31).2.2 _ rfl).1 (qm_b1 q33)).1 (And.intro (((h.2 q31).2.2 _ rfl).1 (qm_b1 q33)).2.1 (Exists.intro 92 (And.intro (lf_71_28 ()) (Exists.intro 28 (And.intro (la_92 ()) (And.intro ((((h.2 q31).2.2 _ rfl).1 (qm_b1 q33)).2.2 _ rfl).1 (And.intro ((((h.2 q31).2.2 _ rfl).1 (qm_b1 q33)).2.2 _ rfl).2.1 (And.intro (((((h.2 q31).2.2 _ rfl).1 (qm_b1 q33)).2.2 _ rfl).2.2 _ rfl).1 (Exists.intro 28 (And.intro (la_92 ()) (And.intro (((((h.2 q31).2.2 _ rfl).1 (qm_b1 q33)).2.2 _ rfl).2.2 _ rfl).2.1 (And.intro (((((h.2 q31).2.2 _ rfl).1 (qm_b1 q33)).2.2 _ rfl).2.2 _ rfl).2.2.1 (And.intro ((((((h.2 q31).2.2 _ rfl).1 (qm_b1 q33)).2.2 _ rfl).2.2 _ rfl).2.2.2 _ rfl).1 (((((((h.2 q31).2.2 _ rfl).1 (qm_b1 q33)).2.2 _ rfl).2.2 _ rfl).2.2.2 _ rfl).2 _)))))))))))))))))))))))))))))))
theorem rg_R_knows_159  {n sg td wx : Nat} {w p ud ue : Nat → Nat} {S : Nat → Prop} {d : Nat} {K : qm_K} {M : qm_M} {x1 x2 x3 : Int} (h :
    (x2 ≤ x3 →
     qm_R (x1 + 1) ∧
     at_R_knows_79  d K M ((x1 + 1))) ∧
    (¬ x2 ≤ x3 →
     0 ≤ x1 ∧ x1 < 28 ∧
     ∀ (y18 : Int), y18 = (M 91 (Int.toNat x1)) →
     0 ≤ x3 ∧ x3 < 4096 ∧
     ∀ (y19 : Int), y19 = (M 95 (Int.toNat x3)) →
     ((qm_and y18 (qm_xor y19 (-1))) = 0 →
      0 ≤ x3 ∧ x3 < 4096 ∧
      ∀ (y20 : Int), y20 = (M 95 (Int.toNat x3)) →
      0 ≤ (M 71 34) ∧ (M 71 34) < 4096 ∧
      ∀ (M21 : qm_M), M21 = (qm_u M 95 (Int.toNat (M 71 34)) (qm_or y20 (qm_shl 1 x1))) →
      qm_R ((M21 71 34) + 1) ∧
      ∀ (M22 : qm_M), M22 = (qm_u M21 71 34 ((M21 71 34) + 1)) →
      qm_R (x3 + 1) ∧
      at_R_knows_159  d K M22 x1 x2 ((x3 + 1))) ∧
     (¬ (qm_and y18 (qm_xor y19 (-1))) = 0 →
      qm_R (x3 + 1) ∧
      at_R_knows_159  d K M x1 x2 ((x3 + 1))))) : at_R_knows_159  d K M x1 x2 x3 :=
  qm_wp_TT [23, 46, 79, 96, 159] 40 (And.intro (fun q34 => And.intro (h.1 q34).1 ((h.1 q34).2 _ _)) (fun q35 => Exists.intro 91 (And.intro (lf_71_27 ()) (Exists.intro 28 (And.intro (la_91 ()) (And.intro (h.2 q35).1 (And.intro (h.2 q35).2.1 (Exists.intro 95 (And.intro (lf_71_33 ()) (Exists.intro 4096 (And.intro (la_95 ()) (And.intro ((h.2 q35).2.2 _ rfl).1 (And.intro ((h.2 q35).2.2 _ rfl).2.1 (And.intro (fun q36 => Exists.intro 95 (And.intro (lf_71_33 ()) (And.intro (lf_71_34 ()) (Exists.intro 95 (And.intro (lf_71_33 ()) (Exists.intro 4096 (And.intro (la_95 ()) (And.intro ((((h.2 q35).2.2 _ rfl).2.2 _ rfl).1 q36).1 (And.intro ((((h.2 q35).2.2 _ rfl).2.2 _ rfl).1 q36).2.1 (Exists.intro 4096 (And.intro (la_95 ()) (And.intro (((((h.2 q35).2.2 _ rfl).2.2 _ rfl).1 q36).2.2 _ rfl).1 (And.intro (((((h.2 q35).2.2 _ rfl).2.2 _ rfl).1 q36).2.2 _ rfl).2.1 (And.intro (lf_71_34 ()) (And.intro ((((((h.2 q35).2.2 _ rfl).2.2 _ rfl).1 q36).2.2 _ rfl).2.2 _ rfl).1 (And.intro (lf_71_34 ()) (And.intro (((((((h.2 q35).2.2 _ rfl).2.2 _ rfl).1 q36).2.2 _ rfl).2.2 _ rfl).2 _ rfl).1 ((((((((h.2 q35).2.2 _ rfl).2.2 _ rfl).1 q36).2.2 _ rfl).2.2 _ rfl).2 _ rfl).2)))))))))))))))))) (fun q37 => And.intro ((((h.2 q35).2.2 _ rfl).2.2 _ rfl).2 q37).1 (((((h.2 q35).2.2 _ rfl).2.2 _ rfl).2 q37).2))))))))))))))))
theorem en_R_knows  {n sg td wx : Nat} {w p ud ue : Nat → Nat} {S : Nat → Prop} {d : Nat} {K : qm_K} {M : qm_M}  (h :
    ((M 71 35) = 0 →
     (qMR M n w p) ∧
     (sg < 2 ∧ (0 : Int) = (sg : Int)) ∧
     (8 ≤ (8 : Nat) ∧ 85 ≠ 71 ∧ 85 ≠ 72 ∧ 85 ≠ 73 ∧ 85 ≠ 82 ∧ 85 ≠ 83 ∧ 85 ≠ 84) ∧
     (∀ (M2 : qm_M), (qAr M2 85 n (if sg = 0 then ginv n (gH n w p 0) else gH n w p 1) ∧ M2 71 24 = (gN n w p sg : Int) ∧ (∀ j, j < gN n w p sg → M2 82 j = (gtold n w p sg j : Int)) ∧ ∀ c x, c ≠ 85 → c ≠ 82 → c ≠ 83 → c ≠ 84 → c ≠ 71 ∨ x ≠ 24 → M2 c x = M c x) →
      (qMR M2 n w p) ∧
      (qAr M2 85 n (rU n w p 0)) ∧
      (∀ (M4 : qm_M), (qRp M4 n w p (rT n w p) ∧ fnF M4 M2) →
       at_R_knows_23  d K M4 0))) ∧
    (¬ (M 71 35) = 0 →
     K (.inl 0) (qL qLM) M)) : qm_Runs qm_P (d + 7) 179 [(.inr (some 71))] (qL qLM) M K :=
  And.intro (Nat.le_of_ble_eq_true rfl) (show qm_TT qi_179 (qm_Runs qm_P (d + 6)) K 0 [some (.inr (some 71)), none, none, none] [] (qL qLM) M 0 0 from qm_wp_TT [23, 46, 79, 96, 159] 40 (And.intro (lf_71_35 ()) (And.intro (fun q38 => Exists.intro 85 (And.intro (lf_71_20 ()) (And.intro (lo_71 ()) (s_R_bests (d := d + 1) (And.intro (la_85 ()) (by decide)) ((h.1 q38).1) ((h.1 q38).2.1) ((h.1 q38).2.2.1) (fun M2 p40 => And.intro (lo_71 ()) (s_R_finds (d := d + 1)  (((h.1 q38).2.2.2 M2 p40).1) (((h.1 q38).2.2.2 M2 p40).2.1) (fun M4 p41 => (((h.1 q38).2.2.2 M2 p40).2.2 M4 p41) _ _))))))) (fun q39 => (h.2 q39)))))
theorem lp_R_knows5 {d : Nat} {K : qm_K} {M0 : qm_M} {n : Nat} {w p : Nat → Nat} (hMR : qMR M0 n w p) (hK : ∀ M2 : qm_M, (rKn M2 n w p ∧ M2 71 35 ≠ 0 ∧ kF M2 M0) → K (.inl 0) (qL qLM) M2) : ∀ (j t : Nat) (M : qm_M), t + j = rT n w p → rK0 M M0 n w p → (∀ u, u < rT n w p → M 91 u = (rnd n w p u : Int)) → (∀ u, u < t → M 92 u = (rdp n w p u : Int)) → mCl M n w p (cC n w p (2 ^ t)) → at_R_knows_79 d K M (t : Int)
  | 0, t, M, ht, h0, hA, hD, hC => fun d2 d3 => by
    have ht : t = rT n w p := by omega
    subst ht
    refine rg_R_knows_79 (n := n) (sg := 0) (td := 0) (wx := 0) (w := w) (p := p) (ud := p) (ue := p) (S := fun _ => False) (And.intro (fun _ => ?_) (fun q => absurd q (by rw [h0.2.1.1]; omega))) d2 d3
    intro M10 e10
    have c10 : ∀ c, c ≠ 71 → M10 c = M c := fun c h => by rw [e10, qu_cf h]
    have h10 := rK0_keep (M2 := M10) h0 (c10 _ (by decide)) (c10 _ (by decide)) (c10 _ (by decide)) (by rw [e10, qu_k (by decide)]) (fun c y q1 q2 q3 => by
      rw [e10]
      rcases q3 with q3 | q3
      · rw [qu_c q3]
      · rw [qu_k q3.2.2.2.2])
    exact hK M10 ⟨⟨h10.1, h10.2.1, fun t ht => ⟨by rw [c10 91 (by decide)]; exact hA t ht, by rw [c10 92 (by decide)]; exact hD t ht⟩, by rw [e10, qu_k (by decide)]; exact hC.1, fun m hm => by rw [c10 95 (by decide)]; exact hC.2 m hm⟩, by rw [e10, qu_s]; decide, h10.2.2⟩
  | j + 1, t, M, ht, h0, hA, hD, hC => fun d2 d3 => by
    have hI := hMR.2.2.2
    have h4 := cN_le hI
    have h28 := (r_T hI).1
    have htT : t < rT n w p := by omega
    have ih := lp_R_knows5 (d := d) hMR hK j (t + 1)
    have hmono : ∀ a b, a ≤ b → cC n w p a ≤ cC n w p b := fun a b h => cnt_le_le _ h
    have hcN : ∀ x, x ≤ 2 ^ t → cC n w p (2 ^ t) + cnt (fun m => crd n w p t (cE n w p m)) (cC n w p x) ≤ cN n w p := fun x hx => by
      rw [← cC_hi htT x hx]
      refine hmono _ _ ?_
      have : 2 ^ (t + 1) ≤ 2 ^ rT n w p := Nat.pow_le_pow_right (by decide) htT
      rw [Nat.pow_succ] at this
      omega
    have inner : ∀ (i m : Nat) (M1 : qm_M), m + i = cC n w p (2 ^ t) → mCl M1 n w p (cC n w p (2 ^ t) + cnt (fun m => crd n w p t (cE n w p m)) m) → rK0 M1 M0 n w p → (∀ u, u < rT n w p → M1 91 u = (rnd n w p u : Int)) → (∀ u, u < t + 1 → M1 92 u = (rdp n w p u : Int)) → at_R_knows_159 d K M1 (t : Int) (cC n w p (2 ^ t) : Int) (m : Int) := by
      intro i
      induction i with
      | zero =>
        intro m M1 hm hS1 h01 hA1 hD1
        have hm : m = cC n w p (2 ^ t) := by omega
        refine rg_R_knows_159 (n := n) (sg := 0) (td := 0) (wx := 0) (w := w) (p := p) (ud := p) (ue := p) (S := fun _ => False) (And.intro (fun _ => And.intro (by unfold qm_R; omega) (ih M1 (by omega) h01 hA1 hD1 ?_)) (fun h => absurd h (by omega)))
        rw [hm, ← cC_hi htT _ (Nat.le_refl _)] at hS1
        rw [Nat.pow_succ, Nat.mul_two]
        exact hS1
      | succ i ihi =>
        intro m M1 hm hS1 h01 hA1 hD1
        have hmN : m < cN n w p := by have := hmono (2 ^ t) (2 ^ rT n w p) (Nat.pow_le_pow_right (by decide) (by omega)); unfold cN; omega
        have hs := cE_spec hmN
        have hx : cE n w p m < 2 ^ t := by
          rcases Nat.lt_or_ge (cE n w p m) (2 ^ t) with q | q
          · exact q
          · have := hmono _ _ q
            omega
        have hr : qm_R ((m : Int) + 1) := by unfold qm_R; omega
        refine rg_R_knows_159 (n := n) (sg := 0) (td := 0) (wx := 0) (w := w) (p := p) (ud := p) (ue := p) (S := fun _ => False) (And.intro (fun h => absurd h (by omega)) (fun _ => And.intro (by omega) (And.intro (by omega) ?_)))
        intro y18 e18
        rw [Int.toNat_natCast, hA1 t htT] at e18
        refine And.intro (by omega) (And.intro (by omega) ?_)
        intro y19 e19
        rw [Int.toNat_natCast, hS1.2 m (by omega)] at e19
        rw [e18, e19, lnk (rdy hI (cE_31 hI hmN))]
        refine And.intro (fun h => And.intro (by omega) (And.intro (by omega) ?_)) (fun h => And.intro hr ?_)
        · intro y6 e6
          rw [Int.toNat_natCast, hS1.2 m (by omega)] at e6
          have hk := hcN (cE n w p m + 1) (by omega)
          have h6 : cC n w p (cE n w p m + 1) = m + 1 := by
            show cnt _ _ = _
            rw [cnt_t hs.2.1]
            exact congrArg (· + 1) hs.2.2
          rw [h6, cnt_t (P := fun m => crd n w p t (cE n w p m)) h] at hk
          rw [hS1.1]
          refine And.intro (by omega) (And.intro (by omega) ?_)
          intro M7 e7
          rw [e6, or_hi hx (by omega), Int.toNat_natCast] at e7
          have e47 : M7 71 34 = ((cC n w p (2 ^ t) + cnt (fun m => crd n w p t (cE n w p m)) m : Nat) : Int) := by
            rw [e7, qu_cf (by decide)]; exact hS1.1
          refine And.intro (by rw [e47]; unfold qm_R; omega) ?_
          intro M8 e8
          have c8 : ∀ c, c ≠ 71 → c ≠ 95 → M8 c = M1 c := fun c q1 q2 => by rw [e8, qu_cf q1, e7, qu_cf q2]
          refine And.intro hr (ihi (m + 1) M8 (by omega) ?_ (rK0_keep h01 (c8 _ (by decide) (by decide)) (c8 _ (by decide) (by decide)) (c8 _ (by decide) (by decide)) (by rw [e8, qu_k (by decide), e7, qu_cf (by decide)]) (fun c y q1 q2 q3 => ?_)) (by rw [c8 91 (by decide) (by decide)]; exact hA1) (by rw [c8 92 (by decide) (by decide)]; exact hD1))
          · rw [cnt_t (P := fun m => crd n w p t (cE n w p m)) h]
            refine ⟨by rw [e8, qu_s, e47]; omega, fun a ha => ?_⟩
            rw [e8, qu_cf (by decide), e7]
            by_cases hak : a = cC n w p (2 ^ t) + cnt (fun m => crd n w p t (cE n w p m)) m
            · rw [hak, qu_s]
              have q := cC_hi htT (cE n w p m) (by omega)
              rw [hs.2.2] at q
              rw [← q, (cE_of ((cQ_hi htT hx).mpr ⟨hs.2.1, h⟩)).1]
            · rw [qu_k hak]
              exact hS1.2 a (by omega)
          · rw [e8]
            rcases q3 with q3 | q3
            · rw [qu_c q3, e7, qu_c (by omega)]
            · rw [qu_k q3.2.2.2.1, e7, qu_c (by omega)]
        · have := ihi (m + 1) M1 (by omega) (by rw [cnt_f (P := fun m => crd n w p t (cE n w p m)) h]; exact hS1) h01 hA1 hD1
          exact this
    have dep : ∀ (i a : Nat) (M1 : qm_M), a + i = t → rK0 M1 M0 n w p → (∀ u, u < rT n w p → M1 91 u = (rnd n w p u : Int)) → (∀ u, u < t → M1 92 u = (rdp n w p u : Int)) → M1 92 t = (maxN (dpf n w p t) a : Int) → mCl M1 n w p (cC n w p (2 ^ t)) → at_R_knows_96 d K M1 (t : Int) (a : Int) := by
      intro i
      induction i with
      | zero =>
        intro a M1 ha h01 hA1 hD1 hm hC1 d3
        have ha : a = t := by omega
        subst ha
        refine rg_R_knows_96 (n := n) (sg := 0) (td := 0) (wx := 0) (w := w) (p := p) (ud := p) (ue := p) (S := fun _ => False) (And.intro (fun _ => ?_) (fun h => absurd h (by omega))) d3
        rw [hC1.1]
        refine inner _ 0 M1 (Nat.zero_add _) hC1 h01 hA1 (fun u hu => ?_)
        by_cases hut : u = a
        · rw [hut, hm, rdp_eq a]
          rfl
        · exact hD1 u (by omega)
      | succ i ihd =>
        intro a M1 ha h01 hA1 hD1 hm hC1 d3
        have hr : qm_R ((a : Int) + 1) := by unfold qm_R; omega
        have hle := rdp_le (n := n) (w := w) (p := p) a
        have emx : maxN (dpf n w p t) (a + 1) = max (maxN (dpf n w p t) a) (dpf n w p t a) := rfl
        have go : ∀ (M2 : qm_M) (v : Int), M2 = qm_u M1 92 t v → v = (maxN (dpf n w p t) (a + 1) : Int) → at_R_knows_96 d K M2 (t : Int) ((a : Int) + 1) := fun M2 v e ev => by
          have c2 : ∀ c, c ≠ 92 → M2 c = M1 c := fun c q => by rw [e, qu_cf q]
          exact ihd (a + 1) M2 (by omega) (rK0_keep h01 (c2 _ (by decide)) (c2 _ (by decide)) (c2 _ (by decide)) (by rw [c2 71 (by decide)]) (fun c y q1 q2 q3 => by rw [c2 c (by omega)])) (by rw [c2 91 (by decide)]; exact hA1) (fun u hu => by rw [e, qu_k (by omega)]; exact hD1 u hu) (by rw [e, qu_s]; exact ev) ⟨by rw [c2 71 (by decide)]; exact hC1.1, by rw [c2 95 (by decide)]; exact hC1.2⟩
        have hb := (bitq (z := rnd n w p t) (t := a) rnd_lt (by omega)).1
        refine rg_R_knows_96 (n := n) (sg := 0) (td := 0) (wx := 0) (w := w) (p := p) (ud := p) (ue := p) (S := fun _ => False) (And.intro (fun h => absurd h (by omega)) (fun _ => And.intro (by omega) (And.intro (by omega) ?_))) d3
        intro y12 e12
        rw [Int.toNat_natCast, hA1 t htT] at e12
        rw [e12]
        refine And.intro (fun h => And.intro (by omega) (And.intro (by omega) ?_)) (fun h => And.intro (by omega) (And.intro (by omega) ?_))
        · intro y13 e13
          rw [Int.toNat_natCast, hm] at e13
          refine And.intro (by omega) (And.intro (by omega) ?_)
          intro y14 e14
          rw [Int.toNat_natCast, hD1 a (by omega)] at e14
          refine And.intro (by unfold qm_R; omega) (And.intro (by omega) (And.intro (by omega) ?_))
          intro M15 e15
          rw [Int.toNat_natCast] at e15
          refine And.intro hr (go M15 _ e15 ?_)
          have hd : dpf n w p t a = rdp n w p a + 1 := by
            unfold dpf
            rw [if_pos ((rnd_test hI).mp (hb.mp h))]
          rw [emx, hd, e13, e14]
          omega
        · intro y16 e16
          rw [Int.toNat_natCast, hm] at e16
          refine And.intro (by omega) (And.intro (by omega) ?_)
          intro M17 e17
          rw [Int.toNat_natCast] at e17
          refine And.intro hr (go M17 _ e17 ?_)
          have hd : dpf n w p t a = 0 := by
            unfold dpf
            rw [if_neg (fun q => h (hb.mpr ((rnd_test hI).mpr q)))]
          rw [emx, hd, e16]
          omega
    refine rg_R_knows_79 (n := n) (sg := 0) (td := 0) (wx := 0) (w := w) (p := p) (ud := p) (ue := p) (S := fun _ => False) (And.intro (fun h => absurd h (by rw [h0.2.1.1]; omega)) (fun _ => And.intro (by omega) (And.intro (by omega) ?_))) d2 d3
    intro M11 e11
    rw [Int.toNat_natCast] at e11
    have c11 : ∀ c, c ≠ 92 → M11 c = M c := fun c q => by rw [e11, qu_cf q]
    exact dep t 0 M11 (by omega) (rK0_keep h0 (c11 _ (by decide)) (c11 _ (by decide)) (c11 _ (by decide)) (by rw [c11 71 (by decide)]) (fun c y q1 q2 q3 => by rw [c11 c (by omega)])) (by rw [c11 91 (by decide)]; exact hA) (fun u hu => by rw [e11, qu_k (by omega)]; exact hD u hu) (by rw [e11, qu_s]; rfl) ⟨by rw [c11 71 (by decide)]; exact hC.1, by rw [c11 95 (by decide)]; exact hC.2⟩
theorem lp_R_knows3 {d : Nat} {K : qm_K} {M0 : qm_M} {n : Nat} {w p : Nat → Nat} (hMR : qMR M0 n w p) (hK : ∀ M2 : qm_M, (rKn M2 n w p ∧ M2 71 35 ≠ 0 ∧ kF M2 M0) → K (.inl 0) (qL qLM) M2) : ∀ (j x : Nat) (M : qm_M), x + j = rT n w p → rK0 M M0 n w p → (∀ u, u < rT n w p → rAh M n w p x u) → at_R_knows_46 d K M (x : Int)
  | 0, x, M, hx, h0, hA => fun d2 d3 => by
    have hx : x = rT n w p := by omega
    subst hx
    refine rg_R_knows_46 (n := n) (sg := 0) (td := 0) (wx := 0) (w := w) (p := p) (ud := p) (ue := p) (S := fun _ => False) (And.intro (fun _ => ?_) (fun q => absurd q (by rw [h0.2.1.1]; omega))) d2 d3
    intro M6 e6
    refine And.intro (by decide) (And.intro (by decide) ?_)
    intro M7 e7
    have c7 : ∀ c, c ≠ 71 → c ≠ 95 → M7 c = M c := fun c q1 q2 => by rw [e7, qu_cf q2, e6, qu_cf q1]
    refine lp_R_knows5 hMR hK (rT n w p) 0 M7 (by omega) (rK0_keep h0 (c7 _ (by decide) (by decide)) (c7 _ (by decide) (by decide)) (c7 _ (by decide) (by decide)) (by rw [e7, qu_cf (by decide), e6, qu_k (by decide)]) (fun c y q1 q2 q3 => ?_)) (fun u hu => ?_) (fun u hu => absurd hu (Nat.not_lt_zero _)) ?_
    · rw [e7, qu_c (by omega), e6]
      rcases q3 with q3 | q3
      · rw [qu_c q3]
      · rw [qu_k q3.2.2.2.1]
    · have := hA u hu
      unfold rAh at this
      rw [c7 91 (by decide) (by decide), this, rnd_end]
    · rw [cC_1]
      refine ⟨by rw [e7, qu_cf (by decide), e6, qu_s]; rfl, fun m hm => ?_⟩
      have : m = 0 := by omega
      subst this
      have h00 := cE_of (n := n) (w := w) (p := p) cQ_0
      have h01 : cC n w p 0 = 0 := rfl
      rw [h01] at h00
      rw [e7, h00.1]
      exact qu_s
  | j + 1, x, M, hx, h0, hA => fun d2 d3 => by
    refine rg_R_knows_46 (n := n) (sg := 0) (td := 0) (wx := x) (w := w) (p := p) (ud := p) (ue := p) (S := fun _ => False) (And.intro (fun q => absurd q (by rw [h0.2.1.1]; omega)) (fun _ => And.intro ⟨kF_MR hMR h0.2.2, h0.2.1, h0.1⟩ (And.intro ⟨by omega, rfl⟩ (And.intro hA ?_)))) d2 d3
    intro M9 h9
    refine And.intro (by have := (r_T hMR.2.2.2).1; unfold qm_R; omega) (lp_R_knows3 hMR hK j (x + 1) M9 (by omega) (rK0_keep h0 (funext fun y => h9.2 85 y (by decide) (by decide) (by decide) (by decide) (Or.inl (by decide))) (funext fun y => h9.2 90 y (by decide) (by decide) (by decide) (by decide) (Or.inl (by decide))) (funext fun y => h9.2 89 y (by decide) (by decide) (by decide) (by decide) (Or.inl (by decide))) (h9.2 71 31 (by decide) (by decide) (by decide) (by decide) (Or.inr (by decide))) (fun c y q1 q2 q3 => h9.2 c y (by omega) (by omega) (by omega) (by omega) (q3.imp id (fun q => q.2.2.1)))) h9.1)
theorem lp_R_knows2 {d : Nat} {K : qm_K} {M0 : qm_M} {n : Nat} {w p : Nat → Nat} (hMR : qMR M0 n w p) (hK : ∀ M2 : qm_M, (rKn M2 n w p ∧ M2 71 35 ≠ 0 ∧ kF M2 M0) → K (.inl 0) (qL qLM) M2) : ∀ (j x : Nat) (M : qm_M), x + j = rT n w p → rK0 M M0 n w p → (∀ u, u < x → M 91 u = 0) → at_R_knows_23 d K M (x : Int)
  | 0, x, M, hx, h0, hA => fun d2 d3 => by
    refine rg_R_knows_23 (n := n) (sg := 0) (td := 0) (wx := 0) (w := w) (p := p) (ud := p) (ue := p) (S := fun _ => False) (And.intro (fun _ => lp_R_knows3 hMR hK (rT n w p) 0 M (by omega) h0 (fun u hu => ?_)) (fun q => absurd q (by rw [h0.2.1.1]; omega))) d2 d3
    unfold rAh
    rw [hA u (by omega), bits_0 (fun t _ q => Nat.not_lt_zero _ q.2)]
    rfl
  | j + 1, x, M, hx, h0, hA => fun d2 d3 => by
    have h28 := (r_T hMR.2.2.2).1
    refine rg_R_knows_23 (n := n) (sg := 0) (td := 0) (wx := 0) (w := w) (p := p) (ud := p) (ue := p) (S := fun _ => False) (And.intro (fun q => absurd q (by rw [h0.2.1.1]; omega)) (fun _ => And.intro (by omega) (And.intro (by omega) ?_))) d2 d3
    intro M5 e5
    rw [Int.toNat_natCast] at e5
    have c5 : ∀ c, c ≠ 91 → M5 c = M c := fun c q => by rw [e5, qu_cf q]
    refine And.intro (by unfold qm_R; omega) (lp_R_knows2 hMR hK j (x + 1) M5 (by omega) (rK0_keep h0 (c5 _ (by decide)) (c5 _ (by decide)) (c5 _ (by decide)) (by rw [c5 71 (by decide)]) (fun c y q1 q2 q3 => by rw [c5 c (by omega)])) (fun u hu => ?_))
    rw [e5]
    by_cases hux : u = x
    · rw [hux, qu_s]
    · rw [qu_k hux]; exact hA u (by omega)
theorem s_R_knows  {n : Nat} {w p : Nat → Nat} {d : Nat} {K : qm_K} {M : qm_M}  (hp0 : qMR M n w p) (hp1 : M 71 35 ≠ 0 → rKn M n w p) (hK : ∀ (M2 : qm_M), (rKn M2 n w p ∧ M2 71 35 ≠ 0 ∧ kF M2 M) → K (.inl 0) (qL qLM) M2) : qm_Runs qm_P (d + 7) 179 [(.inr (some 71))] (qL qLM) M K := by
  refine en_R_knows (n := n) (sg := 0) (td := 0) (wx := 0) (w := w) (p := p) (ud := p) (ue := p) (S := fun _ => False) (And.intro (fun h0 => And.intro hp0 (And.intro ⟨by decide, rfl⟩ (And.intro ⟨by decide, by decide, by decide, by decide, by decide, by decide, by decide⟩ ?_))) (fun h0 => hK M ⟨hp1 h0, h0, fun _ _ _ _ _ => rfl⟩))
  intro M2 h2
  have m2 : qMR M2 n w p := qMR_mem hp0 (h2.2.2.2 71 0 (by decide) (by decide) (by decide) (by decide) (Or.inr (by decide))) (funext fun x => h2.2.2.2 72 x (by decide) (by decide) (by decide) (by decide) (Or.inl (by decide))) (funext fun x => h2.2.2.2 73 x (by decide) (by decide) (by decide) (by decide) (Or.inl (by decide)))
  have u2 : qAr M2 85 n (rU n w p 0) := h2.1
  refine And.intro m2 (And.intro u2 ?_)
  intro M4 h4
  refine lp_R_knows2 hp0 hK (rT n w p) 0 M4 (by omega) ⟨qAr_mem u2 (funext fun y => h4.2 85 y (by decide) (by decide) (by decide) (by decide) (by decide) (Or.inl (by decide))), h4.1, fun c y q1 q2 q3 => ?_⟩ (fun u hu => absurd hu (Nat.not_lt_zero _))
  rw [h4.2 c y (by omega) (by omega) (by omega) (by omega) (by omega) (q3.imp id (fun q => ⟨q.2.1, q.2.2.1⟩))]
  exact h2.2.2.2 c y (by omega) (by omega) (by omega) (by omega) (q3.imp id (fun q => q.1))
