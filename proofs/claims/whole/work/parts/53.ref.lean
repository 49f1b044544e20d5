/-! the reference's state -/
def hRow (M : qm_M) (c i n : Nat) (w : Nat → Nat) : Prop := (∀ s a k, s < 2 → a < n → k < n → M c (128 * i + ix s a k) = (w (ix s a k) : Int)) ∧ ∀ x, x < 128 → 0 ≤ M c (128 * i + x) ∧ M c (128 * i + x) < 8
def rHs (M : qm_M) (n : Nat) (H : Nat → Nat → Nat) (b f : Nat) : Prop := M 71 8 = (b : Int) ∧ M 71 9 = (f : Int) ∧ b + f ≤ 12 ∧ (∀ i, i < b → hRow M 76 i n (H i)) ∧ (∀ j, j < f → hRow M 77 j n (H (b + f - j))) ∧ ∀ i, i ≤ b + f → ∃ q, qInv n (H i) q
def rTp (M : qm_M) (ln : Nat) (tp : Nat → Nat) : Prop := M 71 14 = (ln : Int) ∧ ln ≤ 120 ∧ ∀ i, i < ln → M 78 i = (tp i : Int) ∧ tp i ≤ 126
def rIm (M : qm_M) (kn : Nat) (kw kp ku kv : Nat → Nat) : Prop := (kn = 0 → M 71 1 = -2) ∧ (0 < kn → M 71 1 = (kn : Int) ∧ qAt M 74 kn kw ∧ mB M 74 128 ∧ qInv kn kw kp ∧ qHa M 80 kn ku ∧ qPm kn ku kv)
def rI (M : qm_M) (n : Nat) (H : Nat → Nat → Nat) (b f : Nat) (p u v : Nat → Nat) (ln : Nat) (tp : Nat → Nat) (kn : Nat) (kw kp ku kv : Nat → Nat) : Prop := (qMR M n (H b) p ∧ mB M 72 128) ∧ (qHa M 79 n u ∧ qPm n u v) ∧ rHs M n H b f ∧ rTp M ln tp ∧ rIm M kn kw kp ku kv ∧ (M 71 35 ≠ 0 → rKn M n (H b) p)
/-- what the state lies in is as it was -/
def nF (M2 M : qm_M) : Prop := ∀ c y, c < 71 ∨ (71 < c ∧ c < 81 ∧ c ≠ 75) ∨ (c = 71 ∧ (y = 0 ∨ y = 1 ∨ y = 8 ∨ y = 9 ∨ y = 14)) → M2 c y = M c y
theorem nF_c {M2 M : qm_M} (h : nF M2 M) {c : Nat} (hc : c < 71 ∨ (71 < c ∧ c < 81 ∧ c ≠ 75)) : M2 c = M c := funext fun y => h c y (by omega)
theorem nF_mF {M2 M : qm_M} (h : mF M2 M) : nF M2 M := fun c y q => h c y (by omega) (by omega)
theorem mB_mem {M M2 : qm_M} {c N : Nat} (h : mB M c N) (e : M2 c = M c) : mB M2 c N := fun x hx => by rw [e]; exact h x hx
theorem qAt_mem {M M2 : qm_M} {c n : Nat} {w : Nat → Nat} (h : qAt M c n w) (e : M2 c = M c) : qAt M2 c n w := fun s a k hs ha hk => by rw [e]; exact h s a k hs ha hk
theorem qHa_mem {M M2 : qm_M} {c n : Nat} {u : Nat → Nat} (h : qHa M c n u) (e : M2 c = M c) : qHa M2 c n u := fun a ha => by rw [e]; exact h a ha
theorem hRow_mem {M M2 : qm_M} {c i n : Nat} {w : Nat → Nat} (h : hRow M c i n w) (e : M2 c = M c) : hRow M2 c i n w := by unfold hRow at *; rw [e]; exact h
theorem rHs_mem {M M2 : qm_M} {n b f : Nat} {H : Nat → Nat → Nat} (h : rHs M n H b f) (e1 : M2 76 = M 76) (e2 : M2 77 = M 77) (e3 : M2 71 8 = M 71 8) (e4 : M2 71 9 = M 71 9) : rHs M2 n H b f := by unfold rHs hRow at *; rw [e1, e2, e3, e4]; exact h
theorem rTp_mem {M M2 : qm_M} {ln : Nat} {tp : Nat → Nat} (h : rTp M ln tp) (e1 : M2 78 = M 78) (e2 : M2 71 14 = M 71 14) : rTp M2 ln tp := by unfold rTp at *; rw [e1, e2]; exact h
theorem rIm_mem {M M2 : qm_M} {kn : Nat} {kw kp ku kv : Nat → Nat} (h : rIm M kn kw kp ku kv) (e1 : M2 74 = M 74) (e2 : M2 80 = M 80) (e3 : M2 71 1 = M 71 1) : rIm M2 kn kw kp ku kv := by unfold rIm mB qAt qHa at *; rw [e1, e2, e3]; exact h
theorem rI_nF {M M2 : qm_M} {n b f ln kn : Nat} {H : Nat → Nat → Nat} {p u v tp kw kp ku kv : Nat → Nat} (h : rI M n H b f p u v ln tp kn kw kp ku kv) (hF : nF M2 M) (hk : M2 71 35 ≠ 0 → rKn M2 n (H b) p) : rI M2 n H b f p u v ln tp kn kw kp ku kv :=
  ⟨⟨qMR_mem h.1.1 (hF 71 0 (by omega)) (nF_c hF (by omega)) (nF_c hF (by omega)), mB_mem h.1.2 (nF_c hF (by omega))⟩, ⟨qHa_mem h.2.1.1 (nF_c hF (by omega)), h.2.1.2⟩, rHs_mem h.2.2.1 (nF_c hF (by omega)) (nF_c hF (by omega)) (hF _ _ (by omega)) (hF _ _ (by omega)), rTp_mem h.2.2.2.1 (nF_c hF (by omega)) (hF _ _ (by omega)), rIm_mem h.2.2.2.2.1 (nF_c hF (by omega)) (nF_c hF (by omega)) (hF _ _ (by omega)), hk⟩
theorem rI_mF {M M2 : qm_M} {n b f ln kn : Nat} {H : Nat → Nat → Nat} {p u v tp kw kp ku kv : Nat → Nat} (h : rI M n H b f p u v ln tp kn kw kp ku kv) (hk : M2 71 35 ≠ 0 → rKn M2 n (H b) p) (hF : mF M2 M) : rI M2 n H b f p u v ln tp kn kw kp ku kv := rI_nF h (nF_mF hF) hk
theorem cpM_L {M : qm_M} {a b x : Nat} (h : x < 128) : cpM M a 0 b 0 128 b x = M a x := cpM_0 (k := 128) h
theorem cpM_8 {M : qm_M} {a b x : Nat} (h : x < 8) : cpM M a 0 b 0 8 b x = M a x := cpM_0 (k := 8) h
def nn9 (_ : Nat) : Nat := 9
theorem qPm_nn {n : Nat} : qPm n nn9 nn9 := ⟨fun _ _ => Or.inl rfl, fun _ _ => Or.inl rfl⟩
theorem en_R_size  {n : Nat} {d : Nat} {K : qm_K} {M : qm_M} {x : Int} (h :
    ((1 ≤ x ∧ x ≤ 8) →
     ∀ (M1 : qm_M), M1 = (qm_u M 71 0 x) →
     (M1 71 0 = (n : Int) ∧ 1 ≤ n ∧ n ≤ 8) ∧
     (∀ (M3 : qm_M), (qMR M3 n idw idw ∧ mB M3 72 128 ∧ (∀ a, a < 8 → M3 79 a = -2) ∧ M3 71 8 = 0 ∧ M3 71 9 = 0 ∧ M3 71 35 = 0 ∧ ∀ c x, c ≠ 72 → c ≠ 73 → c ≠ 79 → c ≠ 71 ∨ (x ≠ 8 ∧ x ≠ 9 ∧ x ≠ 35) → M3 c x = M1 c x) →
      K (.inl ((M 71 0))) (qL qLM) M3)) ∧
    (¬ (1 ≤ x ∧ x ≤ 8) →
     K (.inl ((-1))) (qL qLM) M)) : qm_Runs qm_P (d + 3) 151 [(.inr (some 71)), (.inl x)] (qL qLM) M K :=
  And.intro (Nat.le_of_ble_eq_true rfl) (show qm_TT qi_151 (qm_Runs qm_P (d + 2)) K 0 [some (.inr (some 71)), some (.inl x), none] [] (qL qLM) M 0 0 from qm_wp_TT [] 18 (And.intro True.intro (s_R_isIn (d := d + 1)   (And.intro (fun q4 => And.intro (lf_71_0 ()) (And.intro (lf_71_0 ()) (And.intro (lo_71 ()) (s_R_begins (d := d + 0)  (((h.1 (qm_b1 q4)) _ rfl).1) (fun M3 p6 => (((h.1 (qm_b1 q4)) _ rfl).2 M3 p6)))))) (fun q5 => (h.2 (qm_b2 q5)))))))
theorem s_R_size  {n b f ln kn : Nat} {H : Nat → Nat → Nat} {p u v tp kw kp ku kv : Nat → Nat} {d : Nat} {K : qm_K} {M : qm_M} {x : Int} (hp0 : rI M n H b f p u v ln tp kn kw kp ku kv) (hK : ∀ (r : Int) (M2 : qm_M), ((1 ≤ x ∧ x ≤ 8 → r = (n : Int) ∧ rI M2 (Int.toNat x) (fun _ => idw) 0 0 idw nn9 nn9 ln tp kn kw kp ku kv) ∧ (¬ (1 ≤ x ∧ x ≤ 8) → r = -1 ∧ rI M2 n H b f p u v ln tp kn kw kp ku kv) ∧ (∀ c, c < 71 → M2 c = M c)) → K (.inl r) (qL qLM) M2) : qm_Runs qm_P (d + 3) 151 [(.inr (some 71)), (.inl x)] (qL qLM) M K := by
  refine en_R_size (n := Int.toNat x) (And.intro (fun h => ?_) (fun h => hK _ M ⟨fun q => absurd q h, fun _ => ⟨rfl, hp0⟩, fun _ _ => rfl⟩))
  intro M1 e1
  refine And.intro ⟨by rw [e1, qu_s]; omega, by omega, by omega⟩ ?_
  intro M3 q
  obtain ⟨q1, q2, q3, q4, q5, q6, q7⟩ := q
  have c3 : ∀ c, c ≠ 71 → c ≠ 72 → c ≠ 73 → c ≠ 79 → M3 c = M c := fun c h1 h2 h3 h4 => funext fun y => by rw [q7 c y h2 h3 h4 (Or.inl h1), e1, qu_c h1]
  have f3 : ∀ y, y ≠ 0 → y ≠ 8 → y ≠ 9 → y ≠ 35 → M3 71 y = M 71 y := fun y h0 h1 h2 h3 => by rw [q7 71 y (by decide) (by decide) (by decide) (Or.inr ⟨h1, h2, h3⟩), e1, qu_k h0]
  refine hK _ M3 ⟨fun _ => ⟨hp0.1.1.1, ⟨q1, q2⟩, ⟨fun a ha => q3 a (by omega), qPm_nn⟩, ⟨q4, q5, by omega, fun i hi => absurd hi (by omega), fun i hi => absurd hi (by omega), fun _ _ => ⟨idw, qInv_id (by omega)⟩⟩, rTp_mem hp0.2.2.2.1 (c3 _ (by decide) (by decide) (by decide) (by decide)) (f3 _ (by decide) (by decide) (by decide) (by decide)), rIm_mem hp0.2.2.2.2.1 (c3 _ (by decide) (by decide) (by decide) (by decide)) (c3 _ (by decide) (by decide) (by decide) (by decide)) (f3 _ (by decide) (by decide) (by decide) (by decide)), fun z => absurd q6 z⟩, fun q => absurd h q, fun c hc => c3 c (by omega) (by omega) (by omega) (by omega)⟩
theorem en_R_feed   {d : Nat} {K : qm_K} {M : qm_M} {x : Int} (h :
    ((32 ≤ x ∧ x ≤ 126) →
     ((M 71 14) ≠ 120 →
      0 ≤ (M 71 14) ∧ (M 71 14) < 120 ∧
      ∀ (M1 : qm_M), M1 = (qm_u M 78 (Int.toNat (M 71 14)) x) →
      qm_R ((M1 71 14) + 1) ∧
      ∀ (M2 : qm_M), M2 = (qm_u M1 71 14 ((M1 71 14) + 1)) →
      K (.inl ((M2 71 14))) (qL qLM) M2) ∧
     (¬ (M 71 14) ≠ 120 →
      K (.inl ((-3))) (qL qLM) M)) ∧
    (¬ (32 ≤ x ∧ x ≤ 126) →
     K (.inl ((-1))) (qL qLM) M)) : qm_Runs qm_P (d + 2) 152 [(.inr (some 71)), (.inl x)] (qL qLM) M K :=
  And.intro (Nat.le_of_ble_eq_true rfl) (show qm_TT qi_152 (qm_Runs qm_P (d + 1)) K 0 [some (.inr (some 71)), some (.inl x)] [] (qL qLM) M 0 0 from qm_wp_TT [] 27 (And.intro True.intro (s_R_isIn (d := d + 0)   (And.intro (fun q3 => And.intro (lf_71_14 ()) (And.intro (fun q5 => Exists.intro 78 (And.intro (lf_71_10 ()) (And.intro (lf_71_14 ()) (Exists.intro 120 (And.intro (la_78 ()) (And.intro ((h.1 (qm_b1 q3)).1 q5).1 (And.intro ((h.1 (qm_b1 q3)).1 q5).2.1 (And.intro (lf_71_14 ()) (And.intro (((h.1 (qm_b1 q3)).1 q5).2.2 _ rfl).1 (And.intro (lf_71_14 ()) (And.intro (lf_71_14 ()) (((((h.1 (qm_b1 q3)).1 q5).2.2 _ rfl).2 _ rfl))))))))))))) (fun q6 => ((h.1 (qm_b1 q3)).2 q6)))) (fun q4 => (h.2 (qm_b2 q4)))))))
theorem s_R_feed  {n b f ln kn : Nat} {H : Nat → Nat → Nat} {p u v tp kw kp ku kv : Nat → Nat} {d : Nat} {K : qm_K} {M : qm_M} {x : Int} (hp0 : rI M n H b f p u v ln tp kn kw kp ku kv) (hK : ∀ (r : Int) (M2 : qm_M), ((¬ (32 ≤ x ∧ x ≤ 126) → r = -1 ∧ rI M2 n H b f p u v ln tp kn kw kp ku kv) ∧ (32 ≤ x ∧ x ≤ 126 → (ln = 120 → r = -3 ∧ rI M2 n H b f p u v ln tp kn kw kp ku kv) ∧ (ln < 120 → r = ((ln + 1 : Nat) : Int) ∧ rI M2 n H b f p u v (ln + 1) (updF tp ln (Int.toNat x)) kn kw kp ku kv)) ∧ (∀ c, c < 71 → M2 c = M c)) → K (.inl r) (qL qLM) M2) : qm_Runs qm_P (d + 2) 152 [(.inr (some 71)), (.inl x)] (qL qLM) M K := by
  have hT := hp0.2.2.2.1
  have e0 := hT.1
  have h120 := hT.2.1
  refine en_R_feed (And.intro (fun h => And.intro (fun h2 => And.intro (by omega) (And.intro (by omega) ?_)) (fun h2 => hK _ M ⟨fun q => absurd h q, fun _ => ⟨fun _ => ⟨rfl, hp0⟩, fun q => absurd q (by omega)⟩, fun _ _ => rfl⟩)) (fun h => hK _ M ⟨fun _ => ⟨rfl, hp0⟩, fun q => absurd q h, fun _ _ => rfl⟩))
  intro M1 e1
  rw [e0, Int.toNat_natCast] at e1
  have g1 : M1 71 14 = (ln : Int) := by rw [e1, qu_c (by decide), e0]
  rw [g1]
  refine And.intro (by unfold qm_R; omega) ?_
  intro M2 e2
  have c2 : ∀ c, c ≠ 71 → c ≠ 78 → M2 c = M c := fun c h1 h2 => by rw [e2, qu_cf h1, e1, qu_cf h2]
  have f2 : ∀ y, y ≠ 14 → M2 71 y = M 71 y := fun y hy => by rw [e2, qu_k hy, e1, qu_c (by decide)]
  refine hK _ M2 ⟨fun q => absurd h q, fun _ => ⟨fun q => absurd q (by omega), fun _ => ⟨by rw [e2, qu_s]; omega, ⟨qMR_mem hp0.1.1 (f2 _ (by decide)) (c2 _ (by decide) (by decide)) (c2 _ (by decide) (by decide)), mB_mem hp0.1.2 (c2 _ (by decide) (by decide))⟩, ⟨qHa_mem hp0.2.1.1 (c2 _ (by decide) (by decide)), hp0.2.1.2⟩, rHs_mem hp0.2.2.1 (c2 _ (by decide) (by decide)) (c2 _ (by decide) (by decide)) (f2 _ (by decide)) (f2 _ (by decide)), ⟨by rw [e2, qu_s]; omega, by omega, fun i hi => ?_⟩, rIm_mem hp0.2.2.2.2.1 (c2 _ (by decide) (by decide)) (c2 _ (by decide) (by decide)) (f2 _ (by decide)), fun z => ?_⟩⟩, fun c hc => c2 c (by omega) (by omega)⟩
  · rw [e2, qu_c (by decide), e1]
    unfold updF
    by_cases hi2 : i = ln
    · rw [hi2, qu_s, if_pos rfl]; omega
    · rw [qu_k hi2, if_neg hi2]; exact hT.2.2 i (by omega)
  · rw [f2 35 (by decide)] at z
    have k := hp0.2.2.2.2.2 z
    unfold rKn qAr qRp qRt mCl at *
    rw [c2 85 (by decide) (by decide), c2 90 (by decide) (by decide), c2 89 (by decide) (by decide), c2 91 (by decide) (by decide), c2 92 (by decide) (by decide), c2 95 (by decide) (by decide), f2 31 (by decide), f2 34 (by decide)]
    exact k
theorem en_R_image   {d : Nat} {K : qm_K} {M : qm_M}  (h :
    ∀ (M1 : qm_M), M1 = (qm_u M 71 1 (M 71 0)) →
    (0 ≤ ((0 : Int) : Int) ∧ 0 ≤ ((0 : Int) : Int) ∧ 0 ≤ ((128 : Int) : Int) ∧ ((0 : Int) : Int) + (128 : Int) ≤ (128 : Int) ∧ ((0 : Int) : Int) + (128 : Int) ≤ (128 : Int)) ∧
    ((72 : Nat) ≠ 74 ∨ ((0 : Int) : Int) ≤ (0 : Int)) ∧
    ∀ (M2 : qm_M), M2 = (cpM M1 72 0 74 0 128) →
    (0 ≤ ((0 : Int) : Int) ∧ 0 ≤ ((0 : Int) : Int) ∧ 0 ≤ ((8 : Int) : Int) ∧ ((0 : Int) : Int) + (8 : Int) ≤ (8 : Int) ∧ ((0 : Int) : Int) + (8 : Int) ≤ (8 : Int)) ∧
    ((79 : Nat) ≠ 80 ∨ ((0 : Int) : Int) ≤ (0 : Int)) ∧
    ∀ (M3 : qm_M), M3 = (cpM M2 79 0 80 0 8) →
    K (.inl ((M3 71 0))) (qL qLM) M3) : qm_Runs qm_P (d + 2) 214 [(.inr (some 71))] (qL qLM) M K :=
  And.intro (Nat.le_of_ble_eq_true rfl) (show qm_TT qi_214 (qm_Runs qm_P (d + 1)) K 0 [some (.inr (some 71))] [] (qL qLM) M 0 0 from qm_wp_TT [] 26 (And.intro (lf_71_0 ()) (And.intro (lf_71_1 ()) (Exists.intro 72 (And.intro (lf_71_2 ()) (Exists.intro 74 (And.intro (lf_71_4 ()) (And.intro True.intro (s_R_copies (d := d + 0) (And.intro (la_72 ()) (by decide)) (And.intro (la_74 ()) (by decide)) ((h _ rfl).1) ((h _ rfl).2.1) (Exists.intro 79 (And.intro (lf_71_11 ()) (Exists.intro 80 (And.intro (lf_71_12 ()) (And.intro True.intro (s_R_copies (d := d + 0) (And.intro (la_79 ()) (by decide)) (And.intro (la_80 ()) (by decide)) (((h _ rfl).2.2 _ rfl).1) (((h _ rfl).2.2 _ rfl).2.1) (And.intro (lf_71_0 ()) ((((h _ rfl).2.2 _ rfl).2.2 _ rfl))))))))))))))))))
theorem s_R_image  {n b f ln kn : Nat} {H : Nat → Nat → Nat} {p u v tp kw kp ku kv : Nat → Nat} {d : Nat} {K : qm_K} {M : qm_M}  (hp0 : rI M n H b f p u v ln tp kn kw kp ku kv) (hK : ∀ (r : Int) (M2 : qm_M), (r = (n : Int) ∧ rI M2 n H b f p u v ln tp n (H b) p u v ∧ (∀ c, c < 71 → M2 c = M c)) → K (.inl r) (qL qLM) M2) : qm_Runs qm_P (d + 2) 214 [(.inr (some 71))] (qL qLM) M K := by
  have hI := hp0.1.1.2.2.2
  have h1 := hI.1
  have h8 := hI.2.1
  refine en_R_image ?_
  intro M1 e1
  refine And.intro (by decide) (And.intro (by decide) ?_)
  intro M2 e2
  refine And.intro (by decide) (And.intro (by decide) ?_)
  intro M3 e3
  have c3 : ∀ c, c ≠ 71 → c ≠ 74 → c ≠ 80 → M3 c = M c := fun c h1 h2 h3 => by rw [e3, cpM_c h3, e2, cpM_c h2, e1, qu_cf h1]
  have f3 : ∀ y, y ≠ 1 → M3 71 y = M 71 y := fun y hy => by rw [e3, cpM_c (by decide), e2, cpM_c (by decide), e1, qu_k hy]
  have g74 : ∀ x, x < 128 → M3 74 x = M 72 x := fun x hx => by rw [e3, cpM_c (by decide), e2, cpM_L hx, e1, qu_c (by decide)]
  have g80 : ∀ x, x < 8 → M3 80 x = M 79 x := fun x hx => by rw [e3, cpM_8 hx, e2, cpM_c (by decide), e1, qu_c (by decide)]
  have g1 : M3 71 1 = (n : Int) := by rw [e3, cpM_c (by decide), e2, cpM_c (by decide), e1, qu_s]; exact hp0.1.1.1
  refine hK _ M3 ⟨by rw [f3 0 (by decide)]; exact hp0.1.1.1, ⟨⟨qMR_mem hp0.1.1 (f3 _ (by decide)) (c3 _ (by decide) (by decide) (by decide)) (c3 _ (by decide) (by decide) (by decide)), mB_mem hp0.1.2 (c3 _ (by decide) (by decide) (by decide))⟩, ⟨qHa_mem hp0.2.1.1 (c3 _ (by decide) (by decide) (by decide)), hp0.2.1.2⟩, rHs_mem hp0.2.2.1 (c3 _ (by decide) (by decide) (by decide)) (c3 _ (by decide) (by decide) (by decide)) (f3 _ (by decide)) (f3 _ (by decide)), rTp_mem hp0.2.2.2.1 (c3 _ (by decide) (by decide) (by decide)) (f3 _ (by decide)), ⟨fun z => absurd z (by omega), fun _ => ⟨g1, fun s a k hs ha hk => by rw [g74 _ (ix_lt hs (by omega) (by omega))]; exact hp0.1.1.2.1 s a k hs ha hk, fun x hx => by rw [g74 x hx]; exact hp0.1.2 x hx, hI, fun a ha => by rw [g80 a (by omega)]; exact hp0.2.1.1 a ha, hp0.2.1.2⟩⟩, fun z => ?_⟩, fun c hc => c3 c (by omega) (by omega) (by omega)⟩
  rw [f3 35 (by decide)] at z
  have k := hp0.2.2.2.2.2 z
  unfold rKn qAr qRp qRt mCl at *
  rw [c3 85 (by decide) (by decide) (by decide), c3 90 (by decide) (by decide) (by decide), c3 89 (by decide) (by decide) (by decide), c3 91 (by decide) (by decide) (by decide), c3 92 (by decide) (by decide) (by decide), c3 95 (by decide) (by decide) (by decide), f3 31 (by decide), f3 34 (by decide)]
  exact k
theorem en_R_back  {n : Nat} {w p : Nat → Nat} {d : Nat} {K : qm_K} {M : qm_M}  (h :
    (0 ≤ (M 71 1) →
     ∀ (M1 : qm_M), M1 = (qm_u M 71 0 (M 71 1)) →
     (0 ≤ ((0 : Int) : Int) ∧ 0 ≤ ((0 : Int) : Int) ∧ 0 ≤ ((128 : Int) : Int) ∧ ((0 : Int) : Int) + (128 : Int) ≤ (128 : Int) ∧ ((0 : Int) : Int) + (128 : Int) ≤ (128 : Int)) ∧
     ((74 : Nat) ≠ 72 ∨ ((0 : Int) : Int) ≤ (0 : Int)) ∧
     ∀ (M2 : qm_M), M2 = (cpM M1 74 0 72 0 128) →
     (0 ≤ ((0 : Int) : Int) ∧ 0 ≤ ((0 : Int) : Int) ∧ 0 ≤ ((8 : Int) : Int) ∧ ((0 : Int) : Int) + (8 : Int) ≤ (8 : Int) ∧ ((0 : Int) : Int) + (8 : Int) ≤ (8 : Int)) ∧
     ((80 : Nat) ≠ 79 ∨ ((0 : Int) : Int) ≤ (0 : Int)) ∧
     ∀ (M3 : qm_M), M3 = (cpM M2 80 0 79 0 8) →
     ∀ (M4 : qm_M), M4 = (qm_u M3 71 8 0) →
     ∀ (M5 : qm_M), M5 = (qm_u M4 71 9 0) →
     (M5 71 0 = (n : Int) ∧ qAt M5 72 n w ∧ qInv n w p) ∧
     (mB M5 72 128) ∧
     (∀ (M7 : qm_M), (qMR M7 n w p ∧ M7 71 35 = 0 ∧ ∀ c x, c ≠ 73 → c ≠ 71 ∨ x ≠ 35 → M7 c x = M5 c x) →
      K (.inl ((M7 71 0))) (qL qLM) M7)) ∧
    (¬ 0 ≤ (M 71 1) →
     K (.inl ((-5))) (qL qLM) M)) : qm_Runs qm_P (d + 2) 215 [(.inr (some 71))] (qL qLM) M K :=
  And.intro (Nat.le_of_ble_eq_true rfl) (show qm_TT qi_215 (qm_Runs qm_P (d + 1)) K 0 [some (.inr (some 71))] [] (qL qLM) M 0 0 from qm_wp_TT [] 37 (And.intro (lf_71_1 ()) (And.intro (fun q8 => And.intro (lf_71_1 ()) (And.intro (lf_71_0 ()) (Exists.intro 74 (And.intro (lf_71_4 ()) (Exists.intro 72 (And.intro (lf_71_2 ()) (And.intro True.intro (s_R_copies (d := d + 0) (And.intro (la_74 ()) (by decide)) (And.intro (la_72 ()) (by decide)) (((h.1 q8) _ rfl).1) (((h.1 q8) _ rfl).2.1) (Exists.intro 80 (And.intro (lf_71_12 ()) (Exists.intro 79 (And.intro (lf_71_11 ()) (And.intro True.intro (s_R_copies (d := d + 0) (And.intro (la_80 ()) (by decide)) (And.intro (la_79 ()) (by decide)) ((((h.1 q8) _ rfl).2.2 _ rfl).1) ((((h.1 q8) _ rfl).2.2 _ rfl).2.1) (And.intro (lf_71_8 ()) (And.intro (lf_71_9 ()) (And.intro (lo_71 ()) (s_R_places (d := d + 0)  (((((((h.1 q8) _ rfl).2.2 _ rfl).2.2 _ rfl) _ rfl) _ rfl).1) (((((((h.1 q8) _ rfl).2.2 _ rfl).2.2 _ rfl) _ rfl) _ rfl).2.1) (fun M7 p10 => And.intro (lf_71_0 ()) ((((((((h.1 q8) _ rfl).2.2 _ rfl).2.2 _ rfl) _ rfl) _ rfl).2.2 M7 p10))))))))))))))))))))) (fun q9 => (h.2 q9)))))
theorem s_R_back  {n b f ln kn : Nat} {H : Nat → Nat → Nat} {p u v tp kw kp ku kv : Nat → Nat} {d : Nat} {K : qm_K} {M : qm_M}  (hp0 : rI M n H b f p u v ln tp kn kw kp ku kv) (hK : ∀ (r : Int) (M2 : qm_M), ((kn = 0 → r = -5 ∧ rI M2 n H b f p u v ln tp kn kw kp ku kv) ∧ (0 < kn → r = (kn : Int) ∧ rI M2 kn (fun _ => kw) 0 0 kp ku kv ln tp kn kw kp ku kv) ∧ (∀ c, c < 71 → M2 c = M c)) → K (.inl r) (qL qLM) M2) : qm_Runs qm_P (d + 2) 215 [(.inr (some 71))] (qL qLM) M K := by
  have hk := hp0.2.2.2.2.1
  refine en_R_back (n := kn) (w := kw) (p := kp) (And.intro (fun h => ?_) (fun h => hK _ M ⟨fun _ => ⟨rfl, hp0⟩, fun q => absurd (hk.2 q).1 (by omega), fun _ _ => rfl⟩))
  have h0 : 0 < kn := by
    rcases Nat.eq_zero_or_pos kn with q | q
    · have := hk.1 q
      omega
    · exact q
  obtain ⟨k1, k2, k3, k4, k5, k6⟩ := hk.2 h0
  have h8 := k4.2.1
  intro M1 e1
  refine And.intro (by decide) (And.intro (by decide) ?_)
  intro M2 e2
  refine And.intro (by decide) (And.intro (by decide) ?_)
  intro M3 e3 M4 e4 M5 e5
  have c5 : ∀ c, c ≠ 71 → c ≠ 72 → c ≠ 79 → M5 c = M c := fun c h1 h2 h3 => by rw [e5, qu_cf h1, e4, qu_cf h1, e3, cpM_c h3, e2, cpM_c h2, e1, qu_cf h1]
  have f5 : ∀ y, y ≠ 0 → y ≠ 8 → y ≠ 9 → M5 71 y = M 71 y := fun y h1 h2 h3 => by rw [e5, qu_k h3, e4, qu_k h2, e3, cpM_c (by decide), e2, cpM_c (by decide), e1, qu_k h1]
  have g72 : ∀ x, x < 128 → M5 72 x = M 74 x := fun x hx => by rw [e5, qu_c (by decide), e4, qu_c (by decide), e3, cpM_c (by decide), e2, cpM_L hx, e1, qu_c (by decide)]
  have g79 : ∀ x, x < 8 → M5 79 x = M 80 x := fun x hx => by rw [e5, qu_c (by decide), e4, qu_c (by decide), e3, cpM_8 hx, e2, cpM_c (by decide), e1, qu_c (by decide)]
  have g0 : M5 71 0 = (kn : Int) := by rw [e5, qu_k (by decide), e4, qu_k (by decide), e3, cpM_c (by decide), e2, cpM_c (by decide), e1, qu_s]; exact k1
  have b5 : mB M5 72 128 := fun x hx => by rw [g72 x hx]; exact k3 x hx
  refine And.intro ⟨g0, fun s a k hs ha hk => by rw [g72 _ (ix_lt hs (by omega) (by omega))]; exact k2 s a k hs ha hk, k4⟩ (And.intro b5 ?_)
  intro M7 q
  obtain ⟨q1, q2, q3⟩ := q
  have c7 : ∀ c, c ≠ 71 → c ≠ 72 → c ≠ 73 → c ≠ 79 → M7 c = M c := fun c h1 h2 h3 h4 => funext fun y => by rw [q3 c y h3 (Or.inl h1), c5 c h1 h2 h4]
  have f7 : ∀ y, y ≠ 0 → y ≠ 8 → y ≠ 9 → y ≠ 35 → M7 71 y = M 71 y := fun y h1 h2 h3 h4 => by rw [q3 71 y (by decide) (Or.inr h4), f5 y h1 h2 h3]
  refine hK _ M7 ⟨fun z => absurd z (by omega), fun _ => ⟨q1.1, ⟨q1, fun x hx => by rw [q3 72 x (by decide) (Or.inl (by decide))]; exact b5 x hx⟩, ⟨fun a ha => by rw [q3 79 a (by decide) (Or.inl (by decide)), g79 a (by omega)]; exact k5 a ha, k6⟩, ⟨?_, ?_, by omega, fun i hi => absurd hi (by omega), fun i hi => absurd hi (by omega), fun _ _ => ⟨kp, k4⟩⟩, rTp_mem hp0.2.2.2.1 (c7 _ (by decide) (by decide) (by decide) (by decide)) (f7 _ (by decide) (by decide) (by decide) (by decide)), rIm_mem hk (c7 _ (by decide) (by decide) (by decide) (by decide)) (c7 _ (by decide) (by decide) (by decide) (by decide)) (f7 _ (by decide) (by decide) (by decide) (by decide)), fun z => absurd q2 z⟩, fun c hc => c7 c (by omega) (by omega) (by omega) (by omega)⟩
  · rw [q3 71 8 (by decide) (Or.inr (by decide)), e5, qu_k (by decide), e4, qu_s]; rfl
  · rw [q3 71 9 (by decide) (Or.inr (by decide)), e5, qu_s]; rfl
