/-! the lists that a text tells -/
def lnW (n : Nat) (B w : Nat → Nat) : Nat → Nat := fun y => if y / 8 = 8 * sd B + (B 1 - 48) ∧ y % 8 < n then B (3 + y % 8) - 48 else w y
noncomputable def lnL (n : Nat) (B p : Nat → Nat) : Nat → Nat := fun y => if y / 8 = 8 * sd B + (B 1 - 48) then lst (fun k => B (3 + k) - 48 = y % 8) n else p y
theorem ln_ok {n : Nat} {B : Nat → Nat} (h : lnF n B = n + 3) : dgt n (B 1) ∧ (∀ k, k < n → dgt n (B (3 + k))) ∧ ∀ i k, i < k → k < n → B (3 + i) ≠ B (3 + k) := by
  have no : ∀ o, o < n + 3 → ¬ lnBad n B o := fun o ho => lst_not (P := lnBad n B) (N := n + 3) (by unfold lnF at h; omega)
  refine ⟨Classical.byContradiction fun q => no 1 (by omega) (Or.inr (Or.inl ⟨rfl, q⟩)), fun k hk => Classical.byContradiction fun q => no (3 + k) (by omega) (Or.inr (Or.inr (Or.inr ⟨by omega, Or.inl q⟩))), fun i k hi hk q => no (3 + k) (by omega) (Or.inr (Or.inr (Or.inr ⟨by omega, Or.inr ⟨3 + i, by omega, by omega, q⟩⟩)))⟩
theorem sd_lt (B : Nat → Nat) : sd B < 2 := by unfold sd; split <;> omega
theorem qInv_ln {n : Nat} {B w p : Nat → Nat} (hl : lnF n B = n + 3) (hI : qInv n w p) : qInv n (lnW n B w) (lnL n B p) := by
  obtain ⟨d1, d2, d3⟩ := ln_ok hl
  have h8 := hI.2.1
  refine ⟨hI.1, h8, fun s a hs ha k hk => ?_⟩
  have hd : ∀ j, j < 8 → ix s a j / 8 = 8 * s + a ∧ ix s a j % 8 = j := fun j hj => by unfold ix; omega
  by_cases q : 8 * s + a = 8 * sd B + (B 1 - 48)
  · have ew : ∀ j, j < n → lnW n B w (ix s a j) = B (3 + j) - 48 := fun j hj => by
      have := hd j (by omega)
      unfold lnW
      rw [if_pos ⟨by omega, by omega⟩, this.2]
    have ep : ∀ j, j < n → lnL n B p (ix s a j) = lst (fun k => B (3 + k) - 48 = j) n := fun j hj => by
      have := hd j (by omega)
      unfold lnL
      rw [if_pos (by omega), this.2]
    have inj : ∀ i j, i < n → j < n → B (3 + i) - 48 = B (3 + j) - 48 → i = j := fun i j hi hj e => by
      have g1 := d2 i hi
      have g2 := d2 j hj
      unfold dgt at g1 g2
      rcases Nat.lt_trichotomy i j with z | z | z
      · exact absurd (by omega) (d3 i j z hj)
      · exact z
      · exact absurd (by omega) (d3 j i z hi)
    have bd : ∀ i, i < n → B (3 + i) - 48 < n := fun i hi => by have := d2 i hi; unfold dgt at this; omega
    rw [ew k hk, ep k hk]
    have hx : lst (fun j => B (3 + j) - 48 = k) n < n := by
      obtain ⟨j, hj, e⟩ := pigeon n (fun j => B (3 + j) - 48) bd inj k hk
      rcases Nat.lt_or_ge (lst (fun j => B (3 + j) - 48 = k) n) n with z | z
      · exact z
      · exact absurd e (lst_not (P := fun j => B (3 + j) - 48 = k) (N := n) (show j < _ by omega))
    refine ⟨bd k hk, ?_, hx, ?_⟩
    · rw [ep _ (bd k hk)]
      exact lst_eq hk rfl (fun j hj e => by have := inj j k (by omega) hk e; omega)
    · rw [ew _ hx]
      exact lst_P (P := fun j => B (3 + j) - 48 = k) hx
  · have ew : ∀ j, j < 8 → lnW n B w (ix s a j) = w (ix s a j) := fun j hj => by
      have := hd j hj
      unfold lnW
      rw [if_neg (fun z => q (by omega))]
    have ep : ∀ j, j < 8 → lnL n B p (ix s a j) = p (ix s a j) := fun j hj => by
      have := hd j hj
      unfold lnL
      rw [if_neg (fun z => q (by omega))]
    have g := hI.2.2 s a hs ha k hk
    rw [ew k (by omega), ep _ (by omega), ep k (by omega), ew _ (by omega)]
    exact g
def wL (n ln : Nat) (tp w : Nat → Nat) : Nat → Nat → Nat
  | 0 => w
  | i + 1 => lnW n (btA ln tp (i * (n + 4))) (wL n ln tp w i)
noncomputable def pL (n ln : Nat) (tp p : Nat → Nat) : Nat → Nat → Nat
  | 0 => p
  | i + 1 => lnL n (btA ln tp (i * (n + 4))) (pL n ln tp p i)
def lsOk (n ln : Nat) (tp : Nat → Nat) (i : Nat) : Prop := lnF n (btA ln tp (i * (n + 4))) = n + 3 ∧ btA ln tp (i * (n + 4)) (n + 3) = 59
noncomputable def lsI (n ln : Nat) (tp : Nat → Nat) : Nat := lst (fun i => ¬ lsOk n ln tp i) 40
noncomputable def lsE (n ln : Nat) (tp : Nat → Nat) : Int := if lnF n (btA ln tp (lsI n ln tp * (n + 4))) < n + 3 then -100 - ((lsI n ln tp * (n + 4) + lnF n (btA ln tp (lsI n ln tp * (n + 4))) : Nat) : Int) else if lsI n ln tp * (n + 4) + (n + 3) = ln then (lsI n ln tp : Int) + 1 else -100 - ((lsI n ln tp * (n + 4) + (n + 3) : Nat) : Int)
theorem lnF_le (n : Nat) (B : Nat → Nat) : lnF n B ≤ n + 3 := lst_le _ _
theorem lsI_bad {n ln i : Nat} {tp : Nat → Nat} (hi : i < 40) (h : ∀ j, j < i → lsOk n ln tp j) (hb : lnF n (btA ln tp (i * (n + 4))) < n + 3) : lsI n ln tp = i ∧ lsE n ln tp = -100 - ((i * (n + 4) + lnF n (btA ln tp (i * (n + 4))) : Nat) : Int) := by
  have e : lsI n ln tp = i := lst_eq hi (fun z => by have := z.1; omega) (fun j hj z => z (h j hj))
  refine ⟨e, ?_⟩
  unfold lsE
  rw [e, if_pos hb]
theorem lsI_end {n ln i : Nat} {tp : Nat → Nat} (hi : i < 40) (h : ∀ j, j < i → lsOk n ln tp j) (hb : lnF n (btA ln tp (i * (n + 4))) = n + 3) (hs : btA ln tp (i * (n + 4)) (n + 3) ≠ 59) : lsI n ln tp = i ∧ lsE n ln tp = if i * (n + 4) + (n + 3) = ln then (i : Int) + 1 else -100 - ((i * (n + 4) + (n + 3) : Nat) : Int) := by
  have e : lsI n ln tp = i := lst_eq hi (fun z => hs z.2) (fun j hj z => z (h j hj))
  refine ⟨e, ?_⟩
  unfold lsE
  rw [e, if_neg (by omega)]
theorem qInv_L {n ln : Nat} {tp w p : Nat → Nat} (hI : qInv n w p) : ∀ i, (∀ j, j < i → lnF n (btA ln tp (j * (n + 4))) = n + 3) → qInv n (wL n ln tp w i) (pL n ln tp p i)
  | 0, _ => hI
  | i + 1, h => qInv_ln (h i (by omega)) (qInv_L hI i (fun j hj => h j (by omega)))
theorem lnC_at {M M0 : qm_M} {n : Nat} {B w : Nat → Nat} (h8 : n ≤ 8) (h : ∀ y, M 75 y = lnC B M0 n y) (hl : lnF n B = n + 3) (hw : qAt M0 75 n w) (hB : mB M0 75 128) : qAt M 75 n (lnW n B w) ∧ mB M 75 128 := by
  obtain ⟨d1, d2, d3⟩ := ln_ok hl
  refine ⟨fun s a k hs ha hk => ?_, fun x hx => ?_⟩
  · rw [h]
    unfold lnC lnW
    split
    · rfl
    · exact hw s a k hs ha hk
  · rw [h]
    unfold lnC
    split
    · rename_i q
      have := d2 (x % 8) q.2
      unfold dgt at this
      omega
    · exact hB x hx
def at_R_lists_32  (d : Nat) (K : qm_K) (M : qm_M) (x1 : Int) : Prop := qm_TT qi_158 (qm_Runs qm_P (d + 4)) K 32 [some (.inr (some 71)), some (.inl x1)] [] (qL qLM) M 0 0
theorem rg_R_lists_32  {n ln b f : Nat} {tp : Nat → Nat} {H : Nat → Nat → Nat} {w p : Nat → Nat} {d : Nat} {K : qm_K} {M : qm_M} {x1 : Int} (h :
    (0 ≤ (M 71 16) →
     ∀ (M6 : qm_M), M6 = (qm_u M 71 14 0) →
     ((M6 71 16) < 0 →
      (M6 71 0 = (n : Int) ∧ qAt M6 72 n (H b) ∧ mB M6 72 128) ∧
      (rHs M6 n H b f) ∧
      (qAt M6 75 n w ∧ qInv n w p ∧ mB M6 75 128) ∧
      (∀ (M8 : qm_M), (qMR M8 n w p ∧ mB M8 72 128 ∧ rHs M8 n (nH H b w) (nB b) 0 ∧ M8 71 35 = 0 ∧ chF M8 M6) →
       K (.inl x1) (qL qLM) M8)) ∧
     (¬ (M6 71 16) < 0 →
      qm_R ((-100) - (M6 71 16)) ∧
      K (.inl (((-100) - (M6 71 16)))) (qL qLM) M6)) ∧
    (¬ 0 ≤ (M 71 16) →
     ((M 71 14) ≤ (M 71 15) →
      ∀ (M9 : qm_M), M9 = (qm_u M 71 14 0) →
      ((M9 71 16) < 0 →
       (M9 71 0 = (n : Int) ∧ qAt M9 72 n (H b) ∧ mB M9 72 128) ∧
       (rHs M9 n H b f) ∧
       (qAt M9 75 n w ∧ qInv n w p ∧ mB M9 75 128) ∧
       (∀ (M11 : qm_M), (qMR M11 n w p ∧ mB M11 72 128 ∧ rHs M11 n (nH H b w) (nB b) 0 ∧ M11 71 35 = 0 ∧ chF M11 M9) →
        K (.inl x1) (qL qLM) M11)) ∧
      (¬ (M9 71 16) < 0 →
       qm_R ((-100) - (M9 71 16)) ∧
       K (.inl (((-100) - (M9 71 16)))) (qL qLM) M9)) ∧
     (¬ (M 71 14) ≤ (M 71 15) →
      (psP M n ln tp) ∧
      (32 ≤ ((59 : Int) : Int)) ∧
      (∀ (r12 : Int) (M13 : qm_M), ((M 71 16 < 0 ∧ (bt ln tp (Int.toNat (M 71 15)) : Int) = 59 → r12 = 1 ∧ M13 71 15 = M 71 15 + 1 ∧ M13 71 16 = M 71 16) ∧ (¬ (M 71 16 < 0 ∧ (bt ln tp (Int.toNat (M 71 15)) : Int) = 59) → r12 = 0 ∧ M13 71 15 = M 71 15 ∧ M13 71 16 = fq (M 71 16) (M 71 15)) ∧ psF M13 M) →
       (r12 = 0 →
        at_R_lists_32  d K M13 x1) ∧
       (¬ r12 = 0 →
        (psP M13 n ln tp) ∧
        (M13 71 16 = -1) ∧
        (∀ (M15 : qm_M), (lnPost M15 M13 n ln tp (Int.toNat (M13 71 15))) →
         qm_R (x1 + 1) ∧
         at_R_lists_32  d K M15 ((x1 + 1)))))))) : at_R_lists_32  d K M x1 :=
  qm_wp_TT [32] 22 (And.intro (lf_71_16 ()) (And.intro (fun q16 => And.intro (lf_71_14 ()) (And.intro (lf_71_16 ()) (And.intro (fun q18 => And.intro (lo_71 ()) (s_R_changes (d := d + 2)  ((((h.1 q16) _ rfl).1 q18).1) ((((h.1 q16) _ rfl).1 q18).2.1) ((((h.1 q16) _ rfl).1 q18).2.2.1) (fun M8 p20 => ((((h.1 q16) _ rfl).1 q18).2.2.2 M8 p20)))) (fun q19 => And.intro (lf_71_16 ()) (And.intro (((h.1 q16) _ rfl).2 q19).1 ((((h.1 q16) _ rfl).2 q19).2)))))) (fun q17 => And.intro (lf_71_15 ()) (And.intro (lf_71_14 ()) (And.intro (fun q21 => And.intro (lf_71_14 ()) (And.intro (lf_71_16 ()) (And.intro (fun q23 => And.intro (lo_71 ()) (s_R_changes (d := d + 2)  (((((h.2 q17).1 q21) _ rfl).1 q23).1) (((((h.2 q17).1 q21) _ rfl).1 q23).2.1) (((((h.2 q17).1 q21) _ rfl).1 q23).2.2.1) (fun M11 p25 => (((((h.2 q17).1 q21) _ rfl).1 q23).2.2.2 M11 p25)))) (fun q24 => And.intro (lf_71_16 ()) (And.intro ((((h.2 q17).1 q21) _ rfl).2 q24).1 (((((h.2 q17).1 q21) _ rfl).2 q24).2)))))) (fun q22 => And.intro (lo_71 ()) (s_R_takes (d := d + 1)  (((h.2 q17).2 q22).1) (((h.2 q17).2 q22).2.1) (fun r12 M13 p26 => And.intro (fun q27 => ((((h.2 q17).2 q22).2.2 r12 M13 p26).1 q27)) (fun q28 => And.intro (lo_71 ()) (s_R_line (d := d + 0)  (((((h.2 q17).2 q22).2.2 r12 M13 p26).2 q28).1) (((((h.2 q17).2 q22).2.2 r12 M13 p26).2 q28).2.1) (fun M15 p29 => And.intro (((((h.2 q17).2 q22).2.2 r12 M13 p26).2 q28).2.2 M15 p29).1 ((((((h.2 q17).2 q22).2.2 r12 M13 p26).2 q28).2.2 M15 p29).2))))))))))))
theorem en_R_lists  {n ln b f : Nat} {tp : Nat → Nat} {H : Nat → Nat → Nat} {w p : Nat → Nat} {d : Nat} {K : qm_K} {M : qm_M}  (h :
    ∀ (M1 : qm_M), M1 = (qm_u M 71 15 0) →
    ∀ (M2 : qm_M), M2 = (qm_u M1 71 16 (-1)) →
    (0 ≤ ((0 : Int) : Int) ∧ 0 ≤ ((0 : Int) : Int) ∧ 0 ≤ ((128 : Int) : Int) ∧ ((0 : Int) : Int) + (128 : Int) ≤ (128 : Int) ∧ ((0 : Int) : Int) + (128 : Int) ≤ (128 : Int)) ∧
    ((72 : Nat) ≠ 75 ∨ ((0 : Int) : Int) ≤ (0 : Int)) ∧
    ∀ (M3 : qm_M), M3 = (cpM M2 72 0 75 0 128) →
    (psP M3 n ln tp) ∧
    (M3 71 16 = -1) ∧
    (∀ (M5 : qm_M), (lnPost M5 M3 n ln tp (Int.toNat (M3 71 15))) →
     at_R_lists_32  d K M5 1)) : qm_Runs qm_P (d + 5) 158 [(.inr (some 71))] (qL qLM) M K :=
  And.intro (Nat.le_of_ble_eq_true rfl) (show qm_TT qi_158 (qm_Runs qm_P (d + 4)) K 0 [some (.inr (some 71)), none] [] (qL qLM) M 0 0 from qm_wp_TT [32] 22 (And.intro (lf_71_15 ()) (And.intro (lf_71_16 ()) (Exists.intro 72 (And.intro (lf_71_2 ()) (Exists.intro 75 (And.intro (lf_71_5 ()) (And.intro True.intro (s_R_copies (d := d + 3) (And.intro (la_72 ()) (by decide)) (And.intro (la_75 ()) (by decide)) (((h _ rfl) _ rfl).1) (((h _ rfl) _ rfl).2.1) (And.intro (lo_71 ()) (s_R_line (d := d + 0)  ((((h _ rfl) _ rfl).2.2 _ rfl).1) ((((h _ rfl) _ rfl).2.2 _ rfl).2.1) (fun M5 p30 => ((((h _ rfl) _ rfl).2.2 _ rfl).2.2 M5 p30)))))))))))))
theorem f_R_lists {K : qm_K} {M0 : qm_M} {n b f ln kn : Nat} {H : Nat → Nat → Nat} {p u v tp kw kp ku kv : Nat → Nat} (hI0 : rI M0 n H b f p u v ln tp kn kw kp ku kv) (hK : ∀ (r : Int) (M2 : qm_M), (r = lsE n ln tp ∧ (lsE n ln tp < 0 → rI M2 n H b f p u v 0 tp kn kw kp ku kv) ∧ (0 ≤ lsE n ln tp → rI M2 n (nH H b (wL n ln tp (H b) (lsI n ln tp + 1))) (nB b) 0 (pL n ln tp p (lsI n ln tp + 1)) u v 0 tp kn kw kp ku kv) ∧ ∀ c, c < 71 → M2 c = M0 c) → K (.inl r) (qL qLM) M2) {M : qm_M} (hF : LF M M0) (h16 : 0 ≤ M 71 16 ∧ M 71 16 ≤ 100000) (he : lsE n ln tp = -100 - M 71 16) (X : qm_M → Prop) : ∀ M6 : qm_M, M6 = qm_u M 71 14 0 → (M6 71 16 < 0 → X M6) ∧ (¬ M6 71 16 < 0 → qm_R (-100 - M6 71 16) ∧ K (.inl (-100 - M6 71 16)) (qL qLM) M6) := fun M6 e6 => by
  have f16 : M6 71 16 = M 71 16 := by rw [e6, qu_k (by decide)]
  have c6 : ∀ c, c ≠ 71 → c ≠ 75 → M6 c = M0 c := fun c h1 h2 => by rw [e6, qu_cf h1]; exact funext fun y => hF c y h2 (Or.inl h1)
  have f6 : ∀ y, y ≠ 14 → y ≠ 15 → y ≠ 16 → M6 71 y = M0 71 y := fun y h1 h2 h3 => by rw [e6, qu_k h1]; exact hF 71 y (by decide) (Or.inr ⟨h2, h3⟩)
  refine ⟨fun z => absurd z (by omega), fun _ => ⟨by rw [f16]; unfold qm_R; omega, hK _ M6 ⟨by rw [f16, he], fun _ => ?_, fun z => absurd z (by omega), fun c hc => c6 c (by omega) (by omega)⟩⟩⟩
  refine ⟨⟨qMR_mem hI0.1.1 (f6 _ (by decide) (by decide) (by decide)) (c6 _ (by decide) (by decide)) (c6 _ (by decide) (by decide)), mB_mem hI0.1.2 (c6 _ (by decide) (by decide))⟩, ⟨qHa_mem hI0.2.1.1 (c6 _ (by decide) (by decide)), hI0.2.1.2⟩, rHs_mem hI0.2.2.1 (c6 _ (by decide) (by decide)) (c6 _ (by decide) (by decide)) (f6 _ (by decide) (by decide) (by decide)) (f6 _ (by decide) (by decide) (by decide)), ⟨by rw [e6, qu_s]; rfl, by omega, fun i hi => absurd hi (Nat.not_lt_zero _)⟩, rIm_mem hI0.2.2.2.2.1 (c6 _ (by decide) (by decide)) (c6 _ (by decide) (by decide)) (f6 _ (by decide) (by decide) (by decide)), fun z => ?_⟩
  rw [f6 35 (by decide) (by decide) (by decide)] at z
  exact rKn_keep (hI0.2.2.2.2.2 z) (c6 _ (by decide) (by decide)) (c6 _ (by decide) (by decide)) (c6 _ (by decide) (by decide)) (c6 _ (by decide) (by decide)) (c6 _ (by decide) (by decide)) (c6 _ (by decide) (by decide)) (f6 _ (by decide) (by decide) (by decide)) (f6 _ (by decide) (by decide) (by decide))
theorem lp_R_lists {d : Nat} {K : qm_K} {M0 : qm_M} {n b f ln kn : Nat} {H : Nat → Nat → Nat} {p u v tp kw kp ku kv : Nat → Nat} (hI0 : rI M0 n H b f p u v ln tp kn kw kp ku kv) (hK : ∀ (r : Int) (M2 : qm_M), (r = lsE n ln tp ∧ (lsE n ln tp < 0 → rI M2 n H b f p u v 0 tp kn kw kp ku kv) ∧ (0 ≤ lsE n ln tp → rI M2 n (nH H b (wL n ln tp (H b) (lsI n ln tp + 1))) (nB b) 0 (pL n ln tp p (lsI n ln tp + 1)) u v 0 tp kn kw kp ku kv) ∧ ∀ c, c < 71 → M2 c = M0 c) → K (.inl r) (qL qLM) M2) : ∀ (j i : Nat) (M3 M : qm_M), i + j = 40 → LF M3 M0 → qAt M3 75 n (wL n ln tp (H b) i) → mB M3 75 128 → (∀ j, j < i → lsOk n ln tp j) → i * (n + 4) ≤ 120 → lnPost M M3 n ln tp (i * (n + 4)) → at_R_lists_32 d K M ((i : Int) + 1)
  | j, i, M3, M, hj, hF3, h75, hB75, hok, ha120, hP => by
    have hI := hI0.1.1.2.2.2
    have h1 := hI.1
    have h8 := hI.2.1
    obtain ⟨p1, p2, p3, p4⟩ := hP
    have h15 := p1.2.2.2.2.2.2
    have hl120 := p1.2.2.2.2.1
    have hFM : LF M M0 := fun c y g1 g2 => by rw [p2 c y g1 g2]; exact hF3 c y g1 g2
    have i40 : i < 40 := by
      have : i * 5 ≤ i * (n + 4) := Nat.mul_le_mul_left _ (by omega)
      omega
    rcases Nat.lt_or_ge (lnF n (btA ln tp (i * (n + 4)))) (n + 3) with hb | hb
    · have g := p4 hb
      have e := lsI_bad i40 hok hb
      exact rg_R_lists_32 (n := n) (ln := ln) (b := b) (f := f) (tp := tp) (H := H) (w := p) (p := p) (And.intro (fun _ => f_R_lists hI0 hK hFM (by omega) (by rw [e.2, g]) _) (fun z => absurd (by omega) z))
    · have hl : lnF n (btA ln tp (i * (n + 4))) = n + 3 := Nat.le_antisymm (lnF_le _ _) hb
      obtain ⟨g1, g2, g3⟩ := p3 hl
      obtain ⟨a75, b75⟩ := lnC_at h8 g3 hl h75 hB75
      refine rg_R_lists_32 (n := n) (ln := ln) (b := b) (f := f) (tp := tp) (H := H) (w := wL n ln tp (H b) (i + 1)) (p := pL n ln tp p (i + 1)) (And.intro (fun z => absurd z (by omega)) (fun _ => And.intro (fun hend => ?_) (fun hmore => And.intro p1 (And.intro (by decide) ?_))))
      · rw [p1.2.2.2.1] at hend
        have hs : btA ln tp (i * (n + 4)) (n + 3) ≠ 59 := by
          unfold btA bt
          rw [if_neg (by omega)]
          decide
        obtain ⟨e1, e2⟩ := lsI_end i40 hok hl hs
        rw [if_pos (by omega)] at e2
        intro M9 e9
        have f16 : M9 71 16 = M 71 16 := by rw [e9, qu_k (by decide)]
        have c9 : ∀ c, c ≠ 71 → c ≠ 75 → M9 c = M0 c := fun c h1 h2 => by rw [e9, qu_cf h1]; exact funext fun y => hFM c y h2 (Or.inl h1)
        have f9 : ∀ y, y ≠ 14 → y ≠ 15 → y ≠ 16 → M9 71 y = M0 71 y := fun y h1 h2 h3 => by rw [e9, qu_k h1]; exact hFM 71 y (by decide) (Or.inr ⟨h2, h3⟩)
        have e75 : M9 75 = M 75 := by rw [e9, qu_cf (by decide)]
        have hIL := qInv_L (ln := ln) (tp := tp) hI (i + 1) (fun j hj => by
          by_cases z : j = i
          · rw [z]; exact hl
          · exact (hok j (by omega)).1)
        refine And.intro (fun _ => And.intro ⟨by rw [f9 0 (by decide) (by decide) (by decide)]; exact hI0.1.1.1, qAt_mem hI0.1.1.2.1 (c9 72 (by decide) (by decide)), mB_mem hI0.1.2 (c9 72 (by decide) (by decide))⟩ (And.intro (rHs_mem hI0.2.2.1 (c9 _ (by decide) (by decide)) (c9 _ (by decide) (by decide)) (f9 _ (by decide) (by decide) (by decide)) (f9 _ (by decide) (by decide) (by decide))) (And.intro ⟨qAt_mem a75 e75, hIL, mB_mem b75 e75⟩ ?_))) (fun z => absurd (by omega) z)
        intro M8 q8
        obtain ⟨t1, t2, t3, t4, t5⟩ := q8
        refine hK _ M8 ⟨by rw [e2], fun z => absurd z (by omega), fun _ => ?_, fun c hc => by rw [show M8 c = M9 c from funext fun y => t5 c y (by omega) (by omega) (by omega) (Or.inl (by omega))]; exact c9 c (by omega) (by omega)⟩
        have c8 : ∀ c, c ≠ 71 → c ≠ 72 → c ≠ 73 → c ≠ 75 → c ≠ 76 → M8 c = M0 c := fun c u1 u2 u3 u4 u5 => by rw [show M8 c = M9 c from funext fun y => t5 c y u2 u3 u5 (Or.inl u1)]; exact c9 c u1 u4
        rw [e1]
        refine ⟨⟨by rw [nH_top]; exact t1, t2⟩, ⟨qHa_mem hI0.2.1.1 (c8 _ (by decide) (by decide) (by decide) (by decide) (by decide)), hI0.2.1.2⟩, t3, ⟨?_, by omega, fun i hi => absurd hi (Nat.not_lt_zero _)⟩, rIm_mem hI0.2.2.2.2.1 (c8 _ (by decide) (by decide) (by decide) (by decide) (by decide)) (c8 _ (by decide) (by decide) (by decide) (by decide) (by decide)) ?_, fun z => absurd t4 z⟩
        · rw [t5 71 14 (by decide) (by decide) (by decide) (Or.inr (by decide)), e9, qu_s]; rfl
        · rw [t5 71 1 (by decide) (by decide) (by decide) (Or.inr (by decide)), f9 1 (by decide) (by decide) (by decide)]
      · intro r12 M13 q
        obtain ⟨t1, t2, t3⟩ := q
        have hB : bt ln tp (Int.toNat (M 71 15)) = btA ln tp (i * (n + 4)) (n + 3) := by rw [g2, Int.toNat_natCast]; rfl
        rw [p1.2.2.2.1] at hmore
        rw [hB] at t1 t2
        have hF13 : LF M13 M0 := fun c y u1 u2 => by rw [t3 c y u2]; exact hFM c y u1 u2
        by_cases hs : btA ln tp (i * (n + 4)) (n + 3) = 59
        · obtain ⟨v1, v2, v3⟩ := t1 ⟨by omega, by omega⟩
          have hmul : (i + 1) * (n + 4) = i * (n + 4) + (n + 4) := Nat.succ_mul _ _
          have p13 : psP M13 n ln tp := psP_F p1 t3 (by omega)
          refine And.intro (fun z => absurd z (by omega)) (fun _ => And.intro p13 (And.intro (by omega) ?_))
          intro M15 q15
          rw [show Int.toNat (M13 71 15) = (i + 1) * (n + 4) by omega] at q15
          refine And.intro (by unfold qm_R; omega) ?_
          have e75 : M13 75 = M 75 := funext fun y => t3 75 y (Or.inl (by decide))
          cases j with
          | zero => omega
          | succ j =>
            exact lp_R_lists hI0 hK j (i + 1) M13 M15 (by omega) hF13 (qAt_mem a75 e75) (mB_mem b75 e75) (fun j hj => by
              by_cases z : j = i
              · rw [z]; exact ⟨hl, hs⟩
              · exact hok j (by omega)) (by omega) q15
        · obtain ⟨v1, v2, v3⟩ := t2 (fun z => hs (by have := z.2; omega))
          unfold fq at v3
          rw [if_pos (by omega)] at v3
          obtain ⟨e1, e2⟩ := lsI_end i40 hok hl hs
          rw [if_neg (by omega)] at e2
          exact And.intro (fun _ => rg_R_lists_32 (n := n) (ln := ln) (b := b) (f := f) (tp := tp) (H := H) (w := p) (p := p) (And.intro (fun _ => f_R_lists hI0 hK hF13 (by omega) (by rw [e2, v3, g2]) _) (fun z => absurd (by omega) z))) (fun z => absurd v1 z)
theorem s_R_lists  {n b f ln kn : Nat} {H : Nat → Nat → Nat} {p u v tp kw kp ku kv : Nat → Nat} {d : Nat} {K : qm_K} {M : qm_M}  (hp0 : rI M n H b f p u v ln tp kn kw kp ku kv) (hK : ∀ (r : Int) (M2 : qm_M), (r = lsE n ln tp ∧ (lsE n ln tp < 0 → rI M2 n H b f p u v 0 tp kn kw kp ku kv) ∧ (0 ≤ lsE n ln tp → rI M2 n (nH H b (wL n ln tp (H b) (lsI n ln tp + 1))) (nB b) 0 (pL n ln tp p (lsI n ln tp + 1)) u v 0 tp kn kw kp ku kv) ∧ (∀ c, c < 71 → M2 c = M c)) → K (.inl r) (qL qLM) M2) : qm_Runs qm_P (d + 5) 158 [(.inr (some 71))] (qL qLM) M K := by
  have hI := hp0.1.1.2.2.2
  have h1 := hI.1
  have h8 := hI.2.1
  have htp := hp0.2.2.2.1
  refine en_R_lists (n := n) (ln := ln) (b := b) (f := f) (tp := tp) (H := H) (w := p) (p := p) ?_
  intro M1 e1 M2 e2
  refine And.intro (by decide) (And.intro (Or.inl (by decide)) ?_)
  intro M3 e3
  have hF3 : LF M3 M := fun c y u1 u2 => by
    rw [e3, cpM_c u1, e2, e1]
    rcases u2 with u2 | u2
    · rw [qu_c u2, qu_c u2]
    · rw [qu_k u2.2, qu_k u2.1]
  have f15 : M3 71 15 = 0 := by rw [e3, cpM_c (by decide), e2, qu_k (by decide), e1, qu_s]
  have f16 : M3 71 16 = -1 := by rw [e3, cpM_c (by decide), e2, qu_s]
  have e72 : M2 72 = M 72 := by rw [e2, qu_cf (by decide), e1, qu_cf (by decide)]
  have p3 : psP M3 n ln tp := ⟨by rw [hF3 71 0 (by decide) (Or.inr (by decide))]; exact hp0.1.1.1, h1, h8, by rw [hF3 71 14 (by decide) (Or.inr (by decide))]; exact htp.1, htp.2.1, fun i hi => by rw [hF3 78 i (by decide) (Or.inl (by decide))]; exact htp.2.2 i hi, by omega, by omega⟩
  refine And.intro p3 (And.intro f16 ?_)
  intro M5 q5
  rw [f15] at q5
  exact lp_R_lists (d := d) hp0 hK 40 0 M3 M5 (by omega) hF3 (fun s a k q1 q2 q3 => by rw [e3, cpM_L (ix_lt q1 (by omega) (by omega)), e72]; exact hp0.1.1.2.1 s a k q1 q2 q3) (fun x hx => by rw [e3, cpM_L hx, e72]; exact hp0.1.2 x hx) (fun j hj => absurd hj (Nat.not_lt_zero _)) (by omega) (by rw [Nat.zero_mul]; exact q5)
