/-! class and reference side by side -/
def bI (M : qm_M) : Prop := ∃ (n b f ln kn : Nat) (H : Nat → Nat → Nat) (p u v tp kw kp ku kv : Nat → Nat), cI M n H b f p u v ln tp kn kw kp ku kv ∧ rI M n H b f p u v ln tp kn kw kp ku kv
theorem rI_c {M M2 : qm_M} {n b f ln kn : Nat} {H : Nat → Nat → Nat} {p u v tp kw kp ku kv : Nat → Nat} (h : rI M n H b f p u v ln tp kn kw kp ku kv) (e : ∀ c, 71 ≤ c → M2 c = M c) : rI M2 n H b f p u v ln tp kn kw kp ku kv := by
  refine ⟨⟨qMR_mem h.1.1 (by rw [e 71 (by decide)]) (e _ (by decide)) (e _ (by decide)), mB_mem h.1.2 (e _ (by decide))⟩, ⟨qHa_mem h.2.1.1 (e _ (by decide)), h.2.1.2⟩, rHs_mem h.2.2.1 (e _ (by decide)) (e _ (by decide)) (by rw [e 71 (by decide)]) (by rw [e 71 (by decide)]), rTp_mem h.2.2.2.1 (e _ (by decide)) (by rw [e 71 (by decide)]), rIm_mem h.2.2.2.2.1 (e _ (by decide)) (e _ (by decide)) (by rw [e 71 (by decide)]), fun z => ?_⟩
  rw [e 71 (by decide)] at z
  exact rKn_keep (h.2.2.2.2.2 z) (e _ (by decide)) (e _ (by decide)) (e _ (by decide)) (e _ (by decide)) (e _ (by decide)) (e _ (by decide)) (by rw [e 71 (by decide)]) (by rw [e 71 (by decide)])
theorem cI_r {M M2 : qm_M} {n b f ln kn : Nat} {H : Nat → Nat → Nat} {p u v tp kw kp ku kv : Nat → Nat} (h : cI M n H b f p u v ln tp kn kw kp ku kv) (e : ∀ c, c < 71 → M2 c = M c) : cI M2 n H b f p u v ln tp kn kw kp ku kv := by
  refine ⟨qLR_mem h.1 (e _ (by decide)) (e _ (by decide)) (e _ (by decide)), qPR_mem h.2.1 (e _ (by decide)), qY_mem h.2.2.1 (e _ (by decide)) (e _ (by decide)), cTp_mem h.2.2.2.1 (e _ (by decide)) (e _ (by decide)), cIm_mem h.2.2.2.2.1 (e _ (by decide)) (e _ (by decide)) (e _ (by decide)) (e _ (by decide)) (e _ (by decide)), fun z => ?_⟩
  rw [e 0 (by decide)] at z
  have := h.2.2.2.2.2 z
  exact ⟨qTn_mem this.1 (e _ (by decide)) (e _ (by decide)) (e _ (by decide)) (e _ (by decide)) (e _ (by decide)) (e _ (by decide)) (e _ (by decide)), qMs_mem this.2 (e _ (by decide)) (e _ (by decide)) (e _ (by decide))⟩
theorem mF_lo {M M2 : qm_M} (h : mF M2 M) : ∀ c, c < 71 → M2 c = M c := fun c hc => funext fun y => h c y (by omega) (by omega)
theorem qcF_hi {M M2 : qm_M} (h : qcF M2 M) : ∀ c, 71 ≤ c → M2 c = M c := fun c hc => funext fun y => h c y (by omega) (by omega)
/-- a call of both: the same answer, and the state is one again -/
def Jt (y1 y2 : Nat) (a : List qm_V) : Prop := ∀ (d : Nat) (M : qm_M), bI M → ∃ A : Int → qm_M → Prop, (∀ K : qm_K, (∀ r M1, A r M1 → K (.inl r) (qL qLM) M1) → qm_Runs qm_P (d + 12) y1 (.inr (some 0) :: a) (qL qLM) M K) ∧ ∀ r M1, A r M1 → ∀ K : qm_K, (∀ M2, bI M2 → K (.inl r) (qL qLM) M2) → qm_Runs qm_P (d + 12) y2 (.inr (some 71) :: a) (qL qLM) M1 K
theorem j_best {x y z : Int} : Jt 105 170 [.inl x, .inl y, .inl z] := fun d M h => by
  obtain ⟨n, b, f, ln, kn, H, p, u, v, tp, kw, kp, ku, kv, hc, hr⟩ := h
  refine ⟨fun r M1 => r = anBest n (H b) p x y z ∧ cI M1 n H b f p u v ln tp kn kw kp ku kv ∧ rI M1 n H b f p u v ln tp kn kw kp ku kv, fun K hk => ?_, fun r M1 q K hk => ?_⟩
  · exact s_C_best (T := qLM) (d := d + 6) hc.1 hc.2.2.2.2.2 (fun r M1 q => hk r M1 ⟨q.1, cI_F hc q.2.2 q.2.1, rI_c hr (qcF_hi q.2.2)⟩)
  · obtain ⟨e, hc1, hr1⟩ := q
    refine s_R_best (d := d + 6) hr1.1.1 hr1.2.2.2.2.2 (fun r2 M2 q => ?_)
    rw [q.1, ← e]
    exact hk M2 ⟨n, b, f, ln, kn, H, p, u, v, tp, kw, kp, ku, kv, cI_r hc1 (mF_lo q.2.2), rI_mF hr1 q.2.1 q.2.2⟩
theorem j_asking {x y : Int} : Jt 106 171 [.inl x, .inl y] := fun d M h => by
  obtain ⟨n, b, f, ln, kn, H, p, u, v, tp, kw, kp, ku, kv, hc, hr⟩ := h
  refine ⟨fun r M1 => r = anAsking n (H b) p x y ∧ cI M1 n H b f p u v ln tp kn kw kp ku kv ∧ rI M1 n H b f p u v ln tp kn kw kp ku kv, fun K hk => ?_, fun r M1 q K hk => ?_⟩
  · exact s_C_asking (T := qLM) (d := d + 6) hc.1 hc.2.2.2.2.2 (fun r M1 q => hk r M1 ⟨q.1, cI_F hc q.2.2 q.2.1, rI_c hr (qcF_hi q.2.2)⟩)
  · obtain ⟨e, hc1, hr1⟩ := q
    refine s_R_asking (d := d + 7) hr1.1.1 hr1.2.2.2.2.2 (fun r2 M2 q => ?_)
    rw [q.1, ← e]
    exact hk M2 ⟨n, b, f, ln, kn, H, p, u, v, tp, kw, kp, ku, kv, cI_r hc1 (mF_lo q.2.2), rI_mF hr1 q.2.1 q.2.2⟩
theorem j_rounds {x : Int} : Jt 107 180 [.inl x] := fun d M h => by
  obtain ⟨n, b, f, ln, kn, H, p, u, v, tp, kw, kp, ku, kv, hc, hr⟩ := h
  refine ⟨fun r M1 => r = anRounds n (H b) p x ∧ cI M1 n H b f p u v ln tp kn kw kp ku kv ∧ rI M1 n H b f p u v ln tp kn kw kp ku kv, fun K hk => ?_, fun r M1 q K hk => ?_⟩
  · exact s_C_rounds (T := qLM) (d := d + 5) hc.1 hc.2.2.2.2.2 (fun r M1 q => hk r M1 ⟨q.1, cI_F hc q.2.2 q.2.1, rI_c hr (qcF_hi q.2.2)⟩)
  · obtain ⟨e, hc1, hr1⟩ := q
    refine s_R_rounds (d := d + 4) hr1.1.1 hr1.2.2.2.2.2 (fun r2 M2 q => ?_)
    rw [q.1, ← e]
    exact hk M2 ⟨n, b, f, ln, kn, H, p, u, v, tp, kw, kp, ku, kv, cI_r hc1 (mF_lo q.2.2), rI_mF hr1 q.2.1 q.2.2⟩
theorem j_pair {x y : Int} : Jt 108 181 [.inl x, .inl y] := fun d M h => by
  obtain ⟨n, b, f, ln, kn, H, p, u, v, tp, kw, kp, ku, kv, hc, hr⟩ := h
  refine ⟨fun r M1 => r = anPair n (H b) p x y ∧ cI M1 n H b f p u v ln tp kn kw kp ku kv ∧ rI M1 n H b f p u v ln tp kn kw kp ku kv, fun K hk => ?_, fun r M1 q K hk => ?_⟩
  · exact s_C_pair (T := qLM) (d := d + 5) hc.1 hc.2.2.2.2.2 (fun r M1 q => hk r M1 ⟨q.1, cI_F hc q.2.2 q.2.1, rI_c hr (qcF_hi q.2.2)⟩)
  · obtain ⟨e, hc1, hr1⟩ := q
    refine s_R_pair (d := d + 4) hr1.1.1 hr1.2.2.2.2.2 (fun r2 M2 q => ?_)
    rw [q.1, ← e]
    exact hk M2 ⟨n, b, f, ln, kn, H, p, u, v, tp, kw, kp, ku, kv, cI_r hc1 (mF_lo q.2.2), rI_mF hr1 q.2.1 q.2.2⟩
theorem j_ahead {x : Int} : Jt 109 182 [.inl x] := fun d M h => by
  obtain ⟨n, b, f, ln, kn, H, p, u, v, tp, kw, kp, ku, kv, hc, hr⟩ := h
  refine ⟨fun r M1 => r = anAhead n (H b) p x ∧ cI M1 n H b f p u v ln tp kn kw kp ku kv ∧ rI M1 n H b f p u v ln tp kn kw kp ku kv, fun K hk => ?_, fun r M1 q K hk => ?_⟩
  · exact s_C_ahead (T := qLM) (d := d + 5) hc.1 hc.2.2.2.2.2 (fun r M1 q => hk r M1 ⟨q.1, cI_F hc q.2.2 q.2.1, rI_c hr (qcF_hi q.2.2)⟩)
  · obtain ⟨e, hc1, hr1⟩ := q
    refine s_R_ahead (d := d + 4) hr1.1.1 hr1.2.2.2.2.2 (fun r2 M2 q => ?_)
    rw [q.1, ← e]
    exact hk M2 ⟨n, b, f, ln, kn, H, p, u, v, tp, kw, kp, ku, kv, cI_r hc1 (mF_lo q.2.2), rI_mF hr1 q.2.1 q.2.2⟩
theorem j_of {x y : Int} : Jt 110 184 [.inl x, .inl y] := fun d M h => by
  obtain ⟨n, b, f, ln, kn, H, p, u, v, tp, kw, kp, ku, kv, hc, hr⟩ := h
  refine ⟨fun r M1 => r = anOf n (H b) p x y ∧ cI M1 n H b f p u v ln tp kn kw kp ku kv ∧ rI M1 n H b f p u v ln tp kn kw kp ku kv, fun K hk => ?_, fun r M1 q K hk => ?_⟩
  · exact s_C_of (T := qLM) (d := d + 5) hc.1 hc.2.2.2.2.2 (fun r M1 q => hk r M1 ⟨q.1, cI_F hc q.2.2 q.2.1, rI_c hr (qcF_hi q.2.2)⟩)
  · obtain ⟨e, hc1, hr1⟩ := q
    refine s_R_of (d := d + 4) hr1.1.1 hr1.2.2.2.2.2 (fun r2 M2 q => ?_)
    rw [q.1, ← e]
    exact hk M2 ⟨n, b, f, ln, kn, H, p, u, v, tp, kw, kp, ku, kv, cI_r hc1 (mF_lo q.2.2), rI_mF hr1 q.2.1 q.2.2⟩
theorem j_exposed {x : Int} : Jt 111 189 [.inl x] := fun d M h => by
  obtain ⟨n, b, f, ln, kn, H, p, u, v, tp, kw, kp, ku, kv, hc, hr⟩ := h
  refine ⟨fun r M1 => r = anExposed n (H b) p x ∧ cI M1 n H b f p u v ln tp kn kw kp ku kv ∧ rI M1 n H b f p u v ln tp kn kw kp ku kv, fun K hk => ?_, fun r M1 q K hk => ?_⟩
  · exact s_C_exposed (T := qLM) (d := d + 5) hc.1 hc.2.2.2.2.2 (fun r M1 q => hk r M1 ⟨q.1, cI_F hc q.2.2 q.2.1, rI_c hr (qcF_hi q.2.2)⟩)
  · obtain ⟨e, hc1, hr1⟩ := q
    refine s_R_exposed (d := d + 3) hr1.1.1 hr1.2.2.2.2.2 (fun r2 M2 q => ?_)
    rw [q.1, ← e]
    exact hk M2 ⟨n, b, f, ln, kn, H, p, u, v, tp, kw, kp, ku, kv, cI_r hc1 (mF_lo q.2.2), rI_mF hr1 q.2.1 q.2.2⟩
theorem j_match {x : Int} : Jt 112 190 [.inl x] := fun d M h => by
  obtain ⟨n, b, f, ln, kn, H, p, u, v, tp, kw, kp, ku, kv, hc, hr⟩ := h
  refine ⟨fun r M1 => r = anMatch n (H b) p x ∧ cI M1 n H b f p u v ln tp kn kw kp ku kv ∧ rI M1 n H b f p u v ln tp kn kw kp ku kv, fun K hk => ?_, fun r M1 q K hk => ?_⟩
  · exact s_C_match (T := qLM) (d := d + 5) hc.1 hc.2.2.2.2.2 (fun r M1 q => hk r M1 ⟨q.1, cI_F hc q.2.2 q.2.1, rI_c hr (qcF_hi q.2.2)⟩)
  · obtain ⟨e, hc1, hr1⟩ := q
    refine s_R_match (d := d + 4) hr1.1.1 hr1.2.2.2.2.2 (fun r2 M2 q => ?_)
    rw [q.1, ← e]
    exact hk M2 ⟨n, b, f, ln, kn, H, p, u, v, tp, kw, kp, ku, kv, cI_r hc1 (mF_lo q.2.2), rI_mF hr1 q.2.1 q.2.2⟩
theorem j_has {x y z : Int} : Jt 113 191 [.inl x, .inl y, .inl z] := fun d M h => by
  obtain ⟨n, b, f, ln, kn, H, p, u, v, tp, kw, kp, ku, kv, hc, hr⟩ := h
  refine ⟨fun r M1 => r = anHas n (H b) p x y z ∧ cI M1 n H b f p u v ln tp kn kw kp ku kv ∧ rI M1 n H b f p u v ln tp kn kw kp ku kv, fun K hk => ?_, fun r M1 q K hk => ?_⟩
  · exact s_C_has (T := qLM) (d := d + 5) hc.1 hc.2.2.2.2.2 (fun r M1 q => hk r M1 ⟨q.1, cI_F hc q.2.2 q.2.1, rI_c hr (qcF_hi q.2.2)⟩)
  · obtain ⟨e, hc1, hr1⟩ := q
    refine s_R_has2 (d := d + 3) hr1.1.1 hr1.2.2.2.2.2 (fun r2 M2 q => ?_)
    rw [q.1, ← e]
    exact hk M2 ⟨n, b, f, ln, kn, H, p, u, v, tp, kw, kp, ku, kv, cI_r hc1 (mF_lo q.2.2), rI_mF hr1 q.2.1 q.2.2⟩
theorem j_cost {x y : Int} : Jt 114 193 [.inl x, .inl y] := fun d M h => by
  obtain ⟨n, b, f, ln, kn, H, p, u, v, tp, kw, kp, ku, kv, hc, hr⟩ := h
  refine ⟨fun r M1 => r = anCost n (H b) p x y ∧ cI M1 n H b f p u v ln tp kn kw kp ku kv ∧ rI M1 n H b f p u v ln tp kn kw kp ku kv, fun K hk => ?_, fun r M1 q K hk => ?_⟩
  · exact s_C_cost (T := qLM) (d := d + 5) hc.1 hc.2.2.2.2.2 (fun r M1 q => hk r M1 ⟨q.1, cI_F hc q.2.2 q.2.1, rI_c hr (qcF_hi q.2.2)⟩)
  · obtain ⟨e, hc1, hr1⟩ := q
    refine s_R_cost (d := d + 3) hr1.1.1 hr1.2.2.2.2.2 (fun r2 M2 q => ?_)
    rw [q.1, ← e]
    exact hk M2 ⟨n, b, f, ln, kn, H, p, u, v, tp, kw, kp, ku, kv, cI_r hc1 (mF_lo q.2.2), rI_mF hr1 q.2.1 q.2.2⟩
theorem j_pick {x : Int} : Jt 115 194 [.inl x] := fun d M h => by
  obtain ⟨n, b, f, ln, kn, H, p, u, v, tp, kw, kp, ku, kv, hc, hr⟩ := h
  refine ⟨fun r M1 => r = anPick n (H b) p x ∧ cI M1 n H b f p u v ln tp kn kw kp ku kv ∧ rI M1 n H b f p u v ln tp kn kw kp ku kv, fun K hk => ?_, fun r M1 q K hk => ?_⟩
  · exact s_C_pick (T := qLM) (d := d + 5) hc.1 hc.2.2.2.2.2 (fun r M1 q => hk r M1 ⟨q.1, cI_F hc q.2.2 q.2.1, rI_c hr (qcF_hi q.2.2)⟩)
  · obtain ⟨e, hc1, hr1⟩ := q
    refine s_R_pick (d := d + 4) hr1.1.1 hr1.2.2.2.2.2 (fun r2 M2 q => ?_)
    rw [q.1, ← e]
    exact hk M2 ⟨n, b, f, ln, kn, H, p, u, v, tp, kw, kp, ku, kv, cI_r hc1 (mF_lo q.2.2), rI_mF hr1 q.2.1 q.2.2⟩
theorem j_most : Jt 116 195 [] := fun d M h => by
  obtain ⟨n, b, f, ln, kn, H, p, u, v, tp, kw, kp, ku, kv, hc, hr⟩ := h
  refine ⟨fun r M1 => r = anMost n (H b) p ∧ cI M1 n H b f p u v ln tp kn kw kp ku kv ∧ rI M1 n H b f p u v ln tp kn kw kp ku kv, fun K hk => ?_, fun r M1 q K hk => ?_⟩
  · exact s_C_most (T := qLM) (d := d + 5) hc.1 hc.2.2.2.2.2 (fun r M1 q => hk r M1 ⟨q.1, cI_F hc q.2.2 q.2.1, rI_c hr (qcF_hi q.2.2)⟩)
  · obtain ⟨e, hc1, hr1⟩ := q
    refine s_R_most (d := d + 4) hr1.1.1 hr1.2.2.2.2.2 (fun r2 M2 q => ?_)
    rw [q.1, ← e]
    exact hk M2 ⟨n, b, f, ln, kn, H, p, u, v, tp, kw, kp, ku, kv, cI_r hc1 (mF_lo q.2.2), rI_mF hr1 q.2.1 q.2.2⟩
theorem j_either {x y z : Int} : Jt 117 196 [.inl x, .inl y, .inl z] := fun d M h => by
  obtain ⟨n, b, f, ln, kn, H, p, u, v, tp, kw, kp, ku, kv, hc, hr⟩ := h
  refine ⟨fun r M1 => r = eiA n (H b) p x y z ∧ cI M1 n H b f p u v ln tp kn kw kp ku kv ∧ rI M1 n H b f p u v ln tp kn kw kp ku kv, fun K hk => ?_, fun r M1 q K hk => ?_⟩
  · exact s_C_either (T := qLM) (d := d + 5) hc.1 hc.2.2.2.2.2 (fun r M1 q => hk r M1 ⟨q.1, cI_F hc q.2.2 q.2.1, rI_c hr (qcF_hi q.2.2)⟩)
  · obtain ⟨e, hc1, hr1⟩ := q
    refine s_R_either (d := d + 3) hr1.1.1 hr1.2.2.2.2.2 (fun r2 M2 q => ?_)
    rw [q.1, ← e]
    exact hk M2 ⟨n, b, f, ln, kn, H, p, u, v, tp, kw, kp, ku, kv, cI_r hc1 (mF_lo q.2.2), rI_mF hr1 q.2.1 q.2.2⟩
theorem j_middle {x y z : Int} : Jt 118 197 [.inl x, .inl y, .inl z] := fun d M h => by
  obtain ⟨n, b, f, ln, kn, H, p, u, v, tp, kw, kp, ku, kv, hc, hr⟩ := h
  refine ⟨fun r M1 => r = anMiddle n (H b) p x y z ∧ cI M1 n H b f p u v ln tp kn kw kp ku kv ∧ rI M1 n H b f p u v ln tp kn kw kp ku kv, fun K hk => ?_, fun r M1 q K hk => ?_⟩
  · exact s_C_middle (T := qLM) (d := d + 5) hc.1 hc.2.2.2.2.2 (fun r M1 q => hk r M1 ⟨q.1, cI_F hc q.2.2 q.2.1, rI_c hr (qcF_hi q.2.2)⟩)
  · obtain ⟨e, hc1, hr1⟩ := q
    refine s_R_middle (d := d + 3) hr1.1.1 hr1.2.2.2.2.2 (fun r2 M2 q => ?_)
    rw [q.1, ← e]
    exact hk M2 ⟨n, b, f, ln, kn, H, p, u, v, tp, kw, kp, ku, kv, cI_r hc1 (mF_lo q.2.2), rI_mF hr1 q.2.1 q.2.2⟩
theorem j_may {x y : Int} : Jt 119 198 [.inl x, .inl y] := fun d M h => by
  obtain ⟨n, b, f, ln, kn, H, p, u, v, tp, kw, kp, ku, kv, hc, hr⟩ := h
  refine ⟨fun r M1 => r = anMay n (H b) p x y ∧ cI M1 n H b f p u v ln tp kn kw kp ku kv ∧ rI M1 n H b f p u v ln tp kn kw kp ku kv, fun K hk => ?_, fun r M1 q K hk => ?_⟩
  · exact s_C_may (T := qLM) (d := d + 5) hc.1 hc.2.2.2.2.2 (fun r M1 q => hk r M1 ⟨q.1, cI_F hc q.2.2 q.2.1, rI_c hr (qcF_hi q.2.2)⟩)
  · obtain ⟨e, hc1, hr1⟩ := q
    refine s_R_may (d := d + 4) hr1.1.1 hr1.2.2.2.2.2 (fun r2 M2 q => ?_)
    rw [q.1, ← e]
    exact hk M2 ⟨n, b, f, ln, kn, H, p, u, v, tp, kw, kp, ku, kv, cI_r hc1 (mF_lo q.2.2), rI_mF hr1 q.2.1 q.2.2⟩
theorem j_fixed : Jt 120 199 [] := fun d M h => by
  obtain ⟨n, b, f, ln, kn, H, p, u, v, tp, kw, kp, ku, kv, hc, hr⟩ := h
  refine ⟨fun r M1 => r = anFixed n (H b) p ∧ cI M1 n H b f p u v ln tp kn kw kp ku kv ∧ rI M1 n H b f p u v ln tp kn kw kp ku kv, fun K hk => ?_, fun r M1 q K hk => ?_⟩
  · exact s_C_fixed (T := qLM) (d := d + 5) hc.1 hc.2.2.2.2.2 (fun r M1 q => hk r M1 ⟨q.1, cI_F hc q.2.2 q.2.1, rI_c hr (qcF_hi q.2.2)⟩)
  · obtain ⟨e, hc1, hr1⟩ := q
    refine s_R_fixed (d := d + 3) hr1.1.1 hr1.2.2.2.2.2 (fun r2 M2 q => ?_)
    rw [q.1, ← e]
    exact hk M2 ⟨n, b, f, ln, kn, H, p, u, v, tp, kw, kp, ku, kv, cI_r hc1 (mF_lo q.2.2), rI_mF hr1 q.2.1 q.2.2⟩
theorem j_text {x y : Int} : Jt 122 203 [.inl x, .inl y] := fun d M h => by
  obtain ⟨n, b, f, ln, kn, H, p, u, v, tp, kw, kp, ku, kv, hc, hr⟩ := h
  refine ⟨fun r M1 => r = anText n (H b) p x y ∧ cI M1 n H b f p u v ln tp kn kw kp ku kv ∧ rI M1 n H b f p u v ln tp kn kw kp ku kv, fun K hk => ?_, fun r M1 q K hk => ?_⟩
  · exact s_C_text (T := qLM) (d := d + 5) hc.1 hc.2.2.2.2.2 (fun r M1 q => hk r M1 ⟨q.1, cI_F hc q.2.2 q.2.1, rI_c hr (qcF_hi q.2.2)⟩)
  · obtain ⟨e, hc1, hr1⟩ := q
    refine s_R_text (d := d + 3) hr1.1.1 hr1.2.2.2.2.2 (fun r2 M2 q => ?_)
    rw [q.1, ← e]
    exact hk M2 ⟨n, b, f, ln, kn, H, p, u, v, tp, kw, kp, ku, kv, cI_r hc1 (mF_lo q.2.2), rI_mF hr1 q.2.1 q.2.2⟩
theorem j_known : Jt 128 213 [] := fun d M h => by
  obtain ⟨n, b, f, ln, kn, H, p, u, v, tp, kw, kp, ku, kv, hc, hr⟩ := h
  refine ⟨fun r M1 => rNum n (H b) p u r ∧ cI M1 n H b f p u v ln tp kn kw kp ku kv ∧ rI M1 n H b f p u v ln tp kn kw kp ku kv, fun K hk => ?_, fun r M1 q K hk => ?_⟩
  · exact s_C_known (T := qLM) (d := d + 5) hc.1 hc.2.2.2.2.2 hc.2.1 (fun r M1 q => hk r M1 ⟨q.1, cI_F hc q.2.2 q.2.1, rI_c hr (qcF_hi q.2.2)⟩)
  · obtain ⟨e, hc1, hr1⟩ := q
    refine s_R_known (d := d + 3) hr1 (fun r2 M2 q => ?_)
    rw [rNum_uq hc.1.2.2.2 q.1 e]
    exact hk M2 ⟨n, b, f, ln, kn, H, p, u, v, tp, kw, kp, ku, kv, cI_r hc1 (mF_lo q.2.2), rI_mF hr1 q.2.1 q.2.2⟩
theorem j_list {x y z : Int} : Jt 100 159 [.inl x, .inl y, .inl z] := fun d M h => by
  obtain ⟨n, b, f, ln, kn, H, p, u, v, tp, kw, kp, ku, kv, hc, hr⟩ := h
  refine ⟨fun r M1 => r = anList n (H b) x y z ∧ M1 = M, fun K hk => ?_, fun r M1 q K hk => ?_⟩
  · exact s_C_list (T := qLM) (d := d + 9) hc (fun r q => hk r M ⟨q, rfl⟩)
  · obtain ⟨e, rfl⟩ := q
    refine s_R_list (d := d + 9) hr.1.1 ?_
    intro r2 q
    rw [q, ← e]
    exact hk _ ⟨n, b, f, ln, kn, H, p, u, v, tp, kw, kp, ku, kv, hc, hr⟩
theorem j_handed {x : Int} : Jt 124 207 [.inl x] := fun d M h => by
  obtain ⟨n, b, f, ln, kn, H, p, u, v, tp, kw, kp, ku, kv, hc, hr⟩ := h
  refine ⟨fun r M1 => r = anHanded n u x ∧ M1 = M, fun K hk => ?_, fun r M1 q K hk => ?_⟩
  · exact s_C_handed (T := qLM) (d := d + 9) hc (fun r q => hk r M ⟨q, rfl⟩)
  · obtain ⟨e, rfl⟩ := q
    refine s_R_handed (d := d + 9) ⟨hr.1.1.1, hr.1.1.2.2.2.1, hr.1.1.2.2.2.2.1, hr.2.1.1⟩ ?_
    intro r2 q
    rw [q, ← e]
    exact hk _ ⟨n, b, f, ln, kn, H, p, u, v, tp, kw, kp, ku, kv, hc, hr⟩
theorem j_blocks : Jt 125 210 [] := fun d M h => by
  obtain ⟨n, b, f, ln, kn, H, p, u, v, tp, kw, kp, ku, kv, hc, hr⟩ := h
  refine ⟨fun r M1 => r = fbz n p u v ∧ M1 = M, fun K hk => ?_, fun r M1 q K hk => ?_⟩
  · exact s_C_blocks (T := qLM) (d := d + 6) hc (fun r q => hk r M ⟨q, rfl⟩)
  · obtain ⟨e, rfl⟩ := q
    refine s_R_blocks (d := d + 6) hr ?_
    intro r2 q
    rw [q, ← e]
    exact hk _ ⟨n, b, f, ln, kn, H, p, u, v, tp, kw, kp, ku, kv, hc, hr⟩
theorem j_blocking : Jt 126 211 [] := fun d M h => by
  obtain ⟨n, b, f, ln, kn, H, p, u, v, tp, kw, kp, ku, kv, hc, hr⟩ := h
  refine ⟨fun r M1 => r = (nbk n p u v : Int) ∧ M1 = M, fun K hk => ?_, fun r M1 q K hk => ?_⟩
  · exact s_C_blocking (T := qLM) (d := d + 6) hc (fun r q => hk r M ⟨q, rfl⟩)
  · obtain ⟨e, rfl⟩ := q
    refine s_R_blocking (d := d + 7) hr ?_
    intro r2 q
    rw [q, ← e]
    exact hk _ ⟨n, b, f, ln, kn, H, p, u, v, tp, kw, kp, ku, kv, hc, hr⟩
theorem j_count {x : Int} : Jt 131 216 [.inl x] := fun d M h => by
  obtain ⟨n, b, f, ln, kn, H, p, u, v, tp, kw, kp, ku, kv, hc, hr⟩ := h
  refine ⟨fun r M1 => r = anCount n ln b f u x ∧ M1 = M, fun K hk => ?_, fun r M1 q K hk => ?_⟩
  · exact s_C_count (T := qLM) (d := d + 8) hc (fun r q => hk r M ⟨q, rfl⟩)
  · obtain ⟨e, rfl⟩ := q
    refine s_R_count (d := d + 11) hr ?_
    intro r2 M2 q
    rw [q.1, q.2, ← e]
    exact hk _ ⟨n, b, f, ln, kn, H, p, u, v, tp, kw, kp, ku, kv, hc, hr⟩
theorem j_mended {x : Int} : Jt 127 212 [.inl x] := fun d M h => by
  obtain ⟨n, b, f, ln, kn, H, p, u, v, tp, kw, kp, ku, kv, hc, hr⟩ := h
  refine ⟨fun r M1 => r = anMended n p u v x ∧ ∀ c, c ≠ 61 → M1 c = M c, fun K hk => ?_, fun r M1 q K hk => ?_⟩
  · exact s_C_mended (T := qLM) (d := d + 5) hc (fun r M1 q => hk r M1 q)
  · have hr1 := rI_c hr (fun c hc => q.2 c (by omega))
    have hc1 : cI M1 n H b f p u v ln tp kn kw kp ku kv := by
      refine ⟨qLR_mem hc.1 (q.2 _ (by decide)) (q.2 _ (by decide)) (q.2 _ (by decide)), qPR_mem hc.2.1 (q.2 _ (by decide)), qY_mem hc.2.2.1 (q.2 _ (by decide)) (q.2 _ (by decide)), cTp_mem hc.2.2.2.1 (q.2 _ (by decide)) (q.2 _ (by decide)), cIm_mem hc.2.2.2.2.1 (q.2 _ (by decide)) (q.2 _ (by decide)) (q.2 _ (by decide)) (q.2 _ (by decide)) (q.2 _ (by decide)), fun z => ?_⟩
      rw [q.2 0 (by decide)] at z
      have := hc.2.2.2.2.2 z
      exact ⟨qTn_mem this.1 (q.2 _ (by decide)) (q.2 _ (by decide)) (q.2 _ (by decide)) (q.2 _ (by decide)) (q.2 _ (by decide)) (q.2 _ (by decide)) (q.2 _ (by decide)), qMs_mem this.2 (q.2 _ (by decide)) (q.2 _ (by decide)) (q.2 _ (by decide))⟩
    refine s_R_mended (d := d + 6) hr1 (fun r2 M2 t => ?_)
    rw [t.1, ← q.1]
    have nf : nF M2 M1 := fun c y hcy => by rw [t.2 c (by omega)]
    have hr2 : rI M2 n H b f p u v ln tp kn kw kp ku kv := rI_nF hr1 nf (fun z => by
      rw [t.2 71 (by decide)] at z
      exact rKn_keep (hr1.2.2.2.2.2 z) (t.2 _ (by decide)) (t.2 _ (by decide)) (t.2 _ (by decide)) (t.2 _ (by decide)) (t.2 _ (by decide)) (t.2 _ (by decide)) (by rw [t.2 71 (by decide)]) (by rw [t.2 71 (by decide)]))
    exact hk M2 ⟨n, b, f, ln, kn, H, p, u, v, tp, kw, kp, ku, kv, cI_r hc1 (fun c h => t.2 c (by omega)), hr2⟩
theorem j_hand {x y : Int} : Jt 123 206 [.inl x, .inl y] := fun d M h => by
  obtain ⟨n, b, f, ln, kn, H, p, u, v, tp, kw, kp, ku, kv, hc, hr⟩ := h
  refine ⟨fun r M1 => r = anHand n u x y ∧ cI M1 n H b f p (hnP n u v x y).1 (hnP n u v x y).2 ln tp kn kw kp ku kv ∧ rI M1 n H b f p u v ln tp kn kw kp ku kv, fun K hk => ?_, fun r M1 q K hk => ?_⟩
  · exact s_C_hand (T := qLM) (d := d + 8) hc (fun r M1 q => hk r M1 ⟨q.1, q.2.1, rI_c hr q.2.2⟩)
  · obtain ⟨e, hc1, hr1⟩ := q
    refine s_R_hand (d := d + 9) ⟨hr1.1.1.1, hr1.1.1.2.2.2.1, hr1.1.1.2.2.2.2.1, hr1.2.1.1, hr1.2.1.2⟩ (fun r2 M2 t => ?_)
    rw [t.1, ← e]
    have g := t.2.2
    refine hk M2 ⟨n, b, f, ln, kn, H, p, (hnP n u v x y).1, (hnP n u v x y).2, tp, kw, kp, ku, kv, cI_r hc1 (fun c h => g c (by omega)), ⟨qMR_mem hr1.1.1 (by rw [g 71 (by decide)]) (g _ (by decide)) (g _ (by decide)), mB_mem hr1.1.2 (g _ (by decide))⟩, ⟨t.2.1, hc1.2.1.2.2⟩, rHs_mem hr1.2.2.1 (g _ (by decide)) (g _ (by decide)) (by rw [g 71 (by decide)]) (by rw [g 71 (by decide)]), rTp_mem hr1.2.2.2.1 (g _ (by decide)) (by rw [g 71 (by decide)]), rIm_mem hr1.2.2.2.2.1 (g _ (by decide)) (g _ (by decide)) (by rw [g 71 (by decide)]), fun z => ?_⟩
    rw [g 71 (by decide)] at z
    exact rKn_keep (hr1.2.2.2.2.2 z) (g _ (by decide)) (g _ (by decide)) (g _ (by decide)) (g _ (by decide)) (g _ (by decide)) (g _ (by decide)) (by rw [g 71 (by decide)]) (by rw [g 71 (by decide)])
theorem j_lie {x y : Int} : Jt 121 202 [.inl x, .inl y] := fun d M h => by
  obtain ⟨n, b, f, ln, kn, H, p, u, v, tp, kw, kp, ku, kv, hc, hr⟩ := h
  refine ⟨fun r M1 => r = anLie n (H b) p x y ∧ cI M1 n H b f p u v ln tp kn kw kp ku kv ∧ rI M1 n H b f p u v ln tp kn kw kp ku kv, fun K hk => ?_, fun r M1 q K hk => ?_⟩
  · exact s_C_lie (T := qLM) (d := d + 6) hc (fun r M1 q => hk r M1 ⟨q.1, q.2.1, rI_c hr q.2.2⟩)
  · obtain ⟨e, hc1, hr1⟩ := q
    refine s_R_lie (d := d + 0) hr1 (fun r2 M2 t => ?_)
    rw [t.1, ← e]
    exact hk M2 ⟨n, b, f, ln, kn, H, p, u, v, tp, kw, kp, ku, kv, cI_r hc1 t.2.2, t.2.1⟩
theorem j_size {x : Int} : Jt 97 151 [.inl x] := fun d M h => by
  obtain ⟨n, b, f, ln, kn, H, p, u, v, tp, kw, kp, ku, kv, hc, hr⟩ := h
  refine ⟨fun r M1 => ((1 ≤ x ∧ x ≤ 8 → r = (n : Int) ∧ cI M1 (Int.toNat x) (fun _ => idw) 0 0 idw nn9 nn9 ln tp kn kw kp ku kv) ∧ (¬ (1 ≤ x ∧ x ≤ 8) → r = -1 ∧ cI M1 n H b f p u v ln tp kn kw kp ku kv) ∧ (∀ c, 71 ≤ c → M1 c = M c)) ∧ rI M1 n H b f p u v ln tp kn kw kp ku kv, fun K hk => ?_, fun r M1 q K hk => ?_⟩
  · exact s_C_size (T := qLM) (d := d + 8) hc (fun r M1 q => hk r M1 ⟨q, rI_c hr q.2.2⟩)
  · obtain ⟨q, hr1⟩ := q
    refine s_R_size (d := d + 9) hr1 (fun r2 M2 t => ?_)
    by_cases hx : 1 ≤ x ∧ x ≤ 8
    · rw [(t.1 hx).1, ← (q.1 hx).1]
      exact hk M2 ⟨_, _, _, _, _, _, _, _, _, _, _, _, _, _, cI_r (q.1 hx).2 t.2.2, (t.1 hx).2⟩
    · rw [(t.2.1 hx).1, ← (q.2.1 hx).1]
      exact hk M2 ⟨_, _, _, _, _, _, _, _, _, _, _, _, _, _, cI_r (q.2.1 hx).2 t.2.2, (t.2.1 hx).2⟩
theorem j_feed {x : Int} : Jt 98 152 [.inl x] := fun d M h => by
  obtain ⟨n, b, f, ln, kn, H, p, u, v, tp, kw, kp, ku, kv, hc, hr⟩ := h
  refine ⟨fun r M1 => ((¬ (32 ≤ x ∧ x ≤ 126) → r = -1 ∧ cI M1 n H b f p u v ln tp kn kw kp ku kv) ∧ (32 ≤ x ∧ x ≤ 126 → (ln = 120 → r = -3 ∧ cI M1 n H b f p u v ln tp kn kw kp ku kv) ∧ (ln < 120 → r = ((ln + 1 : Nat) : Int) ∧ cI M1 n H b f p u v (ln + 1) (updF tp ln (Int.toNat x)) kn kw kp ku kv)) ∧ (∀ c, 71 ≤ c → M1 c = M c)) ∧ rI M1 n H b f p u v ln tp kn kw kp ku kv, fun K hk => ?_, fun r M1 q K hk => ?_⟩
  · exact s_C_feed (T := qLM) (d := d + 9) hc (fun r M1 q => hk r M1 ⟨q, rI_c hr q.2.2⟩)
  · obtain ⟨q, hr1⟩ := q
    refine s_R_feed (d := d + 10) hr1 (fun r2 M2 t => ?_)
    by_cases hx : 32 ≤ x ∧ x ≤ 126
    · have h120 := hr.2.2.2.1.2.1
      by_cases hl : ln = 120
      · rw [((t.2.1 hx).1 hl).1, ← ((q.2.1 hx).1 hl).1]
        exact hk M2 ⟨_, _, _, _, _, _, _, _, _, _, _, _, _, _, cI_r ((q.2.1 hx).1 hl).2 t.2.2, ((t.2.1 hx).1 hl).2⟩
      · have hl : ln < 120 := by omega
        rw [((t.2.1 hx).2 hl).1, ← ((q.2.1 hx).2 hl).1]
        exact hk M2 ⟨_, _, _, _, _, _, _, _, _, _, _, _, _, _, cI_r ((q.2.1 hx).2 hl).2 t.2.2, ((t.2.1 hx).2 hl).2⟩
    · rw [(t.1 hx).1, ← (q.1 hx).1]
      exact hk M2 ⟨_, _, _, _, _, _, _, _, _, _, _, _, _, _, cI_r (q.1 hx).2 t.2.2, (t.1 hx).2⟩
theorem j_lists : Jt 99 158 [] := fun d M h => by
  obtain ⟨n, b, f, ln, kn, H, p, u, v, tp, kw, kp, ku, kv, hc, hr⟩ := h
  refine ⟨fun r M1 => (r = lsE n ln tp ∧ (lsE n ln tp < 0 → cI M1 n H b f p u v 0 tp kn kw kp ku kv) ∧ (0 ≤ lsE n ln tp → cI M1 n (nH H b (wL n ln tp (H b) (lsI n ln tp + 1))) (nB b) 0 (pL n ln tp p (lsI n ln tp + 1)) u v 0 tp kn kw kp ku kv) ∧ (∀ c, 71 ≤ c → M1 c = M c)) ∧ rI M1 n H b f p u v ln tp kn kw kp ku kv, fun K hk => ?_, fun r M1 q K hk => ?_⟩
  · exact s_C_lists (T := qLM) (d := d + 5) hc (fun r M1 q => hk r M1 ⟨q, rI_c hr q.2.2.2⟩)
  · obtain ⟨q, hr1⟩ := q
    refine s_R_lists (d := d + 7) hr1 (fun r2 M2 t => ?_)
    rw [t.1, ← q.1]
    by_cases hx : lsE n ln tp < 0
    · exact hk M2 ⟨_, _, _, _, _, _, _, _, _, _, _, _, _, _, cI_r (q.2.1 hx) t.2.2.2, t.2.1 hx⟩
    · have hx : 0 ≤ lsE n ln tp := by omega
      exact hk M2 ⟨_, _, _, _, _, _, _, _, _, _, _, _, _, _, cI_r (q.2.2.1 hx) t.2.2.2, t.2.2.1 hx⟩
theorem j_stir {x y z : Int} : Jt 101 162 [.inl x, .inl y, .inl z] := fun d M h => by
  obtain ⟨n, b, f, ln, kn, H, p, u, v, tp, kw, kp, ku, kv, hc, hr⟩ := h
  refine ⟨fun r M1 => ((¬ stOk n x y z → r = -1 ∧ cI M1 n H b f p u v ln tp kn kw kp ku kv) ∧ (stOk n x y z → r = (H b (ix (Int.toNat x) (Int.toNat y) (Int.toNat z + 1)) : Int) ∧ cI M1 n (nH H b (xW (H b) (Int.toNat x) (Int.toNat y) (Int.toNat z) (Int.toNat z + 1))) (nB b) 0 (xP (H b) p (Int.toNat x) (Int.toNat y) (Int.toNat z) (Int.toNat z + 1)) u v ln tp kn kw kp ku kv) ∧ (∀ c, 71 ≤ c → M1 c = M c)) ∧ rI M1 n H b f p u v ln tp kn kw kp ku kv, fun K hk => ?_, fun r M1 q K hk => ?_⟩
  · exact s_C_stir (T := qLM) (d := d + 8) hc (fun r M1 q => hk r M1 ⟨q, rI_c hr q.2.2⟩)
  · obtain ⟨q, hr1⟩ := q
    refine s_R_stir (d := d + 8) hr1 (fun r2 M2 t => ?_)
    by_cases hx : stOk n x y z
    · rw [(t.2.1 hx).1, ← (q.2.1 hx).1]
      exact hk M2 ⟨_, _, _, _, _, _, _, _, _, _, _, _, _, _, cI_r (q.2.1 hx).2 t.2.2, (t.2.1 hx).2⟩
    · rw [(t.1 hx).1, ← (q.1 hx).1]
      exact hk M2 ⟨_, _, _, _, _, _, _, _, _, _, _, _, _, _, cI_r (q.1 hx).2 t.2.2, (t.1 hx).2⟩
theorem j_stirred {x y z : Int} : Jt 102 163 [.inl x, .inl y, .inl z] := fun d M h => by
  obtain ⟨n, b, f, ln, kn, H, p, u, v, tp, kw, kp, ku, kv, hc, hr⟩ := h
  refine ⟨fun r M1 => ((¬ stOk n x y z → r = -1) ∧ (stOk n x y z → r = (cN n (xW (H b) (Int.toNat x) (Int.toNat y) (Int.toNat z) (Int.toNat z + 1)) (xP (H b) p (Int.toNat x) (Int.toNat y) (Int.toNat z) (Int.toNat z + 1)) : Int)) ∧ cI M1 n H b f p u v ln tp kn kw kp ku kv ∧ (∀ c, 71 ≤ c → M1 c = M c)) ∧ rI M1 n H b f p u v ln tp kn kw kp ku kv, fun K hk => ?_, fun r M1 q K hk => ?_⟩
  · exact s_C_stirred (T := qLM) (d := d + 5) hc (fun r M1 q => hk r M1 ⟨q, rI_c hr q.2.2.2⟩)
  · obtain ⟨q, hr1⟩ := q
    refine s_R_stirred (d := d + 4) hr1 (fun r2 M2 t => ?_)
    by_cases hx : stOk n x y z
    · rw [t.2.1 hx, ← q.2.1 hx]
      exact hk M2 ⟨_, _, _, _, _, _, _, _, _, _, _, _, _, _, cI_r q.2.2.1 t.2.2.2, t.2.2.1⟩
    · rw [t.1 hx, ← q.1 hx]
      exact hk M2 ⟨_, _, _, _, _, _, _, _, _, _, _, _, _, _, cI_r q.2.2.1 t.2.2.2, t.2.2.1⟩
theorem j_image : Jt 129 214 [] := fun d M h => by
  obtain ⟨n, b, f, ln, kn, H, p, u, v, tp, kw, kp, ku, kv, hc, hr⟩ := h
  refine ⟨fun r M1 => (r = (n : Int) ∧ cI M1 n H b f p u v ln tp n (H b) p u v ∧ (∀ c, 71 ≤ c → M1 c = M c)) ∧ rI M1 n H b f p u v ln tp kn kw kp ku kv, fun K hk => ?_, fun r M1 q K hk => ?_⟩
  · exact s_C_image (T := qLM) (d := d + 7) hc (fun r M1 q => hk r M1 ⟨q, rI_c hr q.2.2⟩)
  · obtain ⟨q, hr1⟩ := q
    refine s_R_image (d := d + 10) hr1 (fun r2 M2 t => ?_)
    rw [t.1, ← q.1]
    exact hk M2 ⟨_, _, _, _, _, _, _, _, _, _, _, _, _, _, cI_r q.2.1 t.2.2, t.2.1⟩
theorem j_back : Jt 130 215 [] := fun d M h => by
  obtain ⟨n, b, f, ln, kn, H, p, u, v, tp, kw, kp, ku, kv, hc, hr⟩ := h
  refine ⟨fun r M1 => ((kn = 0 → r = -5 ∧ cI M1 n H b f p u v ln tp kn kw kp ku kv) ∧ (0 < kn → r = (kn : Int) ∧ cI M1 kn (fun _ => kw) 0 0 kp ku kv ln tp kn kw kp ku kv) ∧ (∀ c, 71 ≤ c → M1 c = M c)) ∧ rI M1 n H b f p u v ln tp kn kw kp ku kv, fun K hk => ?_, fun r M1 q K hk => ?_⟩
  · exact s_C_back (T := qLM) (d := d + 7) hc (fun r M1 q => hk r M1 ⟨q, rI_c hr q.2.2⟩)
  · obtain ⟨q, hr1⟩ := q
    refine s_R_back (d := d + 10) hr1 (fun r2 M2 t => ?_)
    rcases Nat.eq_zero_or_pos kn with hx | hx
    · rw [(t.1 hx).1, ← (q.1 hx).1]
      exact hk M2 ⟨_, _, _, _, _, _, _, _, _, _, _, _, _, _, cI_r (q.1 hx).2 t.2.2, (t.1 hx).2⟩
    · rw [(t.2.1 hx).1, ← (q.2.1 hx).1]
      exact hk M2 ⟨_, _, _, _, _, _, _, _, _, _, _, _, _, _, cI_r (q.2.1 hx).2 t.2.2, (t.2.1 hx).2⟩
theorem j_undo : Jt 103 164 [] := fun d M h => by
  obtain ⟨n, b, f, ln, kn, H, p, u, v, tp, kw, kp, ku, kv, hc, hr⟩ := h
  refine ⟨fun r M1 => ((b = 0 → r = -5 ∧ cI M1 n H b f p u v ln tp kn kw kp ku kv) ∧ (0 < b → r = ((b - 1 : Nat) : Int) ∧ ∃ p2, cI M1 n H (b - 1) (f + 1) p2 u v ln tp kn kw kp ku kv) ∧ (∀ c, 71 ≤ c → M1 c = M c)) ∧ rI M1 n H b f p u v ln tp kn kw kp ku kv, fun K hk => ?_, fun r M1 q K hk => ?_⟩
  · exact s_C_undo (T := qLM) (d := d + 7) hc (fun r M1 q => hk r M1 ⟨q, rI_c hr q.2.2⟩)
  · obtain ⟨q, hr1⟩ := q
    rcases Nat.eq_zero_or_pos b with hx | hx
    · refine s_R_undo (p2 := p) (d := d + 10) hr1 (fun z => absurd z (by omega)) (fun r2 M2 t => ?_)
      rw [(t.1 hx).1, ← (q.1 hx).1]
      exact hk M2 ⟨_, _, _, _, _, _, _, _, _, _, _, _, _, _, cI_r (q.1 hx).2 t.2.2, (t.1 hx).2⟩
    · obtain ⟨e, p2, hc2⟩ := q.2.1 hx
      refine s_R_undo (p2 := p2) (d := d + 10) hr1 (fun _ => hc2.1.2.2.2) (fun r2 M2 t => ?_)
      rw [(t.2.1 hx).1, ← e]
      exact hk M2 ⟨_, _, _, _, _, _, _, _, _, _, _, _, _, _, cI_r hc2 t.2.2, (t.2.1 hx).2⟩
theorem j_redo : Jt 104 165 [] := fun d M h => by
  obtain ⟨n, b, f, ln, kn, H, p, u, v, tp, kw, kp, ku, kv, hc, hr⟩ := h
  refine ⟨fun r M1 => ((f = 0 → r = -5 ∧ cI M1 n H b f p u v ln tp kn kw kp ku kv) ∧ (0 < f → r = ((f - 1 : Nat) : Int) ∧ ∃ p2, cI M1 n H (b + 1) (f - 1) p2 u v ln tp kn kw kp ku kv) ∧ (∀ c, 71 ≤ c → M1 c = M c)) ∧ rI M1 n H b f p u v ln tp kn kw kp ku kv, fun K hk => ?_, fun r M1 q K hk => ?_⟩
  · exact s_C_redo (T := qLM) (d := d + 7) hc (fun r M1 q => hk r M1 ⟨q, rI_c hr q.2.2⟩)
  · obtain ⟨q, hr1⟩ := q
    rcases Nat.eq_zero_or_pos f with hx | hx
    · refine s_R_redo (p2 := p) (d := d + 10) hr1 (fun z => absurd z (by omega)) (fun r2 M2 t => ?_)
      rw [(t.1 hx).1, ← (q.1 hx).1]
      exact hk M2 ⟨_, _, _, _, _, _, _, _, _, _, _, _, _, _, cI_r (q.1 hx).2 t.2.2, (t.1 hx).2⟩
    · obtain ⟨e, p2, hc2⟩ := q.2.1 hx
      refine s_R_redo (p2 := p2) (d := d + 10) hr1 (fun _ => hc2.1.2.2.2) (fun r2 M2 t => ?_)
      rw [(t.2.1 hx).1, ← e]
      exact hk M2 ⟨_, _, _, _, _, _, _, _, _, _, _, _, _, _, cI_r hc2 t.2.2, (t.2.1 hx).2⟩
