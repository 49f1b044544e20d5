/-! What the machine's cells hold, read off the abstract state; one row an instruction. -/
theorem qm_ofR {x : Int} (h : qm_R x) : (Int32.ofInt x).toInt = x := Int32.toInt_ofInt_of_le (by have := h.1; omega) (by have := h.2; omega)
theorem qm_clR {x : Int} (h : qm_R x) : (Int32.ofInt x).toNatClampNeg = x.toNat := Int32.toNatClampNeg_ofInt_of_le (by have := h.1; omega) (by have := h.2; omega)
theorem qm_R32 (x : Int32) : qm_R x.toInt := ⟨by have := x.le_toInt; omega, by have := x.toInt_lt; omega⟩
theorem qm_eqR {x y : Int} (hx : qm_R x) (hy : qm_R y) : Int32.ofInt x = Int32.ofInt y ↔ x = y := by
  rw [← Int32.toInt_inj, qm_ofR hx, qm_ofR hy]
theorem qm_ltR {x y : Int} (hx : qm_R x) (hy : qm_R y) : Int32.ofInt x < Int32.ofInt y ↔ x < y := by
  rw [Int32.lt_iff_toInt_lt, qm_ofR hx, qm_ofR hy]
theorem qm_leR {x y : Int} (hx : qm_R x) (hy : qm_R y) : Int32.ofInt x ≤ Int32.ofInt y ↔ x ≤ y := by
  rw [Int32.le_iff_toInt_le, qm_ofR hx, qm_ofR hy]
theorem qm_tdR' {x y : Int} (hx : qm_R x) (h : 0 < y) : qm_R (x.tdiv y) := by
  have h1 : (x.tdiv y).natAbs ≤ x.natAbs := by
    rw [Int.natAbs_tdiv]
    exact Nat.div_le_self _ _
  rcases Int.lt_or_le x 0 with h0 | h0
  · have h2 : x.tdiv y = -((-x).tdiv y) := by rw [Int.neg_tdiv]; omega
    have h3 : 0 ≤ (-x).tdiv y := Int.tdiv_nonneg (by omega) (by omega)
    unfold qm_R at *
    omega
  · unfold qm_R at *
    omega
theorem qm_divR {x y : Int} (hx : qm_R x) (hy : qm_R y) (h : 0 < y) : Int32.ofInt x / Int32.ofInt y = Int32.ofInt (x.tdiv y) := by
  rw [← Int32.toInt_inj, Int32.toInt_div_of_ne_right _ _ (fun q => by
    have := congrArg Int32.toInt q
    rw [qm_ofR hy] at this
    have h1 : (-1 : Int32).toInt = -1 := by decide
    omega), qm_ofR hx, qm_ofR hy, qm_ofR (qm_tdR' hx h)]
theorem qm_tmR {x y : Int} (hy : qm_R y) (h : 0 < y) : qm_R (x.tmod y) := by
  have h1 := Int.tmod_lt_of_pos x h
  have h2 : -y < x.tmod y := by
    have := Int.lt_tmod_of_pos x h
    exact this
  unfold qm_R at *
  omega
theorem qm_remR {x y : Int} (hx : qm_R x) (hy : qm_R y) (h : 0 < y) : Int32.ofInt x - Int32.ofInt x / Int32.ofInt y * Int32.ofInt y = Int32.ofInt (x.tmod y) := by
  rw [qm_divR hx hy h, ← Int32.ofInt_mul, ← Int32.ofInt_sub]
  congr 1
  have := Int.tmod_add_tdiv_mul x y
  have h2 : x.tdiv y * y = y * x.tdiv y := Int.mul_comm _ _
  omega
def qm_cv (ad : Nat → Nat) (b : Nat) : qm_V → Value
  | .inl i => .int (Int32.ofInt i)
  | .inr none => .ref b
  | .inr (some o) => .ref (ad o)
def qm_fv (ad : Nat → Nat) (M : qm_M) (o k : Nat) : Option (Option Nat) → Value
  | none => .int (Int32.ofInt (M o k))
  | some none => .null
  | some (some r) => .ref (ad r)
def qm_ev (cA : ClassId) (ad : Nat → Nat) (M : qm_M) (o : Nat) : qm_E → va_E
  | .inl n => .inl (cA, n, .inl (fun j => Int32.ofInt (M o j)))
  | .inr q => .inr (q.1, q.2.mapIdx (fun k f => qm_fv ad M o k f))
def qm_w (cA : ClassId) (ad : Nat → Nat) (L : qm_L) (M : qm_M) : va_W := L.mapIdx (fun o e => (ad o, qm_ev cA ad M o e))
theorem qm_w_at (cA : ClassId) (ad : Nat → Nat) (L : qm_L) (M : qm_M) (o : Nat) : (qm_w cA ad L M)[o]? = (L[o]?).map (fun e => (ad o, qm_ev cA ad M o e)) := by
  simp [qm_w]
def qm_okV (L : qm_L) : qm_V → Prop
  | .inl i => qm_R i
  | .inr none => True
  | .inr (some o) => o < L.length
def qm_okM (M : qm_M) : Prop := ∀ o k, qm_R (M o k)
def qm_okE (n : Nat) (e : qm_E) : Prop := ∀ ci fs (k : Nat) r, e = .inr (ci, fs) → fs[k]? = some (some (some r)) → r < n
def qm_okL (L : qm_L) : Prop := ∀ (o : Nat) e, L[o]? = some e → qm_okE L.length e
theorem qm_okM_u {M : qm_M} {o k : Nat} {v : Int} (h : qm_okM M) (hv : qm_R v) : qm_okM (qm_u M o k v) := by
  intro a b
  unfold qm_u
  split
  · split
    · exact hv
    · exact h a b
  · exact h a b
theorem qm_okM_z {M : qm_M} {o : Nat} (h : qm_okM M) : qm_okM (qm_z M o) := by
  intro a b
  unfold qm_z
  split
  · exact ⟨by decide, by decide⟩
  · exact h a b
theorem qm_okV_le {L L' : qm_L} (h : L.length ≤ L'.length) {v : qm_V} (hv : qm_okV L v) : qm_okV L' v := by
  match v, hv with
  | .inl _, hv => exact hv
  | .inr none, _ => trivial
  | .inr (some o), hv => exact Nat.lt_of_lt_of_le hv h
theorem qm_cv_ext {L : qm_L} {ad ad' : Nat → Nat} (b : Nat) (h : ∀ k, k < L.length → ad' k = ad k) {v : qm_V} (hv : qm_okV L v) : qm_cv ad' b v = qm_cv ad b v := by
  match v, hv with
  | .inl _, _ => rfl
  | .inr none, _ => rfl
  | .inr (some o), hv => exact congrArg Value.ref (h o hv)
theorem qm_cv_map {L : qm_L} {ad ad' : Nat → Nat} (b : Nat) (h : ∀ k, k < L.length → ad' k = ad k) {st : List qm_V} (hv : ∀ v ∈ st, qm_okV L v) : st.map (qm_cv ad' b) = st.map (qm_cv ad b) :=
  List.map_congr_left fun v q => qm_cv_ext b h (hv v q)
theorem qm_cat (ad : Nat → Nat) (b : Nat) (v : qm_V) : (qm_cv ad b v).category = 1 := by
  match v with
  | .inl _ => rfl
  | .inr none => rfl
  | .inr (some o) => rfl
theorem qm_cats (ad : Nat → Nat) (b : Nat) (st : List qm_V) (n : Nat) (h : st.length ≤ n) : ((st.map (qm_cv ad b)).map fun v => v.category).sum ≤ n := by
  induction st generalizing n with
  | nil => exact Nat.zero_le _
  | cons v r ih =>
    simp only [List.map_cons, List.sum_cons, qm_cat]
    simp only [List.length_cons] at h
    have := ih (n - 1) (by omega)
    omega
/-- an element of an int array is stored -/
theorem qm_w_arr {cA : ClassId} {ad : Nat → Nat} {L : qm_L} {M : qm_M} {o n k : Nat} {v : Int} (h : L[o]? = some (.inl n)) : qm_w cA ad L (qm_u M o k v) = (qm_w cA ad L M).set o (ad o, .inl (cA, n, .inl (upd (fun j => Int32.ofInt (M o j)) k (Int32.ofInt v)))) := by
  apply List.ext_getElem?
  intro i
  rw [qm_w_at]
  by_cases hi : i = o
  · subst hi
    rw [List.getElem?_set_self (by rw [qm_w, List.length_mapIdx]; exact (List.getElem?_eq_some_iff.mp h).1), h]
    simp only [Option.map_some, qm_ev]
    congr 6
    funext j
    simp only [qm_u, upd, if_true]
    split <;> rfl
  · rw [List.getElem?_set_ne (Ne.symm hi), qm_w_at]
    congr 1
    funext e
    congr 1
    cases e with
    | inl n => simp [qm_ev, qm_u, hi]
    | inr q =>
      simp only [qm_ev]
      congr 3
      funext k2 f
      match f with
      | none => simp [qm_fv, qm_u, hi]
      | some none => rfl
      | some (some r) => rfl
theorem qm_w_int {cA : ClassId} {ad : Nat → Nat} {L : qm_L} {M : qm_M} {o ci k : Nat} {fs : List (Option (Option Nat))} {v : Int} (h : L[o]? = some (.inr (ci, fs))) (hk : fs[k]? = some none) : qm_w cA ad L (qm_u M o k v) = (qm_w cA ad L M).set o (ad o, .inr (ci, (fs.mapIdx (fun k f => qm_fv ad M o k f)).set k (.int (Int32.ofInt v)))) := by
  apply List.ext_getElem?
  intro i
  rw [qm_w_at]
  by_cases hi : i = o
  · subst hi
    rw [List.getElem?_set_self (by rw [qm_w, List.length_mapIdx]; exact (List.getElem?_eq_some_iff.mp h).1), h]
    simp only [Option.map_some, qm_ev]
    congr 4
    apply List.ext_getElem?
    intro j
    by_cases hj : j = k
    · subst hj
      rw [List.getElem?_set_self (by rw [List.length_mapIdx]; exact (List.getElem?_eq_some_iff.mp hk).1)]
      simp [hk, qm_fv, qm_u]
    · rw [List.getElem?_set_ne (Ne.symm hj)]
      simp only [List.getElem?_mapIdx]
      congr 1
      funext f
      match f with
      | none => simp [qm_fv, qm_u, hj]
      | some none => rfl
      | some (some r) => rfl
  · rw [List.getElem?_set_ne (Ne.symm hi), qm_w_at]
    congr 1
    funext e
    congr 1
    cases e with
    | inl n => simp [qm_ev, qm_u, hi]
    | inr q =>
      simp only [qm_ev]
      congr 3
      funext k2 f
      match f with
      | none => simp [qm_fv, qm_u, hi]
      | some none => rfl
      | some (some r) => rfl
theorem qm_w_ref {cA : ClassId} {ad : Nat → Nat} {L : qm_L} {M : qm_M} {o ci k f : Nat} {fs : List (Option (Option Nat))} (h : L[o]? = some (.inr (ci, fs))) (hk : k < fs.length) : qm_w cA ad (L.set o (.inr (ci, fs.set k (some (some f))))) M = (qm_w cA ad L M).set o (ad o, .inr (ci, (fs.mapIdx (fun k f => qm_fv ad M o k f)).set k (.ref (ad f)))) := by
  have hl := (List.getElem?_eq_some_iff.mp h).1
  apply List.ext_getElem?
  intro i
  rw [qm_w_at]
  by_cases hi : i = o
  · subst hi
    rw [List.getElem?_set_self hl, List.getElem?_set_self (by rw [qm_w, List.length_mapIdx]; exact hl)]
    simp only [Option.map_some, qm_ev]
    congr 4
    apply List.ext_getElem?
    intro j
    by_cases hj : j = k
    · subst hj
      rw [List.getElem?_set_self (by rw [List.length_mapIdx]; exact hk)]
      simp [hk, qm_fv]
    · rw [List.getElem?_set_ne (Ne.symm hj)]
      simp only [List.getElem?_mapIdx, List.getElem?_set_ne (Ne.symm hj)]
  · rw [List.getElem?_set_ne (Ne.symm hi), List.getElem?_set_ne (Ne.symm hi), qm_w_at]
theorem qm_ev_ext {cA : ClassId} {ad ad' : Nat → Nat} {M M' : qm_M} {n o : Nat} {e : qm_E} (ho : o < n) (h : ∀ k, k < n → ad' k = ad k) (hM : ∀ k, M' o k = M o k) (he : qm_okE n e) : qm_ev cA ad' M' o e = qm_ev cA ad M o e := by
  cases e with
  | inl m => simp [qm_ev, hM]
  | inr q =>
    obtain ⟨ci, fs⟩ := q
    simp only [qm_ev]
    congr 2
    apply List.ext_getElem?
    intro j
    simp only [List.getElem?_mapIdx]
    cases hj : fs[j]? with
    | none => rfl
    | some f =>
      match f, hj with
      | none, _ => simp [qm_fv, hM]
      | some none, _ => rfl
      | some (some r), hj => simp [qm_fv, h r (he ci fs j r rfl hj)]
theorem qm_w_ext {cA : ClassId} {ad ad' : Nat → Nat} {L : qm_L} {M M' : qm_M} (h : ∀ k, k < L.length → ad' k = ad k) (hM : ∀ o k, o < L.length → M' o k = M o k) (hL : qm_okL L) : qm_w cA ad' L M' = qm_w cA ad L M := by
  apply List.ext_getElem?
  intro i
  rw [qm_w_at, qm_w_at]
  cases hi : L[i]? with
  | none => rfl
  | some e =>
    have hl := (List.getElem?_eq_some_iff.mp hi).1
    simp only [Option.map_some]
    rw [h i hl, qm_ev_ext hl h (fun k => hM i k hl) (hL i e hi)]
theorem qm_w_push {cA : ClassId} {ad : Nat → Nat} {L : qm_L} {M : qm_M} (q : Nat) (e : qm_E) (hL : qm_okL L) (he : ∀ n, qm_okE n e) : qm_w cA (fun k => if k = L.length then q else ad k) (L ++ [e]) (qm_z M L.length) = qm_w cA ad L M ++ [(q, qm_ev cA ad (fun _ _ => 0) 0 e)] := by
  have h0 : qm_w cA (fun k => if k = L.length then q else ad k) L (qm_z M L.length) = qm_w cA ad L M :=
    qm_w_ext (fun k hk => by rw [if_neg (by omega)]) (fun o k ho => by unfold qm_z; rw [if_neg (by omega)]) hL
  rw [← h0]
  unfold qm_w
  rw [List.mapIdx_append]
  congr 1
  simp only [List.mapIdx_cons, List.mapIdx_nil, Nat.zero_add, if_true]
  congr 2
  cases e with
  | inl m => simp [qm_ev, qm_z]
  | inr x =>
    obtain ⟨ci, fs⟩ := x
    simp only [qm_ev]
    congr 2
    apply List.ext_getElem?
    intro j
    simp only [List.getElem?_mapIdx]
    cases hj : fs[j]? with
    | none => rfl
    | some f =>
      match f, hj with
      | none, _ => simp [qm_fv, qm_z]
      | some none, _ => rfl
      | some (some r), hj => exact absurd (he 0 ci fs j r rfl hj) (Nat.not_lt_zero _)
theorem qm_okL_push {L : qm_L} (e : qm_E) (hL : qm_okL L) (he : ∀ n, qm_okE n e) : qm_okL (L ++ [e]) := by
  intro o x h ci fs k r hx hk
  by_cases ho : o < L.length
  · rw [List.getElem?_append_left ho] at h
    have := hL o x h ci fs k r hx hk
    rw [List.length_append]
    omega
  · rw [List.getElem?_append_right (by omega)] at h
    have hm := List.mem_of_getElem? h
    rw [List.mem_singleton] at hm
    subst hm
    exact he _ ci fs k r hx hk
theorem qm_okL_set {L : qm_L} {o ci k f : Nat} {fs : List (Option (Option Nat))} (hL : qm_okL L) (h : L[o]? = some (.inr (ci, fs))) (hf : f < L.length) : qm_okL (L.set o (.inr (ci, fs.set k (some (some f))))) := by
  intro o2 x hx ci2 fs2 k2 r he hk
  rw [List.length_set]
  by_cases ho : o2 = o
  · subst ho
    rw [List.getElem?_set_self (List.getElem?_eq_some_iff.mp h).1] at hx
    cases hx
    cases he
    by_cases hk2 : k2 = k
    · subst hk2
      rw [List.getElem?_set] at hk
      simp only [if_true] at hk
      split at hk
      · cases hk; exact hf
      · cases hk
    · rw [List.getElem?_set_ne (Ne.symm hk2)] at hk
      exact hL o2 _ h ci fs k2 r rfl hk
  · rw [List.getElem?_set_ne (Ne.symm ho)] at hx
    exact hL o2 x hx ci2 fs2 k2 r he hk
