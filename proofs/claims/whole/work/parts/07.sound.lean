theorem qm_args_mem {ad : Nat → Nat} {b : Nat} : ∀ (a : List qm_V) (k i : Nat) (v : qm_V), a[i]? = some v → (k + i, qm_cv ad b v) ∈ lv_args k (a.map (qm_cv ad b))
  | [], _, _, _, h => by simp at h
  | x :: r, k, i, v, h => by
    have hc := qm_cat ad b x
    cases i with
    | zero =>
      simp only [List.getElem?_cons_zero, Option.some.injEq] at h
      subst h
      simp [lv_args]
    | succ i =>
      have := qm_args_mem (ad := ad) (b := b) r (k + 1) i v (by simpa using h)
      rw [show k + 1 + i = k + (i + 1) by omega] at this
      simp only [List.map_cons, lv_args]
      refine List.mem_cons_of_mem _ ?_
      simpa [hc] using this
theorem qm_sl_len {ad : Nat → Nat} {b : Nat} : ∀ (a : List qm_V), (lg_sl (a.map (qm_cv ad b))).length = a.length
  | [] => rfl
  | x :: r => by
    have hc := qm_cat ad b x
    have ih := qm_sl_len (ad := ad) (b := b) r
    unfold lg_sl at *
    rw [List.map_cons, List.flatMap_cons, List.length_append, ih, hc]
    simp
    omega
def qm_rkOk (rk : Nat) (ret : Option FieldType) : Bool := match ret with
  | none => Nat.beq rk 0
  | some .int => Nat.beq rk 1
  | some .boolean => Nat.beq rk 2
  | some (.object _) => Nat.beq rk 3
  | _ => false
/-- a method's record is right -/
def qm_MOk (I : Nat → qm_Y) (P : Nat → qm_MI × Nat) (y : Nat) : Prop :=
  qm_Ok I P (I y).1 (I y).2.2.1 (I y).2.2.2.1 (decide ((I y).2.1.name = "<init>")) (P y).1 ∧ (I y).2.1.cls = (I y).1 ∧ plainName (I y).1 = true ∧ (P y).2 = (I y).2.2.2.1 ∧ qm_rkOk (P y).1.2.2.1 (I y).2.2.2.2 = true ∧ (P y).1.2.2.2.2.2 = none
theorem qm_entry {ad : Nat → Nat} {b nL : Nat} (a : List qm_V) (h : a.length ≤ nL) : qm_LH ((lg_sl (a.map (qm_cv ad b)) ++ List.replicate (nL - (lg_sl (a.map (qm_cv ad b))).length) Slot.unset).toArray) nL ad b (a.map some ++ List.replicate (nL - a.length) none) := by
  have hl := lv_entry (a.map (qm_cv ad b)) (n := nL) (by rw [qm_sl_len]; exact h)
  refine ⟨hl.1, hl.2.1, fun i v hv => ?_⟩
  refine hl.2.2 (i, qm_cv ad b v) ?_
  by_cases hi : i < a.length
  · rw [List.getElem?_append_left (by rw [List.length_map]; exact hi), List.getElem?_map] at hv
    have := qm_args_mem (ad := ad) (b := b) a 0 i v (by
      cases ha : a[i]? with
      | none => rw [ha] at hv; cases hv
      | some w => rw [ha] at hv; simp only [Option.map_some, Option.some.injEq] at hv; rw [hv])
    rw [Nat.zero_add] at this
    exact this
  · rw [List.getElem?_append_right (by rw [List.length_map]; omega), List.getElem?_replicate] at hv
    split at hv <;> simp at hv
theorem qm_entryOk {L : qm_L} {a : List qm_V} {n : Nat} (h : ∀ v ∈ a, qm_okV L v) (i : Nat) (v : qm_V) (hv : (a.map some ++ List.replicate n none)[i]? = some (some v)) : qm_okV L v := by
  have hm := List.mem_of_getElem? hv
  rcases List.mem_append.mp hm with h1 | h1
  · obtain ⟨w, hw, he⟩ := List.mem_map.mp h1
    cases he
    exact h v hw
  · exact absurd (List.eq_of_mem_replicate h1) (by simp)
theorem qm_sound {l : Launch} {I : Nat → qm_Y} {P : Nat → qm_MI × Nat} (hI : ∀ y, qm_MOk I P y) : ∀ (d y : Nat) (a : List qm_V) (L : qm_L) (M : qm_M) (K : qm_K), qm_Runs P d y a L M K → qm_Met l I P d y a L M K
  | 0, _, _, _, _, _, h => h.elim
  | d + 1, y, a, L, M, K, h => by
    have IH := qm_sound (l := l) hI d
    obtain ⟨hlen, hT⟩ := h
    obtain ⟨hOk, hcls, hpl, hmx, hrk, hsn⟩ := hI y
    intro D cA ad b sz hokL hokM hokA
    refine Met.ofW (cc := (I y).2.2.1) (maxL := (I y).2.2.2.1) (ret := (I y).2.2.2.2) (by rw [hcls]; exact hpl) rfl ?_
    intro p e s m args below meth c s₁ B hml hv
    obtain ⟨rfl, hsz, hP, hK, hD0⟩ := hv
    have hx := B.exec
    have hb := B.bytes
    have hr := B.returns
    have hts : ∀ w ∈ qm_ws (I y), w.before (a.map (qm_cv ad b)).toArray s = true := atoms_spec (ws := qm_ws (I y)) B.pre
    have hown : s.vm.findClass (I y).2.1.cls = some m.cls := findClass_of_methodNamed B.named
    have hlocks := B.notSynchronized
    subst hsz
    have hD := hD0.self (sz := s.heap.size)
    have hA : ∀ q : Nat, s.heap.size ≤ q → va_A (qm_w cA ad L M) s.heap.size q := fun q h => Or.inr h
    rw [hcls] at hown
    have C : qm_Ctx p (headSpec (qm_ws (I y)) (qm_rm (d + 1) (P y).1)).room s m (a.map (qm_cv ad b)).toArray meth c (I y).1 (I y).2.2.1 (I y).2.2.2.1 (decide ((I y).2.1.name = "<init>")) (P y).1 D cA b (va_A (qm_w cA ad L M) s.heap.size) d :=
      ⟨hx, hb, hml, hown, fun w hw => hts w (List.mem_cons_of_mem _ hw), hK, hA, fun sc hs => (by rw [hsn] at hs; cases hs), Nat.le_refl _, Nat.le_refl _, Nat.le_refl _, (by show 64 * d + 64 ≤ 64 * (d + 1); omega), fun hi => ((name_of_methodNamed B.named B.method).1).trans (of_decide_eq_true hi)⟩
    have hret : qm_Ret p l e (headSpec (qm_ws (I y)) (qm_rm (d + 1) (P y).1)).room s m (a.map (qm_cv ad b)).toArray below meth c (MQ below (qm_Qc D cA ad b L M s.heap.size K (P y).1.2.2.1) (a.map (qm_cv ad b)).toArray s (P y).1.2.2.2.1 (P y).1.2.2.2.2.1 (va_A (qm_w cA ad L M) s.heap.size)) (I y).2.2.1 (P y).1 D cA (va_A (qm_w cA ad L M) s.heap.size) L ad K := by
      intro pc i r stk ad' H locs lsA L' M' k n hdg hrt hQ hokr hw
      obtain ⟨w1, w2, w3, w4, w5, w6, w7, w8, w9⟩ := hw
      refine W.widen (k := (P y).1.2.2.2.1) (n := (P y).1.2.2.2.2.1) w6 w7 ?_
      have hq : ∀ (v : Option Value), v = cond (Nat.beq (P y).1.2.2.1 0) none (some (qm_cv ad' b r)) → ∀ t : State, t.heap = H → s.WarmedH t.vm → qm_Qc D cA ad b L M s.heap.size K (P y).1.2.2.1 (a.map (qm_cv ad b)).toArray s (.returned v) t := by
        rintro v rfl t ht hW
        exact ⟨⟨r, L', M', ad', rfl, hQ, hokr, w8, w9, w1, w2, by rw [ht]; exact w3, w4⟩, w5.F ht⟩
      rcases hrt with ⟨rfl, v, rfl, rfl, hrt⟩ | ⟨rfl, h0, rfl, rfl⟩ | ⟨rfl, h3, o, rfl, rfl⟩
      · unfold qm_rkOk at hrk
        rcases hrt with ⟨h2, h01⟩ | h1
        · rw [h2] at hrk
          split at hrk <;> try (cases hrk; done)
          rename_i ty hty
          refine W.zret (ty := .boolean) hx hb (by rw [hr, hty]) (by rcases h01 with rfl | rfl <;> rfl) (hq _ (by rw [h2]; rfl)) w5.2.2 hdg
        · rw [h1] at hrk
          split at hrk <;> try (cases hrk; done)
          rename_i ty hty
          exact W.iret hx hb (by rw [hr, hty]) (hq _ (by rw [h1]; rfl)) w5.2.2 hdg
      · unfold qm_rkOk at hrk
        rw [h0] at hrk
        split at hrk <;> try (cases hrk; done)
        rename_i ty hty
        exact W.vret hx hb (by rw [hr, hty]) (hq _ (by rw [h0]; rfl)) w5.2.2 hdg
      · unfold qm_rkOk at hrk
        rw [h3] at hrk
        split at hrk <;> try (cases hrk; done)
        rename_i ty nm hty
        exact W.aret (rt := .object nm) hx hb (by rw [hr, hty]) (Or.inl ⟨_, rfl⟩) (Or.inr ⟨_, rfl⟩) (hq _ (by rw [h3]; rfl)) w5.2.2 hdg
    have hsim := hT _ (fun pc ls st L2 M2 k n h => qm_sim (Q := K) (L0 := L) (ad0 := ad) (Qw := MQ below (qm_Qc D cA ad b L M s.heap.size K (P y).1.2.2.1) (a.map (qm_cv ad b)).toArray s (P y).1.2.2.2.1 (P y).1.2.2.2.2.1 (va_A (qm_w cA ad L M) s.heap.size)) C hOk IH hret pc ls st L2 M2 k n h)
    rw [hmx] at hlen hsim
    rw [lg_entry_eq]
    exact hsim ad s.heap [] _ ⟨hokL, hokM, hP, hD, va_S.rf, Nat.zero_le _, Nat.zero_le _, fun _ _ => rfl, Nat.le_refl _⟩ (fun v hv => by cases hv) (qm_entryOk hokA) (qm_entry a hlen)
