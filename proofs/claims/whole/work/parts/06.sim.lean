section QT
variable {p : Program} {l : Launch} {e : Env} {R : Room} {s : State} {m : MethodId} {args : Array Value} {below : List Frame} {meth : Method} {c : Code} {Qw : State → Prop}
variable {I : Nat → qm_Y} {P : Nat → qm_MI × Nat} {own : String} {bytes : ByteArray} {nL : Nat} {isInit : Bool} {mi : qm_MI} {D : va_G} {cA : ClassId} {b : Nat} {A : Nat → Prop} {d : Nat} {L0 : qm_L} {ad0 : Nat → Nat} {Q : qm_K}
theorem qm_okI {L : qm_L} {st : List qm_V} {v : qm_V} (hv : qm_okV L v) (h : ∀ w ∈ st, qm_okV L w) : ∀ w ∈ v :: st, qm_okV L w := fun w hw => by
  rcases List.mem_cons.mp hw with rfl | hw
  · exact hv
  · exact h w hw
theorem qm_okT {L : qm_L} {st : List qm_V} {v : qm_V} (h : ∀ w ∈ v :: st, qm_okV L w) : ∀ w ∈ st, qm_okV L w := fun w hw => h w (List.mem_cons_of_mem _ hw)
theorem qm_okS {L : qm_L} {ls : List (Option qm_V)} {k : Nat} {v : qm_V} (hv : qm_okV L v) (h : ∀ (i : Nat) (w : qm_V), ls[i]? = some (some w) → qm_okV L w) : ∀ (i : Nat) (w : qm_V), (ls.set k (some v))[i]? = some (some w) → qm_okV L w := by
  intro i w hw
  by_cases hi : i = k
  · subst hi
    rw [List.getElem?_set] at hw
    simp only [if_true] at hw
    split at hw
    · cases hw; exact hv
    · cases hw
  · rw [List.getElem?_set_ne (Ne.symm hi)] at hw
    exact h i w hw
theorem qm_R1 {v : Int} {a b : Int} (h1 : a ≤ v) (h2 : v ≤ b) (ha : -2147483648 ≤ a := by decide) (hb : b ≤ 2147483647 := by decide) : qm_R v := ⟨Int.le_trans ha h1, Int.le_trans h2 hb⟩
theorem qm_sw_keys {a : Int} {X : Nat → Prop} {t0 : Nat} : ∀ (ts : List Nat) (j : Nat), qm_sw a X t0 (qm_keys j ts) → (∃ i : Nat, i < ts.length ∧ a = ((j + i : Nat) : Int) ∧ X (ts.getD i 0)) ∨ ((∀ i : Nat, i < ts.length → a ≠ ((j + i : Nat) : Int)) ∧ X t0)
  | [], _, h => Or.inr ⟨fun i hi => absurd hi (Nat.not_lt_zero _), h⟩
  | t :: r, j, h => by
    by_cases hq : a = Int.ofNat j
    · exact Or.inl ⟨0, by simp, hq, h.1 hq⟩
    · rcases qm_sw_keys r (j + 1) (h.2 hq) with ⟨i, h1, h2, h3⟩ | ⟨h1, h2⟩
      · exact Or.inl ⟨i + 1, by simp only [List.length_cons]; omega, by rw [h2]; congr 1; omega, h3⟩
      · refine Or.inr ⟨fun i hi => ?_, h2⟩
        cases i with
        | zero => exact hq
        | succ i =>
          have := h1 i (by simp only [List.length_cons] at hi; omega)
          rw [show j + (i + 1) = j + 1 + i by omega]
          exact this
theorem qm_sw_zip {a : Int} {X : Nat → Prop} {t0 : Nat} {pc : Nat} {d : Int} (h0 : qm_off pc d t0 = true) : ∀ (ps : List (Int × Int)) (ts : List Nat), ts.length = ps.length → (∀ i o, ps[i]? = some o → qm_off pc o.2 (ts.getD i 0) = true) → qm_sw a X t0 (qm_zip ps ts) → ∃ t, X t ∧ (pc : Int) + Op.lookupswitch.offset ps d a = (t : Int)
  | [], _, _, _, h => by
    refine ⟨t0, ?_, of_decide_eq_true h0⟩
    cases ‹List Nat› <;> exact h
  | q :: ps, [], hl, _, _ => by simp at hl
  | q :: ps, t :: ts, hl, ho, h => by
    obtain ⟨q1, q2⟩ := q
    rw [Op.lookupswitch.offset_cons]
    by_cases hq : a = q1
    · rw [if_pos hq.symm]
      exact ⟨t, h.1 hq, of_decide_eq_true (ho 0 (q1, q2) rfl)⟩
    · rw [if_neg (fun z => hq z.symm)]
      exact qm_sw_zip h0 ps ts (by simpa using hl) (fun i o hi => ho (i + 1) o hi) (h.2 hq)
theorem qm_arrW : Cond.arrayClass .int ∈ qm_tb := qm_tbl (i := 97) (by decide +kernel) rfl
theorem qm_sim (C : qm_Ctx p R s m args meth c own bytes nL isInit mi D cA b A d) (O : qm_Ok I P own bytes nL isInit mi) (IH : ∀ y a L M K, qm_Runs P d y a L M K → qm_Met l I P d y a L M K)
    (hret : qm_Ret p l e R s m args below meth c Qw bytes mi D cA A L0 ad0 Q) (pc : Nat) (ls : List (Option qm_V)) (st : List qm_V) (L : qm_L) (M : qm_M) (k n : Nat)
    (h : qm_one mi (qm_Runs P d) Q (qm_G p l e R s m args below meth c Qw nL mi D cA b A L0 ad0) pc ls st L M k n) : qm_G p l e R s m args below meth c Qw nL mi D cA b A L0 ad0 pc ls st L M k n := by
  unfold qm_one at h
  split at h
  case h_2 => exact h.elim
  rename_i x hx0
  obtain ⟨i, len, ts⟩ := x
  have hmem := qm_lk_mem hx0
  have hd := O.1 _ hmem
  have hk := O.2.1 _ hmem
  have O3 := O.2.2.1
  have O4 := O.2.2.2.1
  have O5 := O.2.2.2.2
  clear O hx0 hmem
  have CC := C
  obtain ⟨hx, hb, hml, hown, hts, hK, hA, hsc, hRc, hRs, hRf, hRl, hin⟩ := C
  simp only at h hd hk
  unfold qm_ins at h
  split at h
  case h_1 v =>
    simp only [qm_chk, Bool.and_eq_true, decide_eq_true_eq] at hk
    obtain ⟨hn, hv1, hv2⟩ := hk
    have hn := Nat.eq_of_beq_eq_true hn
    subst hn
    intro ad H locs lsA hw hst hls hl
    refine lv_iconst hx hb hd rfl ?_
    exact h ad H locs lsA hw (qm_okI (show qm_R v from qm_R1 hv1 hv2) hst) hls hl
  case h_2 v =>
    simp only [qm_chk, Bool.and_eq_true, decide_eq_true_eq] at hk
    obtain ⟨hn, hv0, hv1, hv2⟩ := hk
    have hn := Nat.eq_of_beq_eq_true hn
    subst hn
    intro ad H locs lsA hw hst hls hl
    refine lv_bipush hx hb hd hv0 ?_
    exact h ad H locs lsA hw (qm_okI (show qm_R v from qm_R1 hv1 hv2) hst) hls hl
  case h_3 v =>
    simp only [qm_chk, Bool.and_eq_true, decide_eq_true_eq] at hk
    obtain ⟨hn, hv0, hv1, hv2⟩ := hk
    have hn := Nat.eq_of_beq_eq_true hn
    subst hn
    intro ad H locs lsA hw hst hls hl
    refine lv_sipush hx hb hd hv0 ?_
    exact h ad H locs lsA hw (qm_okI (show qm_R v from qm_R1 hv1 hv2) hst) hls hl
  case h_4 j =>
    have hn := Nat.eq_of_beq_eq_true hk
    subst hn
    intro ad H locs lsA hw hst hls hl
    unfold qm_li at h
    split at h
    · rename_i v hv
      exact lv_iload hx hb hd (hl.2.2 _ _ hv) (h ad H locs lsA hw (qm_okI (hls _ _ hv) hst) hls hl)
    · exact h.elim
  case h_5 j =>
    have hn := Nat.eq_of_beq_eq_true hk
    subst hn
    intro ad H locs lsA hw hst hls hl
    unfold qm_li at h
    split at h
    · rename_i v hv
      exact lv_iload_n hx hb hd rfl (hl.2.2 _ _ hv) (h ad H locs lsA hw (qm_okI (hls _ _ hv) hst) hls hl)
    · exact h.elim
  case h_6 j =>
    have hn := Nat.eq_of_beq_eq_true hk
    subst hn
    intro ad H locs lsA hw hst hls hl
    unfold qm_lr at h
    split at h
    · rename_i v hv
      cases v with
      | none => exact lv_aload hx hb hd (hl.2.2 _ _ hv) (h ad H locs lsA hw (qm_okI (hls _ _ hv) hst) hls hl)
      | some o => exact lv_aload hx hb hd (hl.2.2 _ _ hv) (h ad H locs lsA hw (qm_okI (hls _ _ hv) hst) hls hl)
    · exact h.elim
  case h_7 j =>
    have hn := Nat.eq_of_beq_eq_true hk
    subst hn
    intro ad H locs lsA hw hst hls hl
    unfold qm_lr at h
    split at h
    · rename_i v hv
      cases v with
      | none => exact lv_aload_n hx hb hd rfl (hl.2.2 _ _ hv) (h ad H locs lsA hw (qm_okI (hls _ _ hv) hst) hls hl)
      | some o => exact lv_aload_n hx hb hd rfl (hl.2.2 _ _ hv) (h ad H locs lsA hw (qm_okI (hls _ _ hv) hst) hls hl)
    · exact h.elim
  case h_8 j =>
    simp only [qm_chk, Bool.and_eq_true] at hk
    obtain ⟨hn, hj⟩ := hk
    have hn := Nat.eq_of_beq_eq_true hn
    have hj := Nat.le_of_ble_eq_true hj
    subst hn
    intro ad H locs lsA hw hst hls hl
    unfold qm_ti at h
    split at h
    · rename_i a r
      exact lv_istore hx hb hd (qm_LH_has hl) hj rfl (fun ls' hl' => h ad H locs ls' hw (qm_okT hst) (qm_okS (hst _ List.mem_cons_self) hls) (qm_LH_set (v := .inl a) hl'))
    · exact h.elim
  case h_9 j =>
    simp only [qm_chk, Bool.and_eq_true] at hk
    obtain ⟨hn, hj⟩ := hk
    have hn := Nat.eq_of_beq_eq_true hn
    have hj := Nat.le_of_ble_eq_true hj
    subst hn
    intro ad H locs lsA hw hst hls hl
    unfold qm_ti at h
    split at h
    · rename_i a r
      exact lv_istore_n hx hb hd rfl (qm_LH_has hl) hj rfl (fun ls' hl' => h ad H locs ls' hw (qm_okT hst) (qm_okS (hst _ List.mem_cons_self) hls) (qm_LH_set (v := .inl a) hl'))
    · exact h.elim
  case h_10 j =>
    simp only [qm_chk, Bool.and_eq_true] at hk
    obtain ⟨hn, hj⟩ := hk
    have hn := Nat.eq_of_beq_eq_true hn
    have hj := Nat.le_of_ble_eq_true hj
    subst hn
    intro ad H locs lsA hw hst hls hl
    unfold qm_tr at h
    split at h
    · rename_i a r
      exact lv_astore hx hb hd (qm_LH_has hl) hj rfl (fun ls' hl' => h ad H locs ls' hw (qm_okT hst) (qm_okS (hst _ List.mem_cons_self) hls) (qm_LH_set (v := .inr (some a)) hl'))
    · exact h.elim
  case h_11 j =>
    simp only [qm_chk, Bool.and_eq_true] at hk
    obtain ⟨hn, hj⟩ := hk
    have hn := Nat.eq_of_beq_eq_true hn
    have hj := Nat.le_of_ble_eq_true hj
    subst hn
    intro ad H locs lsA hw hst hls hl
    unfold qm_tr at h
    split at h
    · rename_i a r
      exact lv_astore_n hx hb hd rfl (qm_LH_has hl) hj rfl (fun ls' hl' => h ad H locs ls' hw (qm_okT hst) (qm_okS (hst _ List.mem_cons_self) hls) (qm_LH_set (v := .inr (some a)) hl'))
    · exact h.elim
  case h_12 j dl =>
    simp only [qm_chk, Bool.and_eq_true] at hk
    obtain ⟨hn, hj⟩ := hk
    have hn := Nat.eq_of_beq_eq_true hn
    have hj := Nat.le_of_ble_eq_true hj
    subst hn
    intro ad H locs lsA hw hst hls hl
    unfold qm_li at h
    split at h
    · rename_i v hv
      have hmem : (j, qm_cv ad b (.inl v)) ∈ qm_pl ad b ls := qm_pl_mem.mpr ⟨_, hv, rfl⟩
      obtain ⟨kk, hkk⟩ := List.getElem?_of_mem hmem
      exact lv_iinc (v := Int32.ofInt (v + dl)) hx hb hd (qm_LH_has hl) (k := kk) hkk (by rw [Int32.ofInt_add]) hj rfl (fun ls' hl' => h.2 ad H locs ls' hw hst (qm_okS h.1 hls) (qm_LH_set (v := .inl (v + dl)) hl'))
    · exact h.elim
  case h_13 =>
    have hn := Nat.eq_of_beq_eq_true hk
    subst hn
    intro ad H locs lsA hw hst hls hl
    unfold qm_tii at h
    split at h
    · rename_i y x r
      have ry : qm_R y := hst _ List.mem_cons_self
      have rx : qm_R x := hst _ (List.mem_cons_of_mem _ List.mem_cons_self)
      refine lv_iadd hx hb hd ?_
      have := h.2 ad H locs lsA hw (qm_okI (v := .inl (x + y)) (h.1) (qm_okT (qm_okT hst))) hls hl
      rw [← Int32.ofInt_add]; exact this
    · exact h.elim
  case h_14 =>
    have hn := Nat.eq_of_beq_eq_true hk
    subst hn
    intro ad H locs lsA hw hst hls hl
    unfold qm_tii at h
    split at h
    · rename_i y x r
      have ry : qm_R y := hst _ List.mem_cons_self
      have rx : qm_R x := hst _ (List.mem_cons_of_mem _ List.mem_cons_self)
      refine lv_isub hx hb hd ?_
      have := h.2 ad H locs lsA hw (qm_okI (v := .inl (x - y)) (h.1) (qm_okT (qm_okT hst))) hls hl
      rw [← Int32.ofInt_sub]; exact this
    · exact h.elim
  case h_15 =>
    have hn := Nat.eq_of_beq_eq_true hk
    subst hn
    intro ad H locs lsA hw hst hls hl
    unfold qm_tii at h
    split at h
    · rename_i y x r
      have ry : qm_R y := hst _ List.mem_cons_self
      have rx : qm_R x := hst _ (List.mem_cons_of_mem _ List.mem_cons_self)
      refine lv_imul hx hb hd ?_
      have := h.2 ad H locs lsA hw (qm_okI (v := .inl (x * y)) (h.1) (qm_okT (qm_okT hst))) hls hl
      rw [← Int32.ofInt_mul]; exact this
    · exact h.elim
  case h_16 =>
    have hn := Nat.eq_of_beq_eq_true hk
    subst hn
    intro ad H locs lsA hw hst hls hl
    unfold qm_tii at h
    split at h
    · rename_i y x r
      have ry : qm_R y := hst _ List.mem_cons_self
      have rx : qm_R x := hst _ (List.mem_cons_of_mem _ List.mem_cons_self)
      refine lv_idiv hx hb hd (fun q => by have := (qm_eqR ry (show qm_R 0 from ⟨by decide, by decide⟩)).mp q; have := h.1; omega) ?_
      have := h.2 ad H locs lsA hw (qm_okI (v := .inl (x.tdiv y)) (qm_tdR' rx h.1) (qm_okT (qm_okT hst))) hls hl
      rw [qm_divR rx ry h.1]; exact this
    · exact h.elim
  case h_17 =>
    have hn := Nat.eq_of_beq_eq_true hk
    subst hn
    intro ad H locs lsA hw hst hls hl
    unfold qm_tii at h
    split at h
    · rename_i y x r
      have ry : qm_R y := hst _ List.mem_cons_self
      have rx : qm_R x := hst _ (List.mem_cons_of_mem _ List.mem_cons_self)
      refine lv_irem hx hb hd (fun q => by have := (qm_eqR ry (show qm_R 0 from ⟨by decide, by decide⟩)).mp q; have := h.1; omega) ?_
      have := h.2 ad H locs lsA hw (qm_okI (v := .inl (x.tmod y)) (qm_tmR ry h.1) (qm_okT (qm_okT hst))) hls hl
      rw [qm_remR rx ry h.1]; exact this
    · exact h.elim
  case h_18 =>
    have hn := Nat.eq_of_beq_eq_true hk
    subst hn
    intro ad H locs lsA hw hst hls hl
    unfold qm_ti at h
    split at h
    · rename_i x r
      refine lv_ineg hx hb hd ?_
      have := h.2 ad H locs lsA hw (qm_okI (v := .inl (-x)) h.1 (qm_okT hst)) hls hl
      simp only [List.map_cons, qm_cv, Int32.ofInt_neg] at this
      exact this
    · exact h.elim
  case h_19 =>
    have hn := Nat.eq_of_beq_eq_true hk
    subst hn
    intro ad H locs lsA hw hst hls hl
    unfold qm_tii at h
    split at h
    · rename_i y x r
      have ry : qm_R y := hst _ List.mem_cons_self
      have rx : qm_R x := hst _ (List.mem_cons_of_mem _ List.mem_cons_self)
      refine lv_iand hx hb hd ?_
      have := h ad H locs lsA hw (qm_okI (v := .inl (qm_and x y)) (qm_R32 _) (qm_okT (qm_okT hst))) hls hl
      simp only [List.map_cons, qm_cv, qm_and, Int32.ofInt_toInt] at this
      exact this
    · exact h.elim
  case h_20 =>
    have hn := Nat.eq_of_beq_eq_true hk
    subst hn
    intro ad H locs lsA hw hst hls hl
    unfold qm_tii at h
    split at h
    · rename_i y x r
      have ry : qm_R y := hst _ List.mem_cons_self
      have rx : qm_R x := hst _ (List.mem_cons_of_mem _ List.mem_cons_self)
      refine lv_ior hx hb hd ?_
      have := h ad H locs lsA hw (qm_okI (v := .inl (qm_or x y)) (qm_R32 _) (qm_okT (qm_okT hst))) hls hl
      simp only [List.map_cons, qm_cv, qm_or, Int32.ofInt_toInt] at this
      exact this
    · exact h.elim
  case h_21 =>
    have hn := Nat.eq_of_beq_eq_true hk
    subst hn
    intro ad H locs lsA hw hst hls hl
    unfold qm_tii at h
    split at h
    · rename_i y x r
      have ry : qm_R y := hst _ List.mem_cons_self
      have rx : qm_R x := hst _ (List.mem_cons_of_mem _ List.mem_cons_self)
      refine lv_ixor hx hb hd ?_
      have := h ad H locs lsA hw (qm_okI (v := .inl (qm_xor x y)) (qm_R32 _) (qm_okT (qm_okT hst))) hls hl
      simp only [List.map_cons, qm_cv, qm_xor, Int32.ofInt_toInt] at this
      exact this
    · exact h.elim
  case h_22 =>
    have hn := Nat.eq_of_beq_eq_true hk
    subst hn
    intro ad H locs lsA hw hst hls hl
    unfold qm_tii at h
    split at h
    · rename_i y x r
      have ry : qm_R y := hst _ List.mem_cons_self
      have rx : qm_R x := hst _ (List.mem_cons_of_mem _ List.mem_cons_self)
      refine lv_ishl hx hb hd ?_
      have := h ad H locs lsA hw (qm_okI (v := .inl (qm_shl x y)) (qm_R32 _) (qm_okT (qm_okT hst))) hls hl
      simp only [List.map_cons, qm_cv, qm_shl, Int32.ofInt_toInt] at this
      exact this
    · exact h.elim
  case h_23 =>
    have hn := Nat.eq_of_beq_eq_true hk
    subst hn
    intro ad H locs lsA hw hst hls hl
    unfold qm_tii at h
    split at h
    · rename_i y x r
      have ry : qm_R y := hst _ List.mem_cons_self
      have rx : qm_R x := hst _ (List.mem_cons_of_mem _ List.mem_cons_self)
      refine lv_ishr hx hb hd ?_
      have := h ad H locs lsA hw (qm_okI (v := .inl (qm_shr x y)) (qm_R32 _) (qm_okT (qm_okT hst))) hls hl
      simp only [List.map_cons, qm_cv, qm_shr, Int32.ofInt_toInt] at this
      exact this
    · exact h.elim
  case h_24 cd off =>
    simp only [qm_chk, Bool.and_eq_true] at hk
    obtain ⟨hn, ho⟩ := hk
    have hn := Nat.eq_of_beq_eq_true hn
    have ho : (pc : Int) + off = ((ts.getD 0 0 : Nat) : Int) := of_decide_eq_true ho
    subst hn
    intro ad H locs lsA hw hst hls hl
    unfold qm_tii at h
    split at h
    · rename_i y x r
      have ry : qm_R y := hst _ List.mem_cons_self
      have rx : qm_R x := hst _ (List.mem_cons_of_mem _ List.mem_cons_self)
      have k1 := fun q => h.1 q ad H locs lsA hw (qm_okT (qm_okT hst)) hls hl
      have k2 := fun q => h.2 q ad H locs lsA hw (qm_okT (qm_okT hst)) hls hl
      cases cd with
      | eq => exact lv_icmp_eq hx hb hd ho (fun q => k1 ((qm_eqR rx ry).mp q)) (fun q => k2 (fun z => q ((qm_eqR rx ry).mpr z)))
      | ne => exact lv_icmp_ne hx hb hd ho (fun q => k1 ((not_congr (qm_eqR rx ry)).mp q)) (fun q => k2 (fun z => z ((qm_eqR rx ry).mp q)))
      | lt => exact lv_icmp_lt hx hb hd ho (fun q => k1 ((qm_ltR rx ry).mp q)) (fun q => k2 (fun z => q ((qm_ltR rx ry).mpr z)))
      | ge => exact lv_icmp_ge hx hb hd ho (fun q => k1 ((qm_leR ry rx).mp q)) (fun q => k2 (fun z => q ((qm_leR ry rx).mpr z)))
      | gt => exact lv_icmp_gt hx hb hd ho (fun q => k1 ((qm_ltR ry rx).mp q)) (fun q => k2 (fun z => q ((qm_ltR ry rx).mpr z)))
      | le => exact lv_icmp_le hx hb hd ho (fun q => k1 ((qm_leR rx ry).mp q)) (fun q => k2 (fun z => q ((qm_leR rx ry).mpr z)))
    · exact h.elim
  case h_25 cd off =>
    simp only [qm_chk, Bool.and_eq_true] at hk
    obtain ⟨hn, ho⟩ := hk
    have hn := Nat.eq_of_beq_eq_true hn
    have ho : (pc : Int) + off = ((ts.getD 0 0 : Nat) : Int) := of_decide_eq_true ho
    subst hn
    intro ad H locs lsA hw hst hls hl
    unfold qm_ti at h
    split at h
    · rename_i x r
      have rx : qm_R x := hst _ List.mem_cons_self
      have ry : qm_R 0 := ⟨by decide, by decide⟩
      have k1 := fun q => h.1 q ad H locs lsA hw (qm_okT hst) hls hl
      have k2 := fun q => h.2 q ad H locs lsA hw (qm_okT hst) hls hl
      cases cd with
      | eq => exact lv_if_eq hx hb hd ho (fun q => k1 ((qm_eqR rx ry).mp q)) (fun q => k2 (fun z => q ((qm_eqR rx ry).mpr z)))
      | ne => exact lv_if_ne hx hb hd ho (fun q => k1 ((not_congr (qm_eqR rx ry)).mp q)) (fun q => k2 (fun z => z ((qm_eqR rx ry).mp q)))
      | lt => exact lv_if_lt hx hb hd ho (fun q => k1 ((qm_ltR rx ry).mp q)) (fun q => k2 (fun z => q ((qm_ltR rx ry).mpr z)))
      | ge => exact lv_if_ge hx hb hd ho (fun q => k1 ((qm_leR ry rx).mp q)) (fun q => k2 (fun z => q ((qm_leR ry rx).mpr z)))
      | gt => exact lv_if_gt hx hb hd ho (fun q => k1 ((qm_ltR ry rx).mp q)) (fun q => k2 (fun z => q ((qm_ltR ry rx).mpr z)))
      | le => exact lv_if_le hx hb hd ho (fun q => k1 ((qm_leR rx ry).mp q)) (fun q => k2 (fun z => q ((qm_leR rx ry).mpr z)))
    · exact h.elim
  case h_26 off =>
    simp only [qm_chk, Bool.and_eq_true] at hk
    obtain ⟨hn, ho⟩ := hk
    have ho : (pc : Int) + off = ((ts.getD 0 0 : Nat) : Int) := of_decide_eq_true ho
    have hn := Nat.eq_of_beq_eq_true hn
    subst hn
    intro ad H locs lsA hw hst hls hl
    exact lv_goto hx hb hd ho (h ad H locs lsA hw hst hls hl)
  case h_27 dd lo hi offs =>
    simp only [qm_chk, Bool.and_eq_true, decide_eq_true_eq] at hk
    obtain ⟨⟨⟨⟨h1, h2⟩, h3⟩, h4⟩, h5⟩ := hk
    have h4 := Nat.eq_of_beq_eq_true h4
    have h3 : (pc : Int) + dd = ((ts.getD 0 0 : Nat) : Int) := of_decide_eq_true h3
    have h2 : hi + 1 = (offs.size : Int) := h2
    subst h1
    intro ad H locs lsA hw hst hls hl
    unfold qm_ti at h
    split at h
    · rename_i x r
      have rx : qm_R x := hst _ List.mem_cons_self
      rcases qm_sw_keys _ _ h with ⟨i, q1, q2, q3⟩ | ⟨q1, q2⟩
      · have h6 := List.all_eq_true.mp h5 i (List.mem_range.mpr (by omega))
        split at h6
        · rename_i o heq
          refine lv_tableIn (off := o) (tgt := ts.tail.getD i 0) hx hb hd ?_ ?_ ?_ (of_decide_eq_true h6) (q3 ad H locs lsA hw (qm_okT hst) hls hl)
          · rw [qm_ofR rx]; omega
          · rw [qm_ofR rx]; omega
          · rw [qm_ofR rx, q2, ← heq]
            congr 1
            omega
        · cases h6
      · refine lv_tableOut hx hb hd ?_ h3 (q2 ad H locs lsA hw (qm_okT hst) hls hl)
        rw [qm_ofR rx]
        rcases Int.lt_or_le x 0 with hx0 | hx0
        · exact Or.inl hx0
        · refine Or.inr ?_
          rcases Int.lt_or_le hi x with hx1 | hx1
          · exact hx1
          · exfalso
            exact q1 x.toNat (by omega) (by omega)
    · exact h.elim
  case h_28 dd ps =>
    simp only [qm_chk, Bool.and_eq_true] at hk
    obtain ⟨⟨⟨h1, h2⟩, h3⟩, h4⟩ := hk
    have h3 := Nat.eq_of_beq_eq_true h3
    intro ad H locs lsA hw hst hls hl
    unfold qm_ti at h
    split at h
    · rename_i x r
      have rx : qm_R x := hst _ List.mem_cons_self
      obtain ⟨t, k1, k2⟩ := qm_sw_zip h2 ps.toList ts.tail h3 (fun i o hi => by
        have h6 := List.all_eq_true.mp h4 i (List.mem_range.mpr (List.getElem?_eq_some_iff.mp hi).1)
        rw [hi] at h6
        exact h6) h
      exact lv_lookup hx hb hd h1 rfl (by rw [qm_ofR rx]; exact k2) (k1 ad H locs lsA hw (qm_okT hst) hls hl)
    · exact h.elim
  case h_29 idx =>
    have hn := Nat.eq_of_beq_eq_true hk
    subst hn
    split at h
    · rename_i f hf
      obtain ⟨ci, kf, tag⟩ := f
      obtain ⟨h3, g2⟩ := O3 _ (qm_lk_mem hf)
      unfold qm_wF at g2
      unfold qm_okF at h3
      split at h3
      · rename_i r hr
        simp only [Bool.and_eq_true, decide_eq_true_eq] at h3
        obtain ⟨⟨g1, g3⟩, g4⟩ := h3
        simp only at g2 hr
        rw [hr] at g2
        simp only at g2
        obtain ⟨k1, k2, k3⟩ := qm_kinds hr
        intro ad H locs lsA hw hst hls hl
        obtain ⟨hokL, hokM, hP, -⟩ := id hw
        unfold qm_tr at h
        split at h
        · rename_i o rr
          simp only at h
          cases ht : Nat.beq tag 2 with
          | true =>
            rw [ht] at h
            obtain ⟨f, ⟨fs, e1, e2⟩, h⟩ := h
            refine va_get (D := D) (v := .ref (ad f)) hx hb hts k1 hown hK hP o (qm_w_get e1) hr kf g1 (hts _ g2) (fun _ h9 => h9) ?_ hd ?_
            · simp [e2, qm_fv]
            · exact h ad H locs lsA hw (qm_okI (show f < L.length from hokL o _ e1 ci fs kf f rfl e2) (qm_okT hst)) hls hl
          | false =>
            rw [ht] at h
            obtain ⟨⟨fs, e1, e2⟩, h⟩ := h
            refine va_get (D := D) (v := .int (Int32.ofInt (M o kf))) hx hb hts k1 hown hK hP o (qm_w_get e1) hr kf g1 (hts _ g2) (fun _ h9 => h9) ?_ hd ?_
            · simp [e2, qm_fv]
            · exact h ad H locs lsA hw (qm_okI (v := .inl (M o kf)) (hokM o kf) (qm_okT hst)) hls hl
        · exact h.elim
      · cases h3
    · exact h.elim
  case h_30 idx =>
    simp only [qm_chk, Bool.and_eq_true] at hk
    obtain ⟨hn, hk⟩ := hk
    have hn := Nat.eq_of_beq_eq_true hn
    subst hn
    split at h
    · rename_i f hf
      rw [hf] at hk
      obtain ⟨ci, kf, tag⟩ := f
      obtain ⟨h3, g2⟩ := O3 _ (qm_lk_mem hf)
      unfold qm_wF at g2
      unfold qm_okF at h3
      split at h3
      · rename_i r hr
        simp only at hk hr h
        rw [hr] at hk
        simp only [Bool.and_eq_true, decide_eq_true_eq] at h3
        obtain ⟨⟨g1, g3⟩, g4⟩ := h3
        simp only at g2 hr
        rw [hr] at g2
        simp only at g2
        obtain ⟨k1, ⟨ty0, k2⟩, k3⟩ := qm_kinds hr
        rw [k2 kf g1] at g4
        simp only at g4
        intro ad H locs lsA hw hst hls hl
        obtain ⟨hokL, hokM, hP, hD, hS, hb1, hb2, hb3, hb4⟩ := id hw
        have hput : ∀ (v : Value) (o : Nat) (fs : List (Option (Option Nat))) (rest : List Value), L[o]? = some (.inr (ci, fs)) → kf < fs.length → narrow (ty0 kf) v = v → fits (ty0 kf) v = true →
            (∀ (H1 : Heap) (locs1 : List Loc), va_P D vwCl ((qm_w cA ad L M).set o (ad o, .inr (ci, (fs.mapIdx (fun k f => qm_fv ad M o k f)).set kf v))) H1 → va_D A ((qm_w cA ad L M).set o (ad o, .inr (ci, (fs.mapIdx (fun k f => qm_fv ad M o k f)).set kf v))) → va_S A s.heap H1 locs1 → W p l e R s m args below meth c H1 locs1 k n Qw (F0 m (pc + 3) lsA rest)) →
            W p l e R s m args below meth c H locs k n Qw (F0 m pc lsA (v :: .ref (ad o) :: rest)) := by
          intro v o fs rest e1 e2 hnv hfv kk
          cases hfin : (r.2.1 kf).2.2.2 with
          | false => exact va_put (D := D) hx hb hts k1 ty0 k2 k3 hown hK hP hD hS o (qm_w_get e1) hr kf g1 (hts _ g2) (fun _ h9 => h9) hfin (k2 kf g1) hnv hfv (by rw [List.length_mapIdx]; exact e2) hd kk
          | true =>
            have hk' : (!(r.2.1 kf).2.2.2 || isInit) = true := hk
            rw [hfin] at hk' g3
            exact va_putF (D := D) hx hb hts k1 ty0 k2 k3 hown hK hP hD hS o (qm_w_get e1) hr kf g1 (hts _ g2) (fun _ h9 => h9) hfin (hin (by simpa using hk')) (by simpa using g3) (k2 kf g1) hnv hfv (by rw [List.length_mapIdx]; exact e2) hd kk
        split at h
        · rename_i v o rr
          have rv : qm_R v := hst _ List.mem_cons_self
          cases ht : Nat.beq tag 2 with
          | true => rw [ht] at h; exact h.elim
          | false =>
            rw [ht] at h g4
            cases ht1 : Nat.beq tag 1 with
            | true =>
              rw [ht1] at h g4
              have g4 : ty0 kf = .boolean := of_decide_eq_true g4
              obtain ⟨hv01, ⟨fs, e1, e2⟩, h⟩ := h
              refine hput (.int (Int32.ofInt v)) o fs _ e1 (List.getElem?_eq_some_iff.mp e2).1 ?_ ?_ (fun H1 locs1 a1 a2 a3 => ?_)
              · rw [g4]
                rcases hv01 with rfl | rfl <;> rfl
              · rw [g4]
                rcases hv01 with rfl | rfl <;> decide
              · rw [← qm_w_int e1 e2] at a1 a2
                exact h ad H1 locs1 lsA (qm_Wd_M hw (qm_okM_u hokM rv) a1 a2 a3) (qm_okT (qm_okT hst)) hls hl
            | false =>
              rw [ht1] at h g4
              simp only [cond_false, Bool.and_eq_true, decide_eq_true_eq] at g4
              have g4 : ty0 kf = .int := g4.2
              obtain ⟨⟨fs, e1, e2⟩, h⟩ := h
              refine hput (.int (Int32.ofInt v)) o fs _ e1 (List.getElem?_eq_some_iff.mp e2).1 ?_ ?_ (fun H1 locs1 a1 a2 a3 => ?_)
              · rw [g4]; rfl
              · rw [g4]; rfl
              · rw [← qm_w_int e1 e2] at a1 a2
                exact h ad H1 locs1 lsA (qm_Wd_M hw (qm_okM_u hokM rv) a1 a2 a3) (qm_okT (qm_okT hst)) hls hl
        · rename_i f o rr
          have rf : f < L.length := hst (.inr (some f)) List.mem_cons_self
          cases ht : Nat.beq tag 2 with
          | false => rw [ht] at h; exact h.elim
          | true =>
            rw [ht] at h g4
            obtain ⟨fs, e1, ⟨g, e2⟩, h⟩ := h
            have e3 := (List.getElem?_eq_some_iff.mp e2).1
            refine hput (.ref (ad f)) o fs _ e1 e3 ?_ ?_ (fun H1 locs1 a1 a2 a3 => ?_)
            · generalize ty0 kf = t at g4
              cases t <;> first | rfl | cases g4
            · generalize ty0 kf = t at g4
              cases t <;> first | rfl | cases g4
            · rw [← qm_w_ref e1 e3] at a1 a2
              have hl2 : (L.set o (.inr (ci, fs.set kf (some (some f))))).length = L.length := List.length_set
              exact h ad H1 locs1 lsA ⟨qm_okL_set hokL e1 rf, hokM, a1, a2, a3, hb1, hb2, hb3, by rw [hl2]; exact hb4⟩ (fun v hv => qm_okV_le (by rw [hl2]; exact Nat.le_refl _) (hst v (List.mem_cons_of_mem _ (List.mem_cons_of_mem _ hv)))) (fun i v hv => qm_okV_le (by rw [hl2]; exact Nat.le_refl _) (hls i v hv)) hl
        · exact h.elim
      · cases h3
    · exact h.elim
  case h_31 =>
    have hn := Nat.eq_of_beq_eq_true hk
    subst hn
    intro ad H locs lsA hw hst hls hl
    obtain ⟨hokL, hokM, hP, hD, hS, -⟩ := id hw
    split at h
    · rename_i i o r
      obtain ⟨mm, e1, h1, h2, h⟩ := h
      have ri : qm_R i := hst _ List.mem_cons_self
      refine va_iald (D := D) hx hb hK hP o 0 (qm_w_get e1) rfl (vp_in_iff.mpr ?_) hd ?_
      · rw [qm_ofR ri]; exact ⟨h1, h2⟩
      · rw [qm_clR ri]
        exact h ad H locs lsA hw (qm_okI (v := .inl (M o i.toNat)) (hokM o _) (qm_okT (qm_okT hst))) hls hl
    · rename_i i r
      split at h
      · rename_i sc hs
        obtain ⟨h1, h2, h⟩ := h
        obtain ⟨c1, c2, c3, c4, c5⟩ := hsc sc hs
        have ri : qm_R i := hst _ List.mem_cons_self
        refine va_sld hx hb c1 c2 c3 hS (vp_in_iff.mpr ?_) hd ?_
        · rw [qm_ofR ri]; exact ⟨h1, h2⟩
        · rw [qm_clR ri]
          exact h ad H locs lsA hw (qm_okI (v := .inl (sc.2 i.toNat)) (c5 _) (qm_okT (qm_okT hst))) hls hl
      · exact h.elim
    · exact h.elim
  case h_32 =>
    have hn := Nat.eq_of_beq_eq_true hk
    subst hn
    intro ad H locs lsA hw hst hls hl
    obtain ⟨hokL, hokM, hP, hD, hS, -⟩ := id hw
    split at h
    · rename_i v i o r
      obtain ⟨mm, e1, h1, h2, h⟩ := h
      have rv : qm_R v := hst _ List.mem_cons_self
      have ri : qm_R i := hst _ (List.mem_cons_of_mem _ List.mem_cons_self)
      refine va_iast (D := D) hx hb hK hP hD hS o 0 (qm_w_get e1) rfl (vp_in_iff.mpr ?_) hd (fun H1 locs1 a1 a2 a3 => ?_)
      · rw [qm_ofR ri]; exact ⟨h1, h2⟩
      · rw [qm_clR ri, ← qm_w_arr e1] at a1 a2
        exact h ad H1 locs1 lsA (qm_Wd_M hw (qm_okM_u hokM rv) a1 a2 a3) (qm_okT (qm_okT (qm_okT hst))) hls hl
    · exact h.elim
  case h_33 =>
    have hn := Nat.eq_of_beq_eq_true hk
    subst hn
    intro ad H locs lsA hw hst hls hl
    obtain ⟨hokL, hokM, hP, hD, hS, -⟩ := id hw
    split at h
    · rename_i o r
      obtain ⟨mm, e1, h1, h⟩ := h
      refine va_alen (D := D) hx hb hK hP o 0 (qm_w_get e1) rfl (v := Int32.ofInt (mm : Int)) Int32.ofInt_eq_ofNat.symm hd ?_
      exact h ad H locs lsA hw (qm_okI (v := .inl (mm : Int)) ⟨by omega, by omega⟩ (qm_okT hst)) hls hl
    · rename_i r
      split at h
      · rename_i sc hs
        obtain ⟨c1, c2, c3, c4, c5⟩ := hsc sc hs
        refine va_slen hx hb c1 c2 c3 hS hd ?_
        have := h ad H locs lsA hw (qm_okI (v := .inl (sc.1 : Int)) ⟨by omega, by omega⟩ (qm_okT hst)) hls hl
        simp only [List.map_cons, qm_cv, Int32.ofInt_eq_ofNat] at this
        exact this
      · exact h.elim
    · exact h.elim
  case h_34 idx =>
    have hn := Nat.eq_of_beq_eq_true hk
    subst hn
    split at h
    · rename_i f hf
      generalize f = ci at *
      obtain ⟨h3, h3w⟩ := O4 _ (qm_lk_mem hf)
      unfold qm_okN at h3
      unfold qm_wN at h3w
      split at h3
      · rename_i r hr
        simp only at hr h3w
        rw [hr] at h3w
        obtain ⟨w1, w2, w3⟩ := h3w
        simp only [Bool.and_eq_true] at h3
        obtain ⟨w4, w5⟩ := h3
        have w4 := Nat.eq_of_beq_eq_true w4
        obtain ⟨k1, ⟨ty0, k2⟩, k3⟩ := qm_kinds hr
        intro ad H locs lsA hw hst hls hl
        obtain ⟨hokL, hokM, hP, hD, hS, hb1, hb2, hb3, hb4⟩ := id hw
        cases hbb : (Nat.ble (k + 1) mi.2.2.2.1 && Nat.ble (n + (qm_df.getD ci []).length) mi.2.2.2.2.1) with
        | false => rw [hbb] at h; exact h.elim
        | true =>
          rw [hbb] at h
          simp only [cond_true] at h
          simp only [Bool.and_eq_true] at hbb
          have b1 := Nat.le_of_ble_eq_true hbb.1
          have b2 := Nat.le_of_ble_eq_true hbb.2
          generalize hdf : qm_df.getD ci [] = df at *
          have hty : ∀ j : Nat, j < df.length → (df[j]? = some none ∧ (ty0 j = .int ∨ ty0 j = .boolean)) ∨ (df[j]? = some (some none) ∧ qm_isRef (ty0 j) = true) := by
            intro j hj
            have := List.all_eq_true.mp w5 j (List.mem_range.mpr (by omega))
            rw [k2 j (by omega)] at this
            split at this
            · rename_i t h1 h2
              cases h1
              exact Or.inr ⟨h2, this⟩
            · rename_i t h1 h2
              cases h1
              exact Or.inl ⟨h2, of_decide_eq_true this⟩
            · cases this
          have he : ∀ nn, qm_okE nn (.inr (ci, df)) := by
            intro nn ci2 fs j r2 e1 e2
            cases e1
            have hj := (List.getElem?_eq_some_iff.mp e2).1
            rcases hty j hj with ⟨h1, -⟩ | ⟨h1, -⟩ <;> rw [h1] at e2 <;> cases e2
          refine va_new (D := D) (fs := df.mapIdx (fun k f => qm_fv ad (fun _ _ => 0) 0 k f)) hx hb hts k1 ty0 k2 hown (hts _ w1) (hts _ w2) (hts _ w3) hK hP hD hS hA hr ?_ (Nat.le_trans b1 hRc) (by rw [← w4]; exact Nat.le_trans b2 hRs) hd (fun q H1 a1 a2 a3 => ?_)
          · intro j hj
            rcases hty j (by omega) with ⟨h1, h2⟩ | ⟨h1, h2⟩
            · rcases h2 with h2 | h2 <;> (rw [h2]; simp [vp_V, h1, qm_fv, defaultValue])
            · generalize ty0 j = t at h2
              cases t <;> first | (simp [vp_V, h1, qm_fv, defaultValue]; done) | exact absurd h2 (by decide)
          · have hpush := qm_w_push (cA := cA) (ad := ad) (M := M) q (.inr (ci, df)) hokL he
            have a1' : va_P D vwCl (qm_w cA (fun k => if k = L.length then q else ad k) (L ++ [.inr (ci, df)]) (qm_z M L.length)) H1 := by rw [hpush]; exact a1
            have a2' : va_D A (qm_w cA (fun k => if k = L.length then q else ad k) (L ++ [.inr (ci, df)]) (qm_z M L.length)) := by rw [hpush]; exact a2
            have hex : ∀ i, i < L.length → (fun k => if k = L.length then q else ad k) i = ad i := fun i hi => if_neg (by omega)
            have hle : L.length ≤ (L ++ [(.inr (ci, df) : qm_E)]).length := by rw [List.length_append]; omega
            have := h (fun k => if k = L.length then q else ad k) H1 locs lsA ⟨qm_okL_push _ hokL he, qm_okM_z hokM, a1', a2', a3, b1, b2, fun i hi => by rw [hex i (by omega)]; exact hb3 i hi, Nat.le_trans hb4 hle⟩
              (qm_okI (show L.length < _ by rw [List.length_append]; exact Nat.lt_succ_self _) (fun v hv => qm_okV_le hle (hst v hv))) (fun i v hv => qm_okV_le hle (hls i v hv)) (qm_LH_ext hl hex hls)
            rw [← w4]
            rw [List.map_cons, qm_cv_map b hex hst] at this
            simp only [qm_cv, if_true] at this
            exact this
      · cases h3
    · exact h.elim
  case h_35 =>
    have hn := Nat.eq_of_beq_eq_true hk
    subst hn
    intro ad H locs lsA hw hst hls hl
    obtain ⟨hokL, hokM, hP, hD, hS, hb1, hb2, hb3, hb4⟩ := id hw
    split at h
    · rename_i mm rr
      obtain ⟨h1, h2, h3, h⟩ := h
      have h1 := Nat.le_of_ble_eq_true h1
      have b1 := Nat.le_of_ble_eq_true h2
      have b2 := Nat.le_of_ble_eq_true h3
      have rm : qm_R (Int.ofNat mm) := hst _ List.mem_cons_self
      have he : ∀ nn, qm_okE nn (.inl mm : qm_E) := by
        intro nn ci2 fs j r2 e1 e2
        cases e1
      refine va_newa (D := D) (atype := .int) (ty := .int) (N' := mm) (a0 := (mm, .inl (fun _ => Int32.ofInt 0))) hx hb (hts _ qm_arrW) rfl hK hP hD hS hA (fun cA => rfl) ?_ ?_ ?_ (Nat.le_trans b1 hRc) (Nat.le_trans b2 hRs) hd (fun q cA' H1 aK a1 a2 a3 => ?_)
      · intro hlt
        have h0 : (0 : Int32) = Int32.ofInt 0 := rfl
        rw [h0, qm_ltR rm ⟨by decide, by decide⟩] at hlt
        have : (0 : Int) ≤ Int.ofNat mm := Int.natCast_nonneg mm
        omega
      · rw [qm_clR rm]; rfl
      · show mm * 4 ≤ _
        omega
      · have e1 := (aK.2 0 (cA, .int) rfl).2
        have e2 := (aK.2 1 (cA', .int) rfl).2
        have e3 : cA' = cA := Option.some.inj ((show s.vm.findClass _ = some cA' from e2).symm.trans e1)
        subst e3
        have hpush := qm_w_push (cA := cA') (ad := ad) (M := M) q (.inl mm) hokL he
        have a1' : va_P D vwCl (qm_w cA' (fun k => if k = L.length then q else ad k) (L ++ [.inl mm]) (qm_z M L.length)) H1 := by rw [hpush]; exact a1
        have a2' : va_D A (qm_w cA' (fun k => if k = L.length then q else ad k) (L ++ [.inl mm]) (qm_z M L.length)) := by rw [hpush]; exact a2
        have hex : ∀ i, i < L.length → (fun k => if k = L.length then q else ad k) i = ad i := fun i hi => if_neg (by omega)
        have hle : L.length ≤ (L ++ [(.inl mm : qm_E)]).length := by rw [List.length_append]; omega
        have := h (fun k => if k = L.length then q else ad k) H1 locs lsA ⟨qm_okL_push _ hokL he, qm_okM_z hokM, a1', a2', a3, b1, b2, fun i hi => by rw [hex i (by omega)]; exact hb3 i hi, Nat.le_trans hb4 hle⟩
          (qm_okI (show L.length < _ by rw [List.length_append]; exact Nat.lt_succ_self _) (fun v hv => qm_okV_le hle (hst v (List.mem_cons_of_mem _ hv)))) (fun i v hv => qm_okV_le hle (hls i v hv)) (qm_LH_ext hl hex hls)
        rw [List.map_cons, qm_cv_map b hex (qm_okT hst)] at this
        simp only [qm_cv, if_true] at this
        exact this
    · exact h.elim
  case h_36 =>
    have hn := Nat.eq_of_beq_eq_true hk
    subst hn
    intro ad H locs lsA hw hst hls hl
    split at h
    · exact lv_dup hx hb hd (qm_cat _ _ _) (h ad H locs lsA hw (qm_okI (hst _ List.mem_cons_self) hst) hls hl)
    · exact h.elim
  case h_37 =>
    have hn := Nat.eq_of_beq_eq_true hk
    subst hn
    intro ad H locs lsA hw hst hls hl
    split at h
    · exact lv_pop hx hb hd (qm_cat _ _ _) (h ad H locs lsA hw (qm_okT hst) hls hl)
    · exact h.elim
  case h_38 =>
    have hn := Nat.eq_of_beq_eq_true hk
    subst hn
    intro ad H locs lsA hw hst hls hl
    split at h
    · exact lv_dup2_11 hx hb hd (qm_cat _ _ _) (qm_cat _ _ _) (h ad H locs lsA hw (qm_okI (hst _ List.mem_cons_self) (qm_okI (hst _ (List.mem_cons_of_mem _ List.mem_cons_self)) hst)) hls hl)
    · exact h.elim
  case h_39 idx =>
    simp only [qm_chk, Bool.and_eq_true] at hk
    obtain ⟨hn, hk⟩ := hk
    have hn := Nat.eq_of_beq_eq_true hn
    subst hn
    split at h
    · rename_i f hf
      rw [hf] at hk
      simp only [Bool.and_eq_true] at hk
      exact qm_simCall CC IH (O5 _ (qm_lk_mem hf)) (Or.inl ⟨rfl, rfl, Nat.le_of_ble_eq_true hk.1, Nat.le_of_ble_eq_true hk.2⟩) hd h
    · exact h.elim
  case h_40 idx =>
    simp only [qm_chk, Bool.and_eq_true] at hk
    obtain ⟨hn, hk⟩ := hk
    have hn := Nat.eq_of_beq_eq_true hn
    subst hn
    split at h
    · rename_i f hf
      rw [hf] at hk
      simp only [Bool.and_eq_true, Bool.not_eq_true'] at hk
      exact qm_simCall CC IH (O5 _ (qm_lk_mem hf)) (Or.inr (Or.inl ⟨rfl, rfl, Nat.eq_of_beq_eq_true hk.1, Nat.ne_of_beq_eq_false hk.2⟩)) hd h
    · exact h.elim
  case h_41 idx =>
    simp only [qm_chk, Bool.and_eq_true] at hk
    obtain ⟨hn, hk⟩ := hk
    have hn := Nat.eq_of_beq_eq_true hn
    subst hn
    split at h
    · rename_i f hf
      rw [hf] at hk
      simp only [Bool.or_eq_true, Bool.and_eq_true] at hk
      exact qm_simCall CC IH (O5 _ (qm_lk_mem hf)) (Or.inr (Or.inr ⟨rfl, rfl, hk.imp (fun z => ⟨Nat.eq_of_beq_eq_true z.1, Nat.le_of_ble_eq_true z.2⟩) Nat.eq_of_beq_eq_true⟩)) hd h
    · exact h.elim
  case h_42 =>
    have hn := Nat.eq_of_beq_eq_true hk
    subst hn
    intro ad H locs lsA hw hst hls hl
    split at h
    · rename_i v
      have rv : qm_R v := hst _ List.mem_cons_self
      cases h2 : Nat.beq mi.2.2.1 2 with
      | true =>
        rw [h2] at h
        exact hret pc _ (.inl v) _ ad H locs lsA L M k n hd (Or.inl ⟨rfl, v, rfl, rfl, Or.inl ⟨Nat.eq_of_beq_eq_true h2, h.1⟩⟩) h.2 rv hw
      | false =>
        rw [h2] at h
        cases h1 : Nat.beq mi.2.2.1 1 with
        | true =>
          rw [h1] at h
          exact hret pc _ (.inl v) _ ad H locs lsA L M k n hd (Or.inl ⟨rfl, v, rfl, rfl, Or.inr (Nat.eq_of_beq_eq_true h1)⟩) h rv hw
        | false => rw [h1] at h; exact h.elim
    · exact h.elim
  case h_43 =>
    have hn := Nat.eq_of_beq_eq_true hk
    subst hn
    intro ad H locs lsA hw hst hls hl
    split at h
    · cases h1 : Nat.beq mi.2.2.1 0 with
      | true =>
        rw [h1] at h
        exact hret pc _ (.inl 0) _ ad H locs lsA L M k n hd (Or.inr (Or.inl ⟨rfl, Nat.eq_of_beq_eq_true h1, rfl, rfl⟩)) h ⟨by decide, by decide⟩ hw
      | false => rw [h1] at h; exact h.elim
    · exact h.elim
  case h_44 =>
    have hn := Nat.eq_of_beq_eq_true hk
    subst hn
    intro ad H locs lsA hw hst hls hl
    split at h
    · rename_i o
      cases h1 : Nat.beq mi.2.2.1 3 with
      | true =>
        rw [h1] at h
        exact hret pc _ (.inr (some o)) _ ad H locs lsA L M k n hd (Or.inr (Or.inr ⟨rfl, Nat.eq_of_beq_eq_true h1, o, rfl, rfl⟩)) h (hst _ List.mem_cons_self) hw
      | false => rw [h1] at h; exact h.elim
    · exact h.elim
  case h_45 => exact h.elim
end QT
