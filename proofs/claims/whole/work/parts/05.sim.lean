theorem qm_bf {a b : Nat} (h : a ≠ b) : Nat.beq a b = false := by
  cases q : Nat.beq a b with
  | false => rfl
  | true => exact absurd (Nat.eq_of_beq_eq_true q) h
section QS
variable {p : Program} {l : Launch} {e : Env} {R : Room} {s : State} {m : MethodId} {args : Array Value} {below : List Frame} {meth : Method} {c : Code} {Qw : State → Prop}
/-- what a frame knows all the while -/
def qm_Ctx (p : Program) (R : Room) (s : State) (m : MethodId) (args : Array Value) (meth : Method) (c : Code) (own : String) (bytes : ByteArray) (nL : Nat) (isInit : Bool) (mi : qm_MI) (D : va_G) (cA : ClassId) (b : Nat) (A : Nat → Prop) (d : Nat) : Prop :=
  p.tables.exec = Jvm.exec ∧ c.code = bytes ∧ c.maxLocals = nL ∧ s.vm.findClass own = some m.cls ∧ (∀ w ∈ qm_tb, w.before args s = true) ∧ va_K D vwCl [(cA, .int)] s ∧ (∀ q, s.heap.size ≤ q → A q) ∧
  (∀ sc, mi.2.2.2.2.2 = some sc → va_X b sc.1 (fun j => Int32.ofInt (sc.2 j)) s s.heap ∧ b < s.heap.size ∧ ¬ A b ∧ sc.1 < 2147483648 ∧ ∀ j, qm_R (sc.2 j)) ∧
  mi.2.2.2.1 ≤ R.cells ∧ mi.2.2.2.2.1 ≤ R.slots ∧ d + 1 ≤ R.frames ∧ 64 * d + 64 ≤ R.locals ∧ (isInit = true → meth.name = "<init>")
/-- what the heap is at a step -/
def qm_Wd (s : State) (mi : qm_MI) (D : va_G) (cA : ClassId) (A : Nat → Prop) (L0 : qm_L) (ad0 ad : Nat → Nat) (H : Heap) (locs : List Loc) (L : qm_L) (M : qm_M) (k n : Nat) : Prop :=
  qm_okL L ∧ qm_okM M ∧ va_P D vwCl (qm_w cA ad L M) H ∧ va_D A (qm_w cA ad L M) ∧ va_S A s.heap H locs ∧ k ≤ mi.2.2.2.1 ∧ n ≤ mi.2.2.2.2.1 ∧ (∀ i, i < L0.length → ad i = ad0 i) ∧ L0.length ≤ L.length
def qm_G (p : Program) (l : Launch) (e : Env) (R : Room) (s : State) (m : MethodId) (args : Array Value) (below : List Frame) (meth : Method) (c : Code) (Qw : State → Prop) (nL : Nat) (mi : qm_MI) (D : va_G) (cA : ClassId) (b : Nat) (A : Nat → Prop) (L0 : qm_L) (ad0 : Nat → Nat) : qm_X := fun pc ls st L M k n =>
  ∀ (ad : Nat → Nat) (H : Heap) (locs : List Loc) (lsA : Array Slot), qm_Wd s mi D cA A L0 ad0 ad H locs L M k n → (∀ v ∈ st, qm_okV L v) → (∀ (i : Nat) (v : qm_V), ls[i]? = some (some v) → qm_okV L v) → qm_LH lsA nL ad b ls →
    W p l e R s m args below meth c H locs k n Qw (F0 m pc lsA (st.map (qm_cv ad b)))
/-- what a return needs -/
def qm_Rt (rk : Nat) (i : Instr) (r : qm_V) (ad : Nat → Nat) (stk : List Value) : Prop :=
  (i = .ireturn ∧ ∃ v, r = .inl v ∧ stk = [.int (Int32.ofInt v)] ∧ ((rk = 2 ∧ (v = 0 ∨ v = 1)) ∨ rk = 1)) ∨ (i = .return_ ∧ rk = 0 ∧ r = .inl 0 ∧ stk = []) ∨ (i = .areturn ∧ rk = 3 ∧ ∃ o, r = .inr (some o) ∧ stk = [.ref (ad o)])
def qm_Ret (p : Program) (l : Launch) (e : Env) (R : Room) (s : State) (m : MethodId) (args : Array Value) (below : List Frame) (meth : Method) (c : Code) (Qw : State → Prop) (bytes : ByteArray) (mi : qm_MI) (D : va_G) (cA : ClassId) (A : Nat → Prop) (L0 : qm_L) (ad0 : Nat → Nat) (Q : qm_K) : Prop :=
  ∀ (pc : Nat) (i : Instr) (r : qm_V) (stk : List Value) (ad : Nat → Nat) (H : Heap) (locs : List Loc) (lsA : Array Slot) (L : qm_L) (M : qm_M) (k n : Nat), decode bytes pc = .ok (i, 1) → qm_Rt mi.2.2.1 i r ad stk → Q r L M → qm_okV L r → qm_Wd s mi D cA A L0 ad0 ad H locs L M k n →
    W p l e R s m args below meth c H locs k n Qw (F0 m pc lsA stk)
def qm_rm (d : Nat) (mi : qm_MI) : Room := { frames := d, cells := mi.2.2.2.1, slots := mi.2.2.2.2.1, locals := 64 * d }
def qm_ws (i : qm_Y) : List Cond := Cond.code i.2.1 i.2.2.1 i.2.2.2.1 i.2.2.2.2 :: qm_tb
def qm_Pc (D : va_G) (cA : ClassId) (ad : Nat → Nat) (b : Nat) (L : qm_L) (M : qm_M) (a : List qm_V) (sz : Nat) : Array Value → State → Prop := va_Pc (a.map (qm_cv ad b)) (fun U => U.heap.size = sz ∧ va_P D vwCl (qm_w cA ad L M) U.heap ∧ va_K D vwCl [(cA, .int)] U ∧ va_D (fun _ => True) (qm_w cA ad L M))
def qm_Qc (D : va_G) (cA : ClassId) (ad : Nat → Nat) (b : Nat) (L : qm_L) (M : qm_M) (sz : Nat) (K : qm_K) (rk : Nat) : Array Value → State → Outcome → State → Prop := fun _ st oc t =>
  (∃ (r : qm_V) (L' : qm_L) (M' : qm_M) (ad' : Nat → Nat), oc = .returned (cond (Nat.beq rk 0) none (some (qm_cv ad' b r))) ∧ K r L' M' ∧ qm_okV L' r ∧ (∀ i, i < L.length → ad' i = ad i) ∧ L.length ≤ L'.length ∧ qm_okL L' ∧ qm_okM M' ∧ va_P D vwCl (qm_w cA ad' L' M') t.heap ∧ va_D (va_A (qm_w cA ad L M) sz) (qm_w cA ad' L' M')) ∧ va_F (va_A (qm_w cA ad L M) sz) st t
def qm_Met (l : Launch) (I : Nat → qm_Y) (P : Nat → qm_MI × Nat) (d y : Nat) (a : List qm_V) (L : qm_L) (M : qm_M) (K : qm_K) : Prop :=
  ∀ (D : va_G) (cA : ClassId) (ad : Nat → Nat) (b sz : Nat), qm_okL L → qm_okM M → (∀ v ∈ a, qm_okV L v) →
    Met l (I y).2.1 (qm_ws (I y)) (qm_rm d (P y).1) (qm_Pc D cA ad b L M a sz) (qm_Qc D cA ad b L M sz K (P y).1.2.2.1) (P y).1.2.2.2.1 (P y).1.2.2.2.2.1 (va_A (qm_w cA ad L M) sz)
theorem qm_callX {H : Heap} {locs : List Loc} {cells slots mc ms pc : Nat} {ls : Array Slot} {rest st0 : List Value} {A0 A1 : Nat → Prop} {H0 : Heap} {free : Addr → Prop} {Qa : State → Outcome → State → Prop}
    (hr : va_Run p l e R s m args below meth c H locs cells slots mc ms (F0 m pc ls st0) rest Qa free) (hF : ∀ st t v, st.heap = H → Qa st (.returned v) t → va_F A1 st t) (hS : va_S A0 H0 H locs) (hA : ∀ q, q < H.size → A1 q → A0 q) (hf : ∀ q, free q → A0 q)
    (kk : ∀ (v : Option Value) (st₀ t : State) (locs1 : List Loc), st₀.heap = H → Qa st₀ (.returned v) t → va_S A0 H0 t.heap locs1 → W p l e R s m args below meth c t.heap locs1 (cells + mc) (slots + ms) Qw (F0 m (pc + 3) ls (v.toList ++ rest))) : W p l e R s m args below meth c H locs cells slots Qw (F0 m pc ls st0) := by
  intro T hT X
  obtain ⟨v, st₀, t, T', L, h0, X', hL, e1, e2, hq, st⟩ := hr T hT X
  obtain ⟨hz, hk⟩ := hF st₀ t v h0 hq
  rw [h0] at hz hk
  obtain ⟨t2, a1, b1⟩ := kk v st₀ t (locs ++ L) h0 hq
    ⟨Nat.le_trans hS.1 hz, fun q h1 h2 => by rw [hk q (Nat.lt_of_lt_of_le h1 hS.1) (fun z => h2 (hA q (Nat.lt_of_lt_of_le h1 hS.1) z))]; exact hS.2.1 q h1 h2, fun q hq => by
      rcases List.mem_append.mp hq with h | h
      · exact hS.2.2 q h
      · exact hf _ (hL q h)⟩ T' e1 X'
  exact ⟨t2, st t2 a1, b1⟩
variable {I : Nat → qm_Y} {P : Nat → qm_MI × Nat} {own : String} {bytes : ByteArray} {nL : Nat} {isInit : Bool} {mi : qm_MI} {D : va_G} {cA : ClassId} {b : Nat} {A : Nat → Prop} {d : Nat} {L0 : qm_L} {ad0 : Nat → Nat} {Q : qm_K}
theorem qm_w_get {cA : ClassId} {ad : Nat → Nat} {L : qm_L} {M : qm_M} {o : Nat} {e : qm_E} (h : L[o]? = some e) : (qm_w cA ad L M)[o]? = some (ad o, qm_ev cA ad M o e) := by
  rw [qm_w_at, h]; rfl
theorem qm_Wd_M {s : State} {ad : Nat → Nat} {H H1 : Heap} {locs locs1 : List Loc} {L : qm_L} {M M' : qm_M} {k n : Nat} (h : qm_Wd s mi D cA A L0 ad0 ad H locs L M k n) (hM : qm_okM M') (hP : va_P D vwCl (qm_w cA ad L M') H1) (hD : va_D A (qm_w cA ad L M')) (hS : va_S A s.heap H1 locs1) : qm_Wd s mi D cA A L0 ad0 ad H1 locs1 L M' k n :=
  ⟨h.1, hM, hP, hD, hS, h.2.2.2.2.2.1, h.2.2.2.2.2.2.1, h.2.2.2.2.2.2.2.1, h.2.2.2.2.2.2.2.2⟩
/-- a call, its contract at hand -/
theorem qm_simCall (C : qm_Ctx p R s m args meth c own bytes nL isInit mi D cA b A d) (IH : ∀ y a L M K, qm_Runs P d y a L M K → qm_Met l I P d y a L M K)
    {idx : Nat} {f : Nat × Nat × Nat × Nat × Nat × Nat} (hf : qm_okC I P (idx, f) = true ∧ qm_wC I own (idx, f)) {i : Instr} {virt : Bool} (hi : (i = .invokevirtual idx ∧ virt = true ∧ f.2.2.1 < 90 ∧ f.1 < 9990) ∨ (i = .invokestatic idx ∧ virt = false ∧ f.2.2.1 = 99 ∧ f.1 ≠ 9999) ∨ (i = .invokespecial idx ∧ virt = true ∧ ((f.2.2.1 = 98 ∧ f.1 < 9990) ∨ f.1 = 9999)))
    {pc : Nat} (hd : decode bytes pc = .ok (i, 3)) {ls : List (Option qm_V)} {st : List qm_V} {L : qm_L} {M : qm_M} {k n : Nat}
    (h : qm_call mi (qm_Runs P d) (qm_G p l e R s m args below meth c Qw nL mi D cA b A L0 ad0) virt 3 f pc ls st L M k n) : qm_G p l e R s m args below meth c Qw nL mi D cA b A L0 ad0 pc ls st L M k n := by
  obtain ⟨hx, hb, hml, hown, hts, hK, hA, -, hRc, hRs, hRf, hRl, -⟩ := C
  obtain ⟨y, na, rc, kd, mc, ms⟩ := f
  obtain ⟨hf, hwf⟩ := hf
  unfold qm_call at h
  simp only at h hi
  intro ad H locs lsA hw hst hls hl
  obtain ⟨hokL, hokM, hP, hD, hS, hkc, hks, hea, hel⟩ := id hw
  have hsize : (F0 m pc lsA (st.map (qm_cv ad b))).locals.size = nL := hl.1
  cases h9 : Nat.ble 9990 y with
  | true =>
    have h9' := Nat.le_of_ble_eq_true h9
    rw [h9] at h
    unfold qm_wC at hwf
    rw [h9] at hwf
    simp only [cond_true] at h hwf
    cases h10 : Nat.beq y 9999 with
    | true =>
      have h10' := Nat.eq_of_beq_eq_true h10
      rcases hi with ⟨-, -, -, hn⟩ | ⟨-, -, -, hn⟩ | ⟨rfl, rfl, -⟩
      · omega
      · exact absurd h10' hn
      · rw [h10] at h hwf
        simp only [cond_true] at h hwf
        · obtain ⟨w1, w2, w3⟩ := hwf
          unfold qm_tr at h
          split at h
          · rename_i o r
            cases h8 : Nat.ble r.length 8 with
            | false => rw [h8] at h; exact h.elim
            | true =>
              rw [h8] at h
              have h8' := Nat.le_of_ble_eq_true h8
              refine W.objInit hx hb hown (hts _ w1) (hts _ w2) (hts _ w3) rfl (hsize.trans hml.symm) rfl hd (by omega) ?_ ?_
              · have := qm_cats ad b r 8 h8'
                show 2 * 0 + _ + 12 ≤ _
                omega
              · exact h ad H locs lsA hw (fun v hv => hst v (List.mem_cons_of_mem _ hv)) hls hl
          · exact h.elim
    | false =>
      have h10' := Nat.ne_of_beq_eq_false h10
      rw [h10] at h hwf
      simp only [cond_false] at h hwf
      rcases hi with ⟨-, -, -, hn⟩ | ⟨rfl, -, -, -⟩ | ⟨-, -, hn⟩
      · omega
      · · obtain ⟨w3, hwf⟩ := hwf
          have hkk : k ≤ R.cells := Nat.le_trans hkc hRc
          have hnn : n ≤ R.slots := Nat.le_trans hks hRs
          cases m0 : Nat.beq y 9990 with
          | true =>
            rw [m0] at h hwf
            simp only [cond_true] at h hwf
            obtain ⟨w1, w2, w4⟩ := hwf
            unfold qm_tii at h
            split at h
            · rename_i y2 x2 r
              have ry : qm_R y2 := hst _ List.mem_cons_self
              have rx : qm_R x2 := hst _ (List.mem_cons_of_mem _ List.mem_cons_self)
              cases h8 : Nat.ble r.length 8 with
              | false => rw [h8] at h; exact h.elim
              | true =>
                rw [h8] at h
                have h8' := qm_cats ad b r 8 (Nat.le_of_ble_eq_true h8)
                refine va_mmax hx hb (hml.trans hsize.symm) hown (hts _ w1) (hts _ w2) (hts _ w3) (hts _ w4) (by omega) (by omega) hkk hnn hd ?_
                have hgo := h ad H locs lsA hw (fun v hv => by
                  rcases List.mem_cons.mp hv with rfl | hv
                  · show qm_R _
                    unfold qm_R at *
                    omega
                  · exact hst v (List.mem_cons_of_mem _ (List.mem_cons_of_mem _ hv))) hls hl
                have he : (if Int32.ofInt x2 < Int32.ofInt y2 then Int32.ofInt y2 else Int32.ofInt x2) = Int32.ofInt (max x2 y2) := by
                  by_cases hc : x2 < y2
                  · rw [if_pos ((qm_ltR rx ry).mpr hc), show max x2 y2 = y2 by omega]
                  · rw [if_neg (fun z => hc ((qm_ltR rx ry).mp z)), show max x2 y2 = x2 by omega]
                rw [he]
                exact hgo
            · exact h.elim
          | false =>
            rw [m0] at h hwf
            simp only [cond_false] at h hwf
            cases m1 : Nat.beq y 9991 with
            | true =>
              rw [m1] at h hwf
              simp only [cond_true] at h hwf
              obtain ⟨w1, w2, w4⟩ := hwf
              unfold qm_tii at h
              split at h
              · rename_i y2 x2 r
                have ry : qm_R y2 := hst _ List.mem_cons_self
                have rx : qm_R x2 := hst _ (List.mem_cons_of_mem _ List.mem_cons_self)
                cases h8 : Nat.ble r.length 8 with
                | false => rw [h8] at h; exact h.elim
                | true =>
                  rw [h8] at h
                  have h8' := qm_cats ad b r 8 (Nat.le_of_ble_eq_true h8)
                  refine va_mmin hx hb (hml.trans hsize.symm) hown (hts _ w1) (hts _ w2) (hts _ w3) (hts _ w4) (by omega) (by omega) hkk hnn hd ?_
                  have hgo := h ad H locs lsA hw (fun v hv => by
                    rcases List.mem_cons.mp hv with rfl | hv
                    · show qm_R _
                      unfold qm_R at *
                      omega
                    · exact hst v (List.mem_cons_of_mem _ (List.mem_cons_of_mem _ hv))) hls hl
                  have he : (if Int32.ofInt y2 < Int32.ofInt x2 then Int32.ofInt y2 else Int32.ofInt x2) = Int32.ofInt (min x2 y2) := by
                    by_cases hc : y2 < x2
                    · rw [if_pos ((qm_ltR ry rx).mpr hc), show min x2 y2 = y2 by omega]
                    · rw [if_neg (fun z => hc ((qm_ltR ry rx).mp z)), show min x2 y2 = x2 by omega]
                  rw [he]
                  exact hgo
              · exact h.elim
            | false =>
              rw [m1] at h hwf
              simp only [cond_false] at h hwf
              cases m2 : Nat.beq y 9992 with
              | true =>
                rw [m2] at h hwf
                simp only [cond_true] at h hwf
                obtain ⟨w1, w2, w4⟩ := hwf
                unfold qm_ti at h
                split at h
                · rename_i x2 r
                  have rx : qm_R x2 := hst _ List.mem_cons_self
                  obtain ⟨hneg, h⟩ := h
                  cases h8 : Nat.ble r.length 8 with
                  | false => rw [h8] at h; exact h.elim
                  | true =>
                    rw [h8] at h
                    have h8' := qm_cats ad b r 8 (Nat.le_of_ble_eq_true h8)
                    refine va_mabs hx hb (hml.trans hsize.symm) hown (hts _ w1) (hts _ w2) (hts _ w3) (hts _ w4) (by omega) (by omega) hkk hnn hd ?_
                    have hab : Int.ofNat x2.natAbs = if 0 ≤ x2 then x2 else -x2 := by
                      show ((x2.natAbs : Nat) : Int) = _
                      split <;> omega
                    have hgo := h ad H locs lsA hw (fun v hv => by
                      rcases List.mem_cons.mp hv with rfl | hv
                      · show qm_R _
                        rw [hab]
                        split
                        · exact rx
                        · exact hneg
                      · exact hst v (List.mem_cons_of_mem _ hv)) hls hl
                    rw [hab] at hgo
                    have r0 : qm_R 0 := ⟨by decide, by decide⟩
                    by_cases hc : 0 ≤ x2
                    · rw [if_pos hc] at hgo
                      have hc2 : (0 : Int32) ≤ Int32.ofInt x2 := (qm_leR r0 rx).mpr hc
                      simp only [hc2, if_true]
                      exact hgo
                    · rw [if_neg hc] at hgo
                      have hc2 : ¬ (0 : Int32) ≤ Int32.ofInt x2 := fun z => hc ((qm_leR r0 rx).mp z)
                      simp only [hc2, if_false]
                      simp only [List.map_cons, qm_cv, Int32.ofInt_neg] at hgo
                      exact hgo
                · exact h.elim
              | false =>
                rw [m2] at h
                exact h.elim
      · rcases hn with hn | hn
        · omega
        · exact absurd hn h10'
  | false =>
    rw [h9] at h
    unfold qm_okC at hf
    unfold qm_wC at hwf
    rw [h9] at hf hwf
    simp only [cond_false] at h hf hwf
    · simp only [Bool.and_eq_true, decide_eq_true_eq] at hf
      obtain ⟨⟨⟨⟨⟨⟨⟨n1, n2⟩, q1⟩, q2⟩, q3⟩, q4⟩, q5⟩, q6⟩ := hf
      obtain ⟨w1, w2, w3, q7⟩ := hwf
      have q1 := Nat.eq_of_beq_eq_true q1
      have q2 := Nat.eq_of_beq_eq_true q2
      have q3 := Nat.eq_of_beq_eq_true q3
      have q4 := Nat.le_of_ble_eq_true q4
      subst q1 q2 q3
      cases hbb : (Nat.ble (k + (P y).1.2.2.2.1) mi.2.2.2.1 && Nat.ble (n + (P y).1.2.2.2.2.1) mi.2.2.2.2.1 && Nat.ble (st.drop na).length 8 && Nat.beq (st.take na).length na) with
      | false => rw [hbb] at h; exact h.elim
      | true =>
        rw [hbb] at h
        simp only [cond_true] at h
        simp only [Bool.and_eq_true] at hbb
        obtain ⟨⟨⟨b1, b2⟩, b3⟩, b4⟩ := hbb
        have b1 := Nat.le_of_ble_eq_true b1
        have b2 := Nat.le_of_ble_eq_true b2
        have b3 := Nat.le_of_ble_eq_true b3
        have b4 := Nat.eq_of_beq_eq_true b4
        obtain ⟨hv, hcall⟩ := h
        generalize has : (st.take na).reverse = as at hv hcall
        have hlen : as.length = na := by rw [← has, List.length_reverse]; exact b4
        have hokA : ∀ v ∈ as, qm_okV L v := fun v hv => hst v (List.mem_of_mem_take (List.mem_reverse.mp (by rw [has]; exact hv)))
        have hstk : st.map (qm_cv ad b) = (as.map (qm_cv ad b)).reverse ++ (st.drop na).map (qm_cv ad b) := by
          rw [← has, ← List.map_reverse, List.reverse_reverse, ← List.map_append, List.take_append_drop]
        have hokR : ∀ v ∈ st.drop na, qm_okV L v := fun v hv => hst v (List.mem_of_mem_drop hv)
        have hM := IH y as L M _ hcall D cA ad b H.size hokL hokM hokA
        have hwin : ∀ w ∈ qm_ws (I y), w ∈ qm_tb := by
          intro w hw
          rcases List.mem_cons.mp hw with rfl | hw
          · exact w2
          · exact hw
        have hfree : ∀ q, va_A (qm_w cA ad L M) H.size q → A q := by
          rintro q (⟨j, x, hx⟩ | hq)
          · exact hD.2 j (q, x) hx
          · exact hA q (Nat.le_trans hS.1 hq)
        have hpre : ∀ U : State, U.heap = H → s.WarmedH U.vm → qm_Pc D cA ad b L M as H.size (as.map (qm_cv ad b)).toArray U := fun U hU hW =>
          ⟨rfl, by rw [hU], by rw [hU]; exact hP, va_K.moved hW.alike hK, hD.weaken (fun _ _ _ _ => trivial)⟩
        have hblind : FrameBlind (qm_Pc D cA ad b L M as H.size) := fun a U g mk q => by
          obtain ⟨q0, q1, qP, qK, qD⟩ := q
          exact ⟨q0, q1, qP, va_K.moved (u := U) (U := U.calling g mk a) (Vm.Alike.refl U.vm) qK, qD⟩
        have hroom : 2 * (F0 m pc lsA (st.map (qm_cv ad b))).monitorRoom + (((st.drop na).map (qm_cv ad b)).map fun v => v.category).sum ≤ 8 := by
          have := qm_cats ad b (st.drop na) 8 b3
          show 2 * 0 + _ ≤ 8
          omega
        have hcb : ∀ nn, (parseMethodDescriptor (I y).2.1.desc).map (fun d => d.parameters.length) = some nn → CallB R s args own idx (I y).2.1 (I y).2.2.1 (I y).2.2.2.1 (I y).2.2.2.2 (qm_ws (I y)) (qm_rm d (P y).1) (P y).1.2.2.2.1 (P y).1.2.2.2.2.1 nn := fun nn hnn =>
          callB_of nn hts (qm_goodIn hwin) rfl rfl rfl (hts _ w3) (hts _ w1) ⟨n1, n2, hnn⟩ ⟨hRf, by show 8 + _ + 64 * d ≤ _; omega⟩
        have hgo : ∀ rest, rest = (st.drop na).map (qm_cv ad b) → va_Run p l e R s m args below meth c H locs k n (P y).1.2.2.2.1 (P y).1.2.2.2.2.1 (F0 m pc lsA (st.map (qm_cv ad b))) rest (qm_Qc D cA ad b L M H.size (fun r L' M' => qm_G p l e R s m args below meth c Qw nL mi D cA b A L0 ad0 (pc + 3) ls (cond (Nat.beq (cond (Nat.beq (P y).1.2.2.1 0) 0 1) 0) (st.drop na) (r :: st.drop na)) L' M' (k + (P y).1.2.2.2.1) (n + (P y).1.2.2.2.2.1)) (P y).1.2.2.1 (as.map (qm_cv ad b)).toArray) (va_A (qm_w cA ad L M) H.size) → W p l e R s m args below meth c H locs k n Qw (F0 m pc lsA (st.map (qm_cv ad b))) := by
          rintro rest rfl hrun
          refine qm_callX hrun (fun st t v _ hq => hq.2) hS (fun q _ h => hfree q h) hfree (fun v st₀ t locs1 h0 hq hS1 => ?_)
          obtain ⟨⟨r, L', M', ad', e1, e2, e3, e4, e5, e6, e7, e8, e9⟩, -⟩ := hq
          have hoL : ∀ i, i < L0.length → ad' i = ad0 i := fun i hi => by rw [e4 i (Nat.lt_of_lt_of_le hi hel)]; exact hea i hi
          have hgoal := e2 ad' t.heap locs1 lsA ⟨e6, e7, e8, e9.weaken (fun _ q _ hq => hfree q.1 hq), hS1, b1, b2, hoL, Nat.le_trans hel e5⟩ (by
            intro v hv
            cases hz : Nat.beq (P y).1.2.2.1 0 with
            | true =>
              rw [hz] at hv
              exact qm_okV_le e5 (hokR v hv)
            | false =>
              rw [hz] at hv
              rcases List.mem_cons.mp hv with rfl | hv
              · exact e3
              · exact qm_okV_le e5 (hokR v hv)) (fun i v hv => qm_okV_le e5 (hls i v hv)) (qm_LH_ext hl e4 hls)
          have hvl : v.toList ++ (st.drop na).map (qm_cv ad b) = (cond (Nat.beq (cond (Nat.beq (P y).1.2.2.1 0) 0 1) 0) (st.drop na) (r :: st.drop na)).map (qm_cv ad' b) := by
            cases e1
            cases hz : Nat.beq (P y).1.2.2.1 0 with
            | true =>
              show (st.drop na).map (qm_cv ad b) = (st.drop na).map (qm_cv ad' b)
              exact (qm_cv_map b e4 hokR).symm
            | false =>
              show qm_cv ad' b r :: (st.drop na).map (qm_cv ad b) = qm_cv ad' b r :: (st.drop na).map (qm_cv ad' b)
              rw [qm_cv_map b e4 hokR]
          rw [hvl]
          exact hgoal
        rcases hi with ⟨rfl, rfl, hi1, -⟩ | ⟨rfl, rfl, hi1, -⟩ | ⟨rfl, rfl, hi1⟩
        · have z1 : Nat.beq rc 99 = false := qm_bf (by omega)
          have z2 : Nat.beq rc 98 = false := qm_bf (by omega)
          rw [z1, z2] at q6 q7
          simp only [cond_false, Bool.and_eq_true, decide_eq_true_eq] at q6 q7
          obtain ⟨⟨w5, w6⟩, w8⟩ := q6
          obtain ⟨w4, w7⟩ := q7
          split at w8
          · rename_i r hr
            simp only [decide_eq_true_eq] at w8
            simp only [cond_true] at hv
            split at hv
            · rename_i o as'
              rw [z2] at hv
              obtain ⟨fs, ho⟩ := hv
              refine hgo _ rfl (va_runV (C := (I y).2.1.cls) (b := ad o) (As := as'.map (qm_cv ad b)) (n := na - 1) ⟨hx, hb, hml, hown, hts⟩ hM ⟨hcb _ w6, hts _ w4, hts _ w7⟩ ⟨hblind, ?_, hpre⟩ rfl ?_ hsize ?_ hroom hd ⟨Nat.le_trans b1 hRc, Nat.le_trans b2 hRs⟩)
              · have := va_recv hK hP hr (qm_w_get ho)
                rw [w8] at this
                exact this
              · rw [List.length_map]
                simp only [List.length_cons] at hlen
                omega
              · show st.map (qm_cv ad b) = _
                rw [hstk]
                simp [qm_cv]
            · exact hv.elim
          · cases w8
        · subst hi1
          have z1 : Nat.beq 99 99 = true := rfl
          rw [z1] at q6 q7
          simp only [cond_true, decide_eq_true_eq] at q6 q7
          have w6 := q6
          have w4 := q7
          refine hgo _ rfl (va_runS (As := as.map (qm_cv ad b)) (n := na) ⟨hx, hb, hml, hown, hts⟩ hM ⟨hcb _ w6, hts _ w4⟩ ⟨hblind, hpre⟩ rfl ?_ hsize ?_ hroom hd ⟨Nat.le_trans b1 hRc, Nat.le_trans b2 hRs⟩)
          · rw [List.length_map]; exact hlen
          · exact hstk
        · have hi1 : rc = 98 := by
            rcases hi1 with h | h
            · exact h.1
            · rw [h] at h9; cases h9
          subst hi1
          have z1 : Nat.beq 98 99 = false := rfl
          have z2 : Nat.beq 98 98 = true := rfl
          rw [z1, z2] at q6 q7
          simp only [cond_false, cond_true, Bool.and_eq_true, decide_eq_true_eq] at q6 q7
          obtain ⟨⟨w5, w6⟩, w7, w8⟩ := q6
          obtain ⟨w4, -⟩ := q7
          simp only [cond_true] at hv
          split at hv
          · rename_i o as'
            refine hgo _ rfl (va_runI (b := ad o) (As := as'.map (qm_cv ad b)) (n := na - 1) ⟨hx, hb, hml, hown, hts⟩ (by have := hM; exact this) ⟨by have := hcb _ w6; rw [w8] at this; exact this, w7, hts _ w4⟩ ⟨hblind, hpre⟩ rfl ?_ hsize ?_ hroom hd ⟨Nat.le_trans b1 hRc, Nat.le_trans b2 hRs⟩)
            · rw [List.length_map]
              simp only [List.length_cons] at hlen
              omega
            · show st.map (qm_cv ad b) = _
              rw [hstk]
              simp [qm_cv]
          · exact hv.elim
end QS
