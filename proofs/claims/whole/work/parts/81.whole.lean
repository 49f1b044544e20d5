theorem qd_tk {P : qm_I → Prop} {l : List qm_I} (a n c : Nat) (hc : c = a + n) (h1 : ∀ e ∈ (l.drop a).take n, P e) (h2 : ∀ e ∈ l.drop c, P e) : ∀ e ∈ l.drop a, P e := by
  intro e he
  rw [← List.take_append_drop n (l.drop a)] at he
  rcases List.mem_append.mp he with h | h
  · exact h1 e h
  · rw [List.drop_drop, ← hc] at h
    exact h2 e h
theorem qd_L0 : ∀ e ∈ (qc_L.drop 0).take 20, decode code e.1 = .ok (e.2.1, e.2.2.1) := by decide +kernel
theorem qd_L1 : ∀ e ∈ (qc_L.drop 20).take 1, decode code e.1 = .ok (e.2.1, e.2.2.1) := by decide +kernel
theorem qd_L2 : ∀ e ∈ (qc_L.drop 21).take 20, decode code e.1 = .ok (e.2.1, e.2.2.1) := by decide +kernel
theorem qd_L3 : ∀ e ∈ (qc_L.drop 41).take 20, decode code e.1 = .ok (e.2.1, e.2.2.1) := by decide +kernel
theorem qd_L4 : ∀ e ∈ (qc_L.drop 61).take 20, decode code e.1 = .ok (e.2.1, e.2.2.1) := by decide +kernel
theorem qd_L5 : ∀ e ∈ (qc_L.drop 81).take 20, decode code e.1 = .ok (e.2.1, e.2.2.1) := by decide +kernel
theorem qd_L6 : ∀ e ∈ (qc_L.drop 101).take 20, decode code e.1 = .ok (e.2.1, e.2.2.1) := by decide +kernel
theorem qd_L7 : ∀ e ∈ (qc_L.drop 121).take 20, decode code e.1 = .ok (e.2.1, e.2.2.1) := by decide +kernel
theorem qd_L8 : ∀ e ∈ (qc_L.drop 141).take 20, decode code e.1 = .ok (e.2.1, e.2.2.1) := by decide +kernel
theorem qd_L9 : ∀ e ∈ (qc_L.drop 161).take 20, decode code e.1 = .ok (e.2.1, e.2.2.1) := by decide +kernel
theorem qd_L10 : ∀ e ∈ (qc_L.drop 181).take 20, decode code e.1 = .ok (e.2.1, e.2.2.1) := by decide +kernel
theorem qd_L11 : ∀ e ∈ (qc_L.drop 201).take 20, decode code e.1 = .ok (e.2.1, e.2.2.1) := by decide +kernel
theorem qd_L12 : ∀ e ∈ (qc_L.drop 221).take 20, decode code e.1 = .ok (e.2.1, e.2.2.1) := by decide +kernel
theorem qd_L13 : ∀ e ∈ (qc_L.drop 241).take 20, decode code e.1 = .ok (e.2.1, e.2.2.1) := by decide +kernel
theorem qd_L14 : ∀ e ∈ (qc_L.drop 261).take 20, decode code e.1 = .ok (e.2.1, e.2.2.1) := by decide +kernel
theorem qd_L15 : ∀ e ∈ (qc_L.drop 281).take 20, decode code e.1 = .ok (e.2.1, e.2.2.1) := by decide +kernel
theorem qd_L16 : ∀ e ∈ (qc_L.drop 301).take 20, decode code e.1 = .ok (e.2.1, e.2.2.1) := by decide +kernel
theorem qd_L17 : ∀ e ∈ (qc_L.drop 321).take 20, decode code e.1 = .ok (e.2.1, e.2.2.1) := by decide +kernel
theorem qd_L18 : ∀ e ∈ (qc_L.drop 341).take 20, decode code e.1 = .ok (e.2.1, e.2.2.1) := by decide +kernel
theorem qd_L19 : ∀ e ∈ (qc_L.drop 361).take 20, decode code e.1 = .ok (e.2.1, e.2.2.1) := by decide +kernel
theorem qd_L20 : ∀ e ∈ (qc_L.drop 381).take 20, decode code e.1 = .ok (e.2.1, e.2.2.1) := by decide +kernel
theorem qd_L21 : ∀ e ∈ (qc_L.drop 401).take 20, decode code e.1 = .ok (e.2.1, e.2.2.1) := by decide +kernel
theorem qd_L22 : ∀ e ∈ (qc_L.drop 421).take 20, decode code e.1 = .ok (e.2.1, e.2.2.1) := by decide +kernel
theorem qd_L23 : ∀ e ∈ (qc_L.drop 441).take 20, decode code e.1 = .ok (e.2.1, e.2.2.1) := by decide +kernel
theorem qd_L24 : ∀ e ∈ (qc_L.drop 461).take 20, decode code e.1 = .ok (e.2.1, e.2.2.1) := by decide +kernel
theorem qd_L25 : ∀ e ∈ (qc_L.drop 481).take 20, decode code e.1 = .ok (e.2.1, e.2.2.1) := by decide +kernel
theorem qd_L26 : ∀ e ∈ (qc_L.drop 501).take 20, decode code e.1 = .ok (e.2.1, e.2.2.1) := by decide +kernel
theorem qd_L27 : ∀ e ∈ (qc_L.drop 521).take 20, decode code e.1 = .ok (e.2.1, e.2.2.1) := by decide +kernel
theorem qd_L28 : ∀ e ∈ (qc_L.drop 541).take 20, decode code e.1 = .ok (e.2.1, e.2.2.1) := by decide +kernel
theorem qd_L29 : ∀ e ∈ (qc_L.drop 561).take 20, decode code e.1 = .ok (e.2.1, e.2.2.1) := by decide +kernel
theorem qd_L30 : ∀ e ∈ (qc_L.drop 581).take 20, decode code e.1 = .ok (e.2.1, e.2.2.1) := by decide +kernel
theorem qd_L31 : ∀ e ∈ (qc_L.drop 601).take 20, decode code e.1 = .ok (e.2.1, e.2.2.1) := by decide +kernel
theorem qd_L32 : ∀ e ∈ (qc_L.drop 621).take 20, decode code e.1 = .ok (e.2.1, e.2.2.1) := by decide +kernel
theorem qd_L33 : ∀ e ∈ (qc_L.drop 641).take 20, decode code e.1 = .ok (e.2.1, e.2.2.1) := by decide +kernel
theorem qd_L34 : ∀ e ∈ (qc_L.drop 661).take 20, decode code e.1 = .ok (e.2.1, e.2.2.1) := by decide +kernel
theorem qd_L35 : ∀ e ∈ (qc_L.drop 681).take 20, decode code e.1 = .ok (e.2.1, e.2.2.1) := by decide +kernel
theorem qd_L36 : ∀ e ∈ (qc_L.drop 701).take 20, decode code e.1 = .ok (e.2.1, e.2.2.1) := by decide +kernel
theorem qd_L37 : ∀ e ∈ (qc_L.drop 721).take 20, decode code e.1 = .ok (e.2.1, e.2.2.1) := by decide +kernel
theorem qd_end : qc_L.drop 741 = [] := List.drop_eq_nil_of_le (show qc_L.length ≤ 741 from Nat.le_of_ble_eq_true (by decide +kernel))
theorem qd_L : ∀ e ∈ qc_L, decode code e.1 = .ok (e.2.1, e.2.2.1) := (qd_tk 0 20 20 rfl qd_L0 (qd_tk 20 1 21 rfl qd_L1 (qd_tk 21 20 41 rfl qd_L2 (qd_tk 41 20 61 rfl qd_L3 (qd_tk 61 20 81 rfl qd_L4 (qd_tk 81 20 101 rfl qd_L5 (qd_tk 101 20 121 rfl qd_L6 (qd_tk 121 20 141 rfl qd_L7 (qd_tk 141 20 161 rfl qd_L8 (qd_tk 161 20 181 rfl qd_L9 (qd_tk 181 20 201 rfl qd_L10 (qd_tk 201 20 221 rfl qd_L11 (qd_tk 221 20 241 rfl qd_L12 (qd_tk 241 20 261 rfl qd_L13 (qd_tk 261 20 281 rfl qd_L14 (qd_tk 281 20 301 rfl qd_L15 (qd_tk 301 20 321 rfl qd_L16 (qd_tk 321 20 341 rfl qd_L17 (qd_tk 341 20 361 rfl qd_L18 (qd_tk 361 20 381 rfl qd_L19 (qd_tk 381 20 401 rfl qd_L20 (qd_tk 401 20 421 rfl qd_L21 (qd_tk 421 20 441 rfl qd_L22 (qd_tk 441 20 461 rfl qd_L23 (qd_tk 461 20 481 rfl qd_L24 (qd_tk 481 20 501 rfl qd_L25 (qd_tk 501 20 521 rfl qd_L26 (qd_tk 521 20 541 rfl qd_L27 (qd_tk 541 20 561 rfl qd_L28 (qd_tk 561 20 581 rfl qd_L29 (qd_tk 581 20 601 rfl qd_L30 (qd_tk 601 20 621 rfl qd_L31 (qd_tk 621 20 641 rfl qd_L32 (qd_tk 641 20 661 rfl qd_L33 (qd_tk 661 20 681 rfl qd_L34 (qd_tk 681 20 701 rfl qd_L35 (qd_tk 701 20 721 rfl qd_L36 (qd_tk 721 20 741 rfl qd_L37 (fun e h => absurd (qd_end ▸ h) List.not_mem_nil)))))))))))))))))))))))))))))))))))))))
theorem qe_L {n : Nat} {f : Nat → Int} : ∀ e ∈ qc_L, qm_chk 4 false (qi_L n f) e = true := by
  have h : ∀ e ∈ qc_L, qm_chk 4 false (qi_L 0 (fun _ => 0)) e = true := by decide +kernel
  intro e he
  exact h e he
theorem qo_L {n : Nat} {f : Nat → Int} : qm_Ok qm_It qm_P R_law code 4 false (qi_L n f) := ⟨qd_L, qe_L, qf_L, qn_L, qk_L⟩
theorem qm_insts {ci : Nat} {r : vw_C} (h : vwCl[ci]? = some r) : Cond.instantiable r.1 r.2.2 ∈ qm_tb := by
  have hm := List.mem_of_getElem? h
  simp only [vwCl, List.mem_cons, List.not_mem_nil, or_false] at hm
  rcases hm with rfl | rfl | rfl | rfl | rfl | rfl | rfl | rfl | rfl | rfl | rfl
  · exact qw_145
  · exact qw_124
  · exact qw_251
  · exact qw_106
  · exact qw_226
  · exact qw_151
  · exact qw_88
  · exact qw_82
  · exact qw_182
  · exact qw_74
  · exact qw_872
theorem qm_allK {s : State} {args : Array Value} (hts : ∀ w ∈ qm_tb, w.before args s = true) : ∃ (D : va_G) (cA : ClassId), va_K D vwCl [(cA, .int)] s := by
  have h : ∀ ci : Nat, ∃ D : ClassId × (Nat → Nat), ∀ r : vw_C, vwCl[ci]? = some r → u_Kn s r.1 r.2.1 r.2.2 D.1 D.2 := by
    intro ci
    cases hc : vwCl[ci]? with
    | none => exact ⟨(default, fun _ => 0), fun r hr => by cases hr⟩
    | some r =>
      obtain ⟨cC, iS, h⟩ := u_known hts (qm_kinds hc).1 (hts _ (qm_insts hc))
      exact ⟨(cC, iS), fun r' hr => by cases hr; exact h⟩
  obtain ⟨cA, kA, comp, h1, h2, h3⟩ := Cond.arrayClass_spec (hts _ qm_arrW)
  refine ⟨(fun ci => (Classical.choose (h ci)).1, fun ci => (Classical.choose (h ci)).2), cA, fun ci r hr => Classical.choose_spec (h ci) r hr, fun k q hk => ?_⟩
  have hz : k < 1 := (List.getElem?_eq_some_iff.mp hk).1
  rw [show k = 0 by omega] at hk
  cases hk
  exact ⟨fun n z => ⟨fun k h => (by cases h), kA, h2, comp, h3⟩, h1⟩

def lw_P (b : Addr) (xs : List Int32) (args : Array Value) (s : State) : Prop := args = #[.ref b] ∧ s.IntsAt b xs ∧ xs.length ≤ 2048 ∧ (Jvm.Cond.and given_1 narrow_1).before args s = true
def lw_Q (_ : Array Value) (s : State) (o : Outcome) (t : State) : Prop := o = .returned (some (.int 1)) ∧ Framed s o t [] 600000 7302250
def lw_Z (below : List Frame) (a : Array Value) (s : State) : State → Prop := fun t => ∃ o, t.status = .running ∧ Ended t below o ∧ lw_Q a s o t
/-- the law's own end, with 1 on the stack, nothing written that was there before, its room as the claim has it -/
theorem lw_ret {p : Program} {l : Launch} {e : Env} {s : State} {m : MethodId} {below : List Frame} {meth : Method} {c : Code} {b : Nat} (hx : p.tables.exec = Jvm.exec) (hb : c.code = code) (hr : meth.sig.returnType = ret) (hlocks : meth.locks = false) {pc : Nat} {H : Heap} {ls : Array Slot} (hdg : decode code pc = .ok (.ireturn, 1)) : W p l e room_1 s m #[Value.ref b] below meth c H [] 600000 7302250 (lw_Z below #[Value.ref b] s) (F0 m pc ls [.int 1]) := by
  intro T hT X
  obtain ⟨fs, hret, hrun, hended, hW, hframe⟩ := X.leave (v := some (.int 1)) (hlocks := hlocks) (fun h => by rw [hr] at h; cases h)
  have hmeth' : T.vm.method? m = some meth := X.method'
  refine ⟨T.setFrames fs, ?_, .returned (some (.int 1)), hrun, hended, rfl, ⟨_, rfl⟩, hW, hframe⟩
  jvm_step X.here [X.here.top, hx, hb, hdg, hmeth', hr, ret, narrow_b1]
  (try refine ⟨rfl, ?_⟩); (try refine ⟨rfl, ?_⟩)
  first | (intro acts; rw [hret _ acts rfl rfl rfl]) | rw [hret _ _ rfl rfl rfl]
  exact Steps.refl _
/-- what holds at the law's entry: the machine, the code, the tables' words (any of lw_tbl by 'hts w (by decide +kernel)'), the script of L ints xs at the cell b, what the Statement gives of the start (any of its parts by flat_of_before) -/
def lw_At (p : Program) (s : State) (m : MethodId) (meth : Method) (c : Code) (b L : Nat) (xs : Nat → Int32) : Prop :=
  p.tables.exec = Jvm.exec ∧ c.code = code ∧ meth.sig.returnType = ret ∧ c.maxLocals = 4 ∧ s.vm.findClass R_law = some m.cls ∧ (∀ w ∈ lw_tbl, w.before #[Value.ref b] s = true) ∧ va_X b L xs s s.heap ∧ b < s.heap.size ∧ meth.locks = false ∧ (Jvm.Cond.and given_1 narrow_1).before #[Value.ref b] s = true

/-- from the entry, for every script, the law comes to its end with true -/
theorem whole_start {p : Program} {e : Env} {s : State} {m : MethodId} {below : List Frame} {meth : Method} {c : Code} (l : Launch) (hflags : l.flags = flags0) {b L : Nat} {xs : Nat → Int32} (hL : L ≤ 2048) (C0 : lw_At p s m meth c b L xs) : W p l e room_1 s m #[Value.ref b] below meth c s.heap [] 0 0 (lw_Z below #[Value.ref b] s) (entryFrame m ([Value.ref b] : List Value).toArray 4) := by
  obtain ⟨hx, hb, hr, hml, hown, hts, hX, hbl, hlocks, hgv⟩ := id C0
  have htb : ∀ w ∈ qm_tb, w.before #[Value.ref b] s = true := fun w hw => hts w (List.mem_filter.mp hw).1
  obtain ⟨D, cA, hK⟩ := qm_allK htb
  have hA : ∀ q : Nat, s.heap.size ≤ q → s.heap.size ≤ q := fun _ h => h
  have hsx : (fun j => Int32.ofInt ((xs j).toInt)) = xs := funext fun j => Int32.ofInt_toInt _
  have C : qm_Ctx p room_1 s m #[Value.ref b] meth c R_law code 4 false (qi_L L (fun j => (xs j).toInt)) D cA b (fun q => s.heap.size ≤ q) 12 :=
    ⟨hx, hb, hml, hown, htb, hK, hA, fun sc hs => (by
      cases hs
      exact ⟨(by show va_X b L (fun j => Int32.ofInt ((xs j).toInt)) s s.heap; rw [hsx]; exact hX), hbl, Nat.not_le.mpr hbl, Nat.lt_of_le_of_lt hL (by decide), fun j => qm_R32 _⟩), Nat.le_refl _, Nat.le_refl _, (by decide), (by decide), fun h => by cases h⟩
  have IH : ∀ y a L M K, qm_Runs qm_P 12 y a L M K → qm_Met l qm_It qm_P 12 y a L M K := fun y a L M K h => qm_soundness l 12 y a L M K h
  have hret : qm_Ret p l e room_1 s m #[Value.ref b] below meth c (lw_Z below #[Value.ref b] s) code (qi_L L (fun j => (xs j).toInt)) D cA (fun q => s.heap.size ≤ q) [] (fun _ => 0) (fun r _ _ => r = .inl 1) := by
    intro pc i r stk ad' H locs lsA L' M' k n hdg hrt hQ hokr hw
    obtain ⟨w1, w2, w3, w4, w5, w6, w7, w8, w9⟩ := hw
    cases hQ
    refine W.widen (k := 600000) (n := 7302250) w6 w7 ?_
    refine va_forget (fun q hq => w5.2.2 q hq) ?_
    rcases hrt with ⟨rfl, v, hv, rfl, hrt⟩ | ⟨rfl, h0, hv, rfl⟩ | ⟨rfl, h3, o, hv, rfl⟩
    · cases hv
      exact lw_ret hx hb hr hlocks hdg
    · exact absurd (show (2 : Nat) = 0 from h0) (by decide)
    · exact absurd (show (2 : Nat) = 3 from h3) (by decide)
  rw [lg_entry_eq]
  have hsim := (law_start (sn := L) (f := fun j => (xs j).toInt) (d := 0) (K := fun r _ _ => r = .inl 1) hL (fun _ _ => rfl)) _ (fun pc ls st L2 M2 k n h => qm_sim (Q := fun r _ _ => r = .inl 1) (L0 := []) (ad0 := fun _ => 0) C qo_L IH hret pc ls st L2 M2 k n h)
  exact hsim (fun _ => 0) s.heap [] _ ⟨fun o e h => (by simp at h), fun _ _ => (show qm_R 0 from ⟨by decide, by decide⟩), fun k q h => (by simp [qm_w] at h), ⟨fun i j p q h => (by simp [qm_w] at h), fun k q h => (by simp [qm_w] at h)⟩, va_S.rf, Nat.zero_le _, Nat.zero_le _, fun _ _ => rfl, Nat.le_refl _⟩ (fun v hv => by cases hv) (qm_entryOk (a := [.inr none]) (n := 3) (fun v hv => by rw [List.mem_singleton.mp hv]; trivial)) (qm_entry (nL := 4) [.inr none] (by decide))

set_option maxHeartbeats 4000000 in
theorem lw_walk (l : Launch) (hflags : l.flags = flags0) (b : Addr) (xs : List Int32) : MetFree l x (headSpec (Jvm.Cond.code x code maxLocals ret :: tables_1) room_1) (lw_P b xs) (fun _ _ _ _ _ => True) lw_Q := by
  refine MetFree.of_bodyS (code := code) (maxLocals := maxLocals) (ret := ret) (by decide) ?_ ?_
  · intro args s m h hn
    obtain ⟨meth, c, h1, h2, h3, h4, h5, h6, -, -⟩ := Cond.code_spec hn (atoms_spec (ws := Jvm.Cond.code x code maxLocals ret :: tables_1) h _ List.mem_cons_self)
    exact ⟨meth, c, h1, h2, h3, h4, h5, h6⟩
  · intro p e s m args below meth c s₁ B hml0 hP _
    obtain ⟨rfl, hx, hbd, hgv⟩ := hP
    obtain ⟨scr, harrAt, hlist, hof, hsmall⟩ := hx
    obtain ⟨hcb, hkn, -, -⟩ := State.arrayAt?_spec harrAt
    have hown : s.vm.findClass R_law = some m.cls := findClass_of_methodNamed B.named
    have hts0 : ∀ c ∈ (Jvm.Cond.code x code maxLocals ret :: tables_1), c.before #[Value.ref b] s = true := atoms_spec (ws := Jvm.Cond.code x code maxLocals ret :: tables_1) B.pre
    have hts : ∀ w ∈ lw_tbl, w.before #[Value.ref b] s = true := k2_hts_sels lw_privs (fun w hw => hts0 w (List.mem_cons_of_mem _ hw)) lw_privs_ok
    have hml : c.maxLocals = 4 := B.maxLocals_eq (hts0 _ List.mem_cons_self)
    have X₀ : Stand p l e room_1 s m #[Value.ref b] below meth c s₁ [] 0 0 := Stand.of_body B
    have hh0 : s₁.heap = s.heap := by rw [B.state]; rfl
    have hsz : scr.slots.size = xs.length := by rw [← Array.length_toList, hlist, List.length_map]
    have hval : ∀ j : Nat, j < xs.length → scr.slots[j]? = some (.int (xs.getD j 0)) := fun j hj => by
      rw [← Array.getElem?_toList, hlist]
      simp [hj]
    have hbl : b < s.heap.size := (Array.getElem?_eq_some_iff.mp hcb).1
    have hX : va_X b xs.length (fun j => xs.getD j 0) s s.heap := ⟨scr, hcb, hof, hkn, hsz, hval⟩
    have K : W p l e room_1 s m #[Value.ref b] below meth c s₁.heap [] 0 0 (lw_Z below #[Value.ref b] s) (entryFrame m ([Value.ref b] : List Value).toArray 4) := by
      rw [hh0]
      exact whole_start l hflags hbd ⟨B.exec, B.bytes, B.returns, hml, hown, hts, hX, hbl, B.notSynchronized, hgv⟩
    obtain ⟨t, a1, o, b1, b2, b3⟩ := K s₁ rfl X₀
    exact ⟨t, o, a1, b1, b2, b3⟩
theorem lw_pre_spec {args : Array Value} {s : State} (h : (Jvm.Cond.and given_1 narrow_1).before args s = true) (hr : rest_1_c.before args s = true) : ∃ (b : Addr) (xs : List Int32), lw_P b xs args s := by
  have hs := flat_of_before _ h
  have hq := flat_of_before _ hr
  have hc : (Cond.count 1).before args s = true := hs _ (by decide +kernel)
  have harr : (Cond.arrayOf (.arg 0) .int).before args s = true := hs _ (by decide +kernel)
  have hle : (Cond.le (.length (.arg 0)) (.int 2048)).before args s = true := hs _ (by decide +kernel)
  have hlen : (Cond.isInt (.length (.arg 0))).before args s = true := hq _ (by decide +kernel)
  have hall : (Cond.all (.arg 0) (.isInt (.elem (.arg 0) (.index 0)))).before args s = true := hq _ (by decide +kernel)
  obtain ⟨b, xs, hb, hx⟩ := State.ints_of_pre rfl harr hlen hall
  have hsm : xs.length < 2 ^ 31 := hx.choose_spec.2.2.2
  have hev : (Term.length (.arg 0)).eval args s none [] s = some (.int xs.length.toInt32) := hx.length_eval hb
  have hv := Cond.le_ints hev (show (Term.int 2048).eval args s none [] s = some (.int 2048) from rfl)
  have hd : xs.length.toInt32 ≤ 2048 := by
    simpa [Cond.before, Cond.holds, hv] using hle
  have hN : xs.length ≤ 2048 := (Int32.ofNat_le_ofNat hsm (by decide)).mp (show Int32.ofNat xs.length ≤ Int32.ofNat 2048 from hd)
  exact ⟨b, xs, Cond.one_arg hc (show args[0]? = some (.ref b) from hb), hx, hN, h⟩
theorem lw_comes (l : Launch) (hflags : l.flags = flags0) : Comes l x (Jvm.Cond.code x code maxLocals ret :: tables_1) room_1 (fun tb e args s => Calls_1 tb e args s ∧ rest_1 tb e args s ∧ Pre_1 tb e args s)
    (fun _ _ args s o t => lw_Q args s o t) := by
  intro p e ha hc hk s m args below hf hfit hheap happ hpre
  obtain ⟨b, xs, hP⟩ := lw_pre_spec hpre.2.2 hpre.2.1
  obtain ⟨k, o, h1, h2, h3, hQ⟩ := lw_walk l hflags b xs p e ha hc hk s m args below hf ((Spec.applies_iff_loose hf).mp happ).1 hP trivial
  exact ⟨k, o, h1, h2, h3, hQ⟩
theorem lw_frame {s t : State} {o : Outcome} {args : Array Value} (h : Framed s o t [] 600000 7302250) :
    Framed s o t (fieldLocs frame_1_writes args s ++ arrayLocs frame_1_arrays args s ++ staticLocs frame_1_statics s) 600000 7302250 := h
theorem lw_limb (L : Cond) (hL : ∀ (args : Array Value) (s t : State), L.after args s (.returned (some (.int 1))) t = true) :
    ArmFor flags0 classFile x code maxLocals ret World_1 tables_1 room_1 Calls_1 rest_1 Pre_1
      (fun tb e a s o t => postC L tb e a s o t ∧ Framed s o t (fieldLocs frame_1_writes a s ++ arrayLocs frame_1_arrays a s ++ staticLocs frame_1_statics s) 600000 7302250) := by
  intro l hflags _ _ p e ha hc hk s m args below hf hfit hheap happ hpre
  obtain ⟨k, o, h1, h2, h3, rfl, hF⟩ := lw_comes l hflags p e ha hc hk s m args below hf hfit hheap happ hpre
  exact ⟨k, _, h1, h2, h3, hL args s _, lw_frame hF⟩
theorem i_vc : Claimed_1_1 ∧ Claimed_1_2 := ⟨lw_limb limb_1_1 (fun args s t => by simp [limb_1_1, Cond.after, Cond.holds, Cond.value]), lw_limb limb_1_2 (fun args s t => Cond.after_iff.mpr (by
  first | (rw [show limb_1_2 = Cond.eq .result (.int 1) from rfl, Cond.eq_ints (x := 1) (y := 1) rfl rfl]; simp; done) | (simp [limb_1_2, Cond.value, Term.eval]; done)))⟩
