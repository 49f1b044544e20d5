/-! Each step of the abstract machine is one of the machine. -/
def qm_pl (ad : Nat → Nat) (b : Nat) (ls : List (Option qm_V)) : List (Nat × Value) := ls.zipIdx.filterMap (fun q => q.1.map (fun v => (q.2, qm_cv ad b v)))
theorem qm_pl_mem {ad : Nat → Nat} {b : Nat} {ls : List (Option qm_V)} {i : Nat} {w : Value} : (i, w) ∈ qm_pl ad b ls ↔ ∃ v, ls[i]? = some (some v) ∧ w = qm_cv ad b v := by
  unfold qm_pl
  rw [List.mem_filterMap]
  constructor
  · rintro ⟨⟨o, j⟩, h1, h2⟩
    have h3 := List.mk_mem_zipIdx_iff_getElem?.mp h1
    cases o with
    | none => simp at h2
    | some v =>
      simp only [Option.map_some, Option.some.injEq, Prod.mk.injEq] at h2
      obtain ⟨rfl, rfl⟩ := h2
      exact ⟨v, h3, rfl⟩
  · rintro ⟨v, h1, rfl⟩
    exact ⟨(some v, i), List.mk_mem_zipIdx_iff_getElem?.mpr h1, rfl⟩
def qm_LH (lsA : Array Slot) (nL : Nat) (ad : Nat → Nat) (b : Nat) (ls : List (Option qm_V)) : Prop := lsA.size = nL ∧ lv_wf lsA ∧ ∀ (i : Nat) (v : qm_V), ls[i]? = some (some v) → lsA[i]? = some (.val (qm_cv ad b v))
theorem qm_LH_has {lsA : Array Slot} {nL : Nat} {ad : Nat → Nat} {b : Nat} {ls : List (Option qm_V)} (h : qm_LH lsA nL ad b ls) : lv_has lsA nL (qm_pl ad b ls) :=
  ⟨h.1, h.2.1, fun ⟨i, w⟩ hq => by
    obtain ⟨v, h1, rfl⟩ := qm_pl_mem.mp hq
    exact h.2.2 i v h1⟩
theorem qm_LH_set {lsA : Array Slot} {nL : Nat} {ad : Nat → Nat} {b : Nat} {ls : List (Option qm_V)} {i : Nat} {v : qm_V} (h : lv_has lsA nL ((i, qm_cv ad b v) :: (qm_pl ad b ls).filter (fun q => !(q.1 == i) && !(q.1 + 1 == i && q.2.category == 2)))) : qm_LH lsA nL ad b (ls.set i (some v)) := by
  refine ⟨h.1, h.2.1, fun j w hw => ?_⟩
  by_cases hj : j = i
  · subst hj
    rw [List.getElem?_set] at hw
    simp only [if_true] at hw
    split at hw
    · cases hw
      exact h.2.2 (j, qm_cv ad b v) List.mem_cons_self
    · cases hw
  · rw [List.getElem?_set_ne (Ne.symm hj)] at hw
    refine h.2.2 (j, qm_cv ad b w) (List.mem_cons_of_mem _ (List.mem_filter.mpr ⟨qm_pl_mem.mpr ⟨w, hw, rfl⟩, ?_⟩))
    simp [hj, qm_cat]
theorem qm_LH_ext {L : qm_L} {lsA : Array Slot} {nL : Nat} {ad ad' : Nat → Nat} {b : Nat} {ls : List (Option qm_V)} (h : qm_LH lsA nL ad b ls) (he : ∀ k, k < L.length → ad' k = ad k) (ho : ∀ (i : Nat) v, ls[i]? = some (some v) → qm_okV L v) : qm_LH lsA nL ad' b ls :=
  ⟨h.1, h.2.1, fun i v hv => by rw [qm_cv_ext b he (ho i v hv)]; exact h.2.2 i v hv⟩
/-- method: class, name, bytes, locals, what it answers -/
abbrev qm_Y : Type := String × MethodName × ByteArray × Nat × Option FieldType
def qm_isRef (t : FieldType) : Bool := match t with
  | .object _ => true
  | .array _ => true
  | _ => false
/-- the words that outlast a step -/
def qm_tb : List Cond := lw_tbl.filter goodWord
theorem qm_tb_in {w : Cond} (h : w ∈ lw_tbl) (hg : goodWord w = true) : w ∈ qm_tb := List.mem_filter.mpr ⟨h, hg⟩
theorem qm_tbl {i : Nat} {w : Cond} (h : lw_tbl[i]? = some w) (hg : goodWord w = true) : w ∈ qm_tb := qm_tb_in (List.mem_of_getElem? h) hg
def qm_okF (own : String) (e : Nat × Nat × Nat × Nat) : Bool := match vwCl[e.2.1]? with
  | some r => decide (e.2.2.1 < r.2.2) && (!(r.2.1 e.2.2.1).2.2.2 || decide ((r.2.1 e.2.2.1).1 = own)) &&
    (match parseFieldDescriptor (r.2.1 e.2.2.1).2.2.1 with
      | some t => cond (Nat.beq e.2.2.2 2) (qm_isRef t) (cond (Nat.beq e.2.2.2 1) (decide (t = .boolean)) (Nat.beq e.2.2.2 0 && decide (t = .int)))
      | none => false)
  | none => false
def qm_wF (own : String) (e : Nat × Nat × Nat × Nat) : Prop := match vwCl[e.2.1]? with
  | some r => Cond.fieldLink own e.1 (r.2.1 e.2.2.1).1 (r.2.1 e.2.2.1).2.1 (r.2.1 e.2.2.1).2.2.1 ∈ qm_tb
  | none => False
def qm_okN (e : Nat × Nat) : Bool := match vwCl[e.2]? with
  | some r => Nat.beq (qm_df.getD e.2 []).length r.2.2 && (List.range r.2.2).all (fun k => match parseFieldDescriptor (r.2.1 k).2.2.1, (qm_df.getD e.2 [])[k]? with
      | some t, some (some none) => qm_isRef t
      | some t, some none => decide (t = .int ∨ t = .boolean)
      | _, _ => false)
  | none => false
def qm_wN (own : String) (e : Nat × Nat) : Prop := match vwCl[e.2]? with
  | some r => Cond.classLink own e.1 r.1 ∈ qm_tb ∧ Cond.instantiable r.1 r.2.2 ∈ qm_tb ∧ Cond.initialized r.1 ∈ qm_tb
  | none => False
def qm_okC (I : Nat → qm_Y) (P : Nat → qm_MI × Nat) (e : Nat × Nat × Nat × Nat × Nat × Nat × Nat) : Bool :=
  cond (Nat.ble 9990 e.2.1) true
  (decide ((I e.2.1).2.1.cls ≠ "java/lang/invoke/MethodHandle") && decide ((I e.2.1).2.1.cls ≠ "java/lang/invoke/VarHandle") && Nat.beq e.2.2.2.2.1 (cond (Nat.beq (P e.2.1).1.2.2.1 0) 0 1) && Nat.beq e.2.2.2.2.2.1 (P e.2.1).1.2.2.2.1 && Nat.beq e.2.2.2.2.2.2 (P e.2.1).1.2.2.2.2.1 && Nat.ble (I e.2.1).2.2.2.1 40 && Nat.beq (P e.2.1).2 (I e.2.1).2.2.2.1 &&
      cond (Nat.beq e.2.2.2.1 99) (decide ((parseMethodDescriptor (I e.2.1).2.1.desc).map (fun d => d.parameters.length) = some e.2.2.1))
        (Nat.blt 0 e.2.2.1 && decide ((parseMethodDescriptor (I e.2.1).2.1.desc).map (fun d => d.parameters.length) = some (e.2.2.1 - 1)) &&
          cond (Nat.beq e.2.2.2.1 98) (decide ((I e.2.1).2.1.name = "<init>") && decide ((I e.2.1).2.2.2.2 = none))
            (match vwCl[e.2.2.2.1]? with
              | some r => decide (r.1 = (I e.2.1).2.1.cls)
              | none => false)))
def qm_wC (I : Nat → qm_Y) (own : String) (e : Nat × Nat × Nat × Nat × Nat × Nat × Nat) : Prop :=
  cond (Nat.ble 9990 e.2.1) (cond (Nat.beq e.2.1 9999) (Cond.methodLink own e.1 Lib.objectInit ∈ qm_tb ∧ Cond.instanceMethod Lib.objectInit ∈ qm_tb ∧ Cond.code Lib.objectInit ⟨#[0xb1]⟩ 1 none ∈ qm_tb)
    (Cond.initialized "java/lang/Math" ∈ qm_tb ∧ cond (Nat.beq e.2.1 9990) (Cond.methodLink own e.1 Lib.Math.max.name ∈ qm_tb ∧ Cond.static Lib.Math.max.name ∈ qm_tb ∧ Cond.code Lib.Math.max.name Lib.Math.max.code 2 (some .int) ∈ qm_tb)
      (cond (Nat.beq e.2.1 9991) (Cond.methodLink own e.1 Lib.Math.min.name ∈ qm_tb ∧ Cond.static Lib.Math.min.name ∈ qm_tb ∧ Cond.code Lib.Math.min.name Lib.Math.min.code 2 (some .int) ∈ qm_tb)
        (cond (Nat.beq e.2.1 9992) (Cond.methodLink own e.1 Lib.Math.abs.name ∈ qm_tb ∧ Cond.static Lib.Math.abs.name ∈ qm_tb ∧ Cond.code Lib.Math.abs.name Lib.Math.abs.code 1 (some .int) ∈ qm_tb) False))))
  (Cond.methodLink own e.1 (I e.2.1).2.1 ∈ qm_tb ∧ Cond.code (I e.2.1).2.1 (I e.2.1).2.2.1 (I e.2.1).2.2.2.1 (I e.2.1).2.2.2.2 ∈ qm_tb ∧ Cond.initialized (I e.2.1).2.1.cls ∈ qm_tb ∧
    cond (Nat.beq e.2.2.2.1 99) (Cond.static (I e.2.1).2.1 ∈ qm_tb) (Cond.instanceMethod (I e.2.1).2.1 ∈ qm_tb ∧ cond (Nat.beq e.2.2.2.1 98) True (Cond.selects (I e.2.1).2.1.cls (I e.2.1).2.1 (I e.2.1).2.1 ∈ qm_tb)))
def qm_off (pc : Nat) (off : Int) (t : Nat) : Bool := decide ((pc : Int) + off = (t : Int))
/-- an instruction is one that the machine has, its length and its targets are as they are told -/
def qm_chk (nL : Nat) (isInit : Bool) (mi : qm_MI) (e : qm_I) : Bool := match e.2.1 with
  | .iconst v => Nat.beq e.2.2.1 1 && decide (-1 ≤ v ∧ v ≤ 5)
  | .bipush v => Nat.beq e.2.2.1 2 && decide ((Int8.ofInt v).toInt32 = Int32.ofInt v ∧ -128 ≤ v ∧ v ≤ 127)
  | .sipush v => Nat.beq e.2.2.1 3 && decide ((Int16.ofInt v).toInt32 = Int32.ofInt v ∧ -32768 ≤ v ∧ v ≤ 32767)
  | .iload _ => Nat.beq e.2.2.1 2
  | .aload _ => Nat.beq e.2.2.1 2
  | .iload_n _ => Nat.beq e.2.2.1 1
  | .aload_n _ => Nat.beq e.2.2.1 1
  | .istore k => Nat.beq e.2.2.1 2 && Nat.blt k nL
  | .astore k => Nat.beq e.2.2.1 2 && Nat.blt k nL
  | .istore_n k => Nat.beq e.2.2.1 1 && Nat.blt k.val nL
  | .astore_n k => Nat.beq e.2.2.1 1 && Nat.blt k.val nL
  | .iinc k _ => Nat.beq e.2.2.1 3 && Nat.blt k nL
  | .if_icmp _ off => Nat.beq e.2.2.1 3 && qm_off e.1 off (e.2.2.2.getD 0 0)
  | .ifCond _ off => Nat.beq e.2.2.1 3 && qm_off e.1 off (e.2.2.2.getD 0 0)
  | .goto off => Nat.beq e.2.2.1 3 && qm_off e.1 off (e.2.2.2.getD 0 0)
  | .tableswitch d lo hi offs => decide (lo = 0) && decide (hi + 1 = Int.ofNat offs.size) && qm_off e.1 d (e.2.2.2.getD 0 0) && Nat.beq e.2.2.2.tail.length offs.size && (List.range offs.size).all (fun k => match offs[k]? with
      | some o => qm_off e.1 o (e.2.2.2.tail.getD k 0)
      | none => false)
  | .lookupswitch d ps => (ps.toList.zip (ps.toList.drop 1)).all (fun (a, next) => decide (a.1 < next.1)) && qm_off e.1 d (e.2.2.2.getD 0 0) && Nat.beq e.2.2.2.tail.length ps.toList.length && (List.range ps.toList.length).all (fun k => match ps.toList[k]? with
      | some o => qm_off e.1 o.2 (e.2.2.2.tail.getD k 0)
      | none => false)
  | .getfield _ => Nat.beq e.2.2.1 3
  | .putfield idx => Nat.beq e.2.2.1 3 && (match qm_lk idx mi.1.1 with
      | some f => (match vwCl[f.1]? with
        | some r => !(r.2.1 f.2.1).2.2.2 || isInit
        | none => false)
      | none => false)
  | .new _ => Nat.beq e.2.2.1 3
  | .newarray _ => Nat.beq e.2.2.1 2
  | .invokevirtual idx => Nat.beq e.2.2.1 3 && (match qm_lk idx mi.1.2.2 with
      | some f => Nat.blt f.2.2.1 90 && Nat.blt f.1 9990
      | none => false)
  | .invokestatic idx => Nat.beq e.2.2.1 3 && (match qm_lk idx mi.1.2.2 with
      | some f => Nat.beq f.2.2.1 99 && !(Nat.beq f.1 9999)
      | none => false)
  | .invokespecial idx => Nat.beq e.2.2.1 3 && (match qm_lk idx mi.1.2.2 with
      | some f => (Nat.beq f.2.2.1 98 && Nat.blt f.1 9990) || Nat.beq f.1 9999
      | none => false)
  | _ => Nat.beq e.2.2.1 1
def qm_Ok (I : Nat → qm_Y) (P : Nat → qm_MI × Nat) (own : String) (bytes : ByteArray) (nL : Nat) (isInit : Bool) (mi : qm_MI) : Prop :=
  (∀ e ∈ mi.2.1, decode bytes e.1 = .ok (e.2.1, e.2.2.1)) ∧ (∀ e ∈ mi.2.1, qm_chk nL isInit mi e = true) ∧ (∀ e ∈ mi.1.1, qm_okF own e = true ∧ qm_wF own e) ∧ (∀ e ∈ mi.1.2.1, qm_okN e = true ∧ qm_wN own e) ∧ (∀ e ∈ mi.1.2.2, qm_okC I P e = true ∧ qm_wC I own e)
theorem qm_lk_mem {α : Type} {k : Nat} {l : List (Nat × α)} {v : α} (h : qm_lk k l = some v) : (k, v) ∈ l := by
  induction l with
  | nil => cases h
  | cons e l ih =>
    unfold qm_lk at h
    cases hb : Nat.beq e.1 k with
    | true =>
      rw [hb] at h
      have h2 := Nat.eq_of_beq_eq_true hb
      cases h
      rw [← h2]
      exact List.mem_cons_self
    | false =>
      rw [hb] at h
      exact List.mem_cons_of_mem _ (ih h)
theorem qm_uws {C : String} {T : u_T} {N : Nat} (h : ∀ w ∈ u_ws C T N, w ∈ lw_tbl) : ∀ w ∈ u_ws C T N, w ∈ qm_tb := by
  intro w hw
  refine qm_tb_in (h w hw) ?_
  obtain ⟨k, -, rfl⟩ := List.mem_map.mp hw
  unfold u_lay
  split <;> rfl
/-- every kind of objects: its words are there, its fields' types are read, their names differ -/
def qm_kind (r : vw_C) : Prop := (∀ w ∈ u_ws r.1 r.2.1 r.2.2, w ∈ qm_tb) ∧ (∃ ty0 : Nat → FieldType, ∀ k, k < r.2.2 → parseFieldDescriptor (r.2.1 k).2.2.1 = some (ty0 k)) ∧ ∀ a, a < r.2.2 → ∀ b, b < r.2.2 → a ≠ b → (r.2.1 a).2.1 ≠ (r.2.1 b).2.1
theorem qm_kinds {ci : Nat} {r : vw_C} (h : vwCl[ci]? = some r) : qm_kind r := by
  have hm := List.mem_of_getElem? h
  simp only [vwCl, List.mem_cons, List.not_mem_nil, or_false] at hm
  rcases hm with rfl | rfl | rfl | rfl | rfl | rfl | rfl | rfl | rfl | rfl | rfl
  · exact ⟨qm_uws inX0, ⟨_, tyX0_ok⟩, nmX0⟩
  · exact ⟨qm_uws inX1, ⟨_, tyX1_ok⟩, nmX1⟩
  · exact ⟨qm_uws inX2, ⟨_, tyX2_ok⟩, nmX2⟩
  · exact ⟨qm_uws inX3, ⟨_, tyX3_ok⟩, nmX3⟩
  · exact ⟨qm_uws inX4, ⟨_, tyX4_ok⟩, nmX4⟩
  · exact ⟨qm_uws inX5, ⟨_, tyX5_ok⟩, nmX5⟩
  · exact ⟨qm_uws inX6, ⟨_, tyX6_ok⟩, nmX6⟩
  · exact ⟨qm_uws inX7, ⟨_, tyX7_ok⟩, nmX7⟩
  · exact ⟨qm_uws inX8, ⟨_, tyX8_ok⟩, nmX8⟩
  · exact ⟨qm_uws inX9, ⟨_, tyX9_ok⟩, nmX9⟩
  · exact ⟨qm_uws inX10, ⟨_, tyX10_ok⟩, nmX10⟩
theorem qm_goodIn {ws : List Cond} (h : ∀ w ∈ ws, w ∈ qm_tb) : GoodIn qm_tb ws := fun w hw => ⟨h w hw, good_of_word (List.mem_filter.mp (h w hw)).2⟩
