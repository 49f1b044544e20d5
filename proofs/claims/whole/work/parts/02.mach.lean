/-! The abstract machine: values are whole numbers and places in a layout; what a step asks is said as a proposition. -/
abbrev qm_V : Type := Int ⊕ Option Nat
abbrev qm_E : Type := Nat ⊕ (Nat × List (Option (Option Nat)))
abbrev qm_L : Type := List qm_E
abbrev qm_M : Type := Nat → Nat → Int
abbrev qm_X : Type := Nat → List (Option qm_V) → List qm_V → qm_L → qm_M → Nat → Nat → Prop
abbrev qm_K : Type := qm_V → qm_L → qm_M → Prop
abbrev qm_C : Type := Nat → List qm_V → qm_L → qm_M → qm_K → Prop
/-- pc, instruction, its length, the targets of its jumps -/
abbrev qm_I : Type := Nat × Instr × Nat × List Nat
/-- fields: index; kind of object, place, type (0 int, 1 boolean, 2 a reference) -/
abbrev qm_GF : Type := List (Nat × Nat × Nat × Nat)
/-- new: index; kind of object -/
abbrev qm_NW : Type := List (Nat × Nat)
/-- calls: index; method, how many arguments, kind of the first one, whether it answers, cells, slots -/
abbrev qm_MT : Type := List (Nat × Nat × Nat × Nat × Nat × Nat × Nat)
abbrev qm_S : Type := Option (Nat × (Nat → Int))
/-- a method: fields, new, calls; code; what it answers (0 nothing, 1 int, 2 boolean, 3 a reference); cells, slots; the script -/
abbrev qm_MI : Type := (qm_GF × qm_NW × qm_MT) × List qm_I × Nat × Nat × Nat × qm_S
def qm_lk {α : Type} (k : Nat) : List (Nat × α) → Option α
  | [] => none
  | e :: l => cond (Nat.beq e.1 k) (some e.2) (qm_lk k l)
def qm_u (M : qm_M) (o k : Nat) (v : Int) : qm_M := fun a b => if a = o then (if b = k then v else M a b) else M a b
def qm_z (M : qm_M) (o : Nat) : qm_M := fun a b => if a = o then 0 else M a b
def qm_R (x : Int) : Prop := -2147483648 ≤ x ∧ x ≤ 2147483647
def qm_isI (L : qm_L) (o ci k : Nat) : Prop := ∃ fs, L[o]? = some (.inr (ci, fs)) ∧ fs[k]? = some none
def qm_isF (L : qm_L) (o ci k r : Nat) : Prop := ∃ fs, L[o]? = some (.inr (ci, fs)) ∧ fs[k]? = some (some (some r))
def qm_isO (L : qm_L) (o ci : Nat) : Prop := ∃ fs, L[o]? = some (.inr (ci, fs))
def qm_isA (L : qm_L) (o n : Nat) : Prop := L[o]? = some (.inl n)
def qm_and (a b : Int) : Int := (Int32.ofInt a &&& Int32.ofInt b).toInt
def qm_or (a b : Int) : Int := (Int32.ofInt a ||| Int32.ofInt b).toInt
def qm_xor (a b : Int) : Int := (Int32.ofInt a ^^^ Int32.ofInt b).toInt
def qm_shl (a b : Int) : Int := (Int32.ofInt a <<< (Int32.ofInt b &&& 31)).toInt
def qm_shr (a b : Int) : Int := (Int32.ofInt a >>> (Int32.ofInt b &&& 31)).toInt
def qm_cmp (c : ClassFile.Cond) (a b : Int) : Prop := match c with
  | .eq => a = b
  | .ne => a ≠ b
  | .lt => a < b
  | .ge => b ≤ a
  | .gt => b < a
  | .le => a ≤ b
def qm_sw (a : Int) (X : Nat → Prop) (dflt : Nat) : List (Int × Nat) → Prop
  | [] => X dflt
  | e :: l => (a = e.1 → X e.2) ∧ (a ≠ e.1 → qm_sw a X dflt l)
def qm_keys (k : Nat) : List Nat → List (Int × Nat)
  | [] => []
  | t :: l => (Int.ofNat k, t) :: qm_keys (k + 1) l
def qm_zip : List (Int × Int) → List Nat → List (Int × Nat)
  | p :: l, t :: r => (p.1, t) :: qm_zip l r
  | _, _ => []
def qm_ti (st : List qm_V) (f : Int → List qm_V → Prop) : Prop := match st with
  | .inl a :: r => f a r
  | _ => False
def qm_tii (st : List qm_V) (f : Int → Int → List qm_V → Prop) : Prop := match st with
  | .inl b :: .inl a :: r => f a b r
  | _ => False
def qm_tr (st : List qm_V) (f : Nat → List qm_V → Prop) : Prop := match st with
  | .inr (some o) :: r => f o r
  | _ => False
def qm_li (ls : List (Option qm_V)) (k : Nat) (f : Int → Prop) : Prop := match ls[k]? with
  | some (some (.inl v)) => f v
  | _ => False
def qm_lr (ls : List (Option qm_V)) (k : Nat) (f : Option Nat → Prop) : Prop := match ls[k]? with
  | some (some (.inr v)) => f v
  | _ => False
/-- the kinds of objects: what their fields hold at first -/
def qm_df : List (List (Option (Option Nat))) := [[some none, some none, some none, none], [some none, none, none, none], [some none, some none, none], [some none, some none, none], [some none, none, some none, some none], [some none], [some none], [some none, none], [some none, some none, some none, some none, some none, some none, none, some none, some none, some none, some none], [some none, some none, some none, some none, some none, some none, some none, some none, some none, some none, none], [none, none, some none, some none, some none, some none, some none, some none, none, none, some none, some none, some none, some none, none, none, none, some none, some none, some none, some none, some none, some none, some none, none, some none, some none, some none, some none, some none, some none, none, none, some none, none, none, none, none]]
def qm_call (mi : qm_MI) (call : qm_C) (X : qm_X) (virt : Bool) (n : Nat) (e : Nat × Nat × Nat × Nat × Nat × Nat) (pc : Nat) (ls : List (Option qm_V)) (st : List qm_V) (L : qm_L) (M : qm_M) (c s : Nat) : Prop :=
  cond (Nat.ble 9990 e.1) (cond (Nat.beq e.1 9999) (qm_tr st fun _ r => cond (Nat.ble r.length 8) (X (pc + n) ls r L M c s) False)
    (cond (Nat.beq e.1 9990) (qm_tii st fun a b r => cond (Nat.ble r.length 8) (X (pc + n) ls (.inl (max a b) :: r) L M c s) False)
    (cond (Nat.beq e.1 9991) (qm_tii st fun a b r => cond (Nat.ble r.length 8) (X (pc + n) ls (.inl (min a b) :: r) L M c s) False)
    (cond (Nat.beq e.1 9992) (qm_ti st fun a r => qm_R (-a) ∧ cond (Nat.ble r.length 8) (X (pc + n) ls (.inl (Int.ofNat a.natAbs) :: r) L M c s) False) False))))
    (cond (Nat.ble (c + e.2.2.2.2.1) mi.2.2.2.1 && Nat.ble (s + e.2.2.2.2.2) mi.2.2.2.2.1 && Nat.ble (st.drop e.2.1).length 8 && Nat.beq (st.take e.2.1).length e.2.1)
      ((cond virt (match (st.take e.2.1).reverse with
          | .inr (some o) :: _ => cond (Nat.beq e.2.2.1 98) True (qm_isO L o e.2.2.1)
          | _ => False) True) ∧
        call e.1 (st.take e.2.1).reverse L M (fun r L' M' => X (pc + n) ls (cond (Nat.beq e.2.2.2.1 0) (st.drop e.2.1) (r :: st.drop e.2.1)) L' M' (c + e.2.2.2.2.1) (s + e.2.2.2.2.2)))
      False)
def qm_ins (mi : qm_MI) (call : qm_C) (Q : qm_K) (X : qm_X) (i : Instr) (n : Nat) (ts : List Nat) (pc : Nat) (ls : List (Option qm_V)) (st : List qm_V) (L : qm_L) (M : qm_M) (c s : Nat) : Prop :=
  match i with
  | .iconst v => X (pc + n) ls (.inl v :: st) L M c s
  | .bipush v => X (pc + n) ls (.inl v :: st) L M c s
  | .sipush v => X (pc + n) ls (.inl v :: st) L M c s
  | .iload k => qm_li ls k fun v => X (pc + n) ls (.inl v :: st) L M c s
  | .iload_n k => qm_li ls k.val fun v => X (pc + n) ls (.inl v :: st) L M c s
  | .aload k => qm_lr ls k fun v => X (pc + n) ls (.inr v :: st) L M c s
  | .aload_n k => qm_lr ls k.val fun v => X (pc + n) ls (.inr v :: st) L M c s
  | .istore k => qm_ti st fun a r => X (pc + n) (ls.set k (some (.inl a))) r L M c s
  | .istore_n k => qm_ti st fun a r => X (pc + n) (ls.set k.val (some (.inl a))) r L M c s
  | .astore k => qm_tr st fun o r => X (pc + n) (ls.set k (some (.inr (some o)))) r L M c s
  | .astore_n k => qm_tr st fun o r => X (pc + n) (ls.set k.val (some (.inr (some o)))) r L M c s
  | .iinc k d => qm_li ls k fun v => qm_R (v + d) ∧ X (pc + n) (ls.set k (some (.inl (v + d)))) st L M c s
  | .iadd => qm_tii st fun a b r => qm_R (a + b) ∧ X (pc + n) ls (.inl (a + b) :: r) L M c s
  | .isub => qm_tii st fun a b r => qm_R (a - b) ∧ X (pc + n) ls (.inl (a - b) :: r) L M c s
  | .imul => qm_tii st fun a b r => qm_R (a * b) ∧ X (pc + n) ls (.inl (a * b) :: r) L M c s
  | .idiv => qm_tii st fun a b r => 0 < b ∧ X (pc + n) ls (.inl (a.tdiv b) :: r) L M c s
  | .irem => qm_tii st fun a b r => 0 < b ∧ X (pc + n) ls (.inl (a.tmod b) :: r) L M c s
  | .ineg => qm_ti st fun a r => qm_R (-a) ∧ X (pc + n) ls (.inl (-a) :: r) L M c s
  | .iand => qm_tii st fun a b r => X (pc + n) ls (.inl (qm_and a b) :: r) L M c s
  | .ior => qm_tii st fun a b r => X (pc + n) ls (.inl (qm_or a b) :: r) L M c s
  | .ixor => qm_tii st fun a b r => X (pc + n) ls (.inl (qm_xor a b) :: r) L M c s
  | .ishl => qm_tii st fun a b r => X (pc + n) ls (.inl (qm_shl a b) :: r) L M c s
  | .ishr => qm_tii st fun a b r => X (pc + n) ls (.inl (qm_shr a b) :: r) L M c s
  | .if_icmp cd _ => qm_tii st fun a b r => (qm_cmp cd a b → X (ts.getD 0 0) ls r L M c s) ∧ (¬ qm_cmp cd a b → X (pc + n) ls r L M c s)
  | .ifCond cd _ => qm_ti st fun a r => (qm_cmp cd a 0 → X (ts.getD 0 0) ls r L M c s) ∧ (¬ qm_cmp cd a 0 → X (pc + n) ls r L M c s)
  | .goto _ => X (ts.getD 0 0) ls st L M c s
  | .tableswitch _ _ _ _ => qm_ti st fun a r => qm_sw a (fun t => X t ls r L M c s) (ts.getD 0 0) (qm_keys 0 ts.tail)
  | .lookupswitch _ ps => qm_ti st fun a r => qm_sw a (fun t => X t ls r L M c s) (ts.getD 0 0) (qm_zip ps.toList ts.tail)
  | .getfield idx => match qm_lk idx mi.1.1 with
    | some e => qm_tr st fun o r => cond (Nat.beq e.2.2 2) (∃ f, qm_isF L o e.1 e.2.1 f ∧ X (pc + n) ls (.inr (some f) :: r) L M c s) (qm_isI L o e.1 e.2.1 ∧ X (pc + n) ls (.inl (M o e.2.1) :: r) L M c s)
    | none => False
  | .putfield idx => match qm_lk idx mi.1.1 with
    | some e => match st with
      | .inl v :: .inr (some o) :: r => cond (Nat.beq e.2.2 2) False (cond (Nat.beq e.2.2 1) ((v = 0 ∨ v = 1) ∧ qm_isI L o e.1 e.2.1 ∧ X (pc + n) ls r L (qm_u M o e.2.1 v) c s) (qm_isI L o e.1 e.2.1 ∧ X (pc + n) ls r L (qm_u M o e.2.1 v) c s))
      | .inr (some f) :: .inr (some o) :: r => cond (Nat.beq e.2.2 2) (∃ fs, L[o]? = some (.inr (e.1, fs)) ∧ (∃ g, fs[e.2.1]? = some (some g)) ∧ X (pc + n) ls r (L.set o (.inr (e.1, fs.set e.2.1 (some (some f))))) M c s) False
      | _ => False
    | none => False
  | .iaload => match st with
    | .inl i :: .inr (some o) :: r => ∃ m, qm_isA L o m ∧ 0 ≤ i ∧ i < (m : Int) ∧ X (pc + n) ls (.inl (M o i.toNat) :: r) L M c s
    | .inl i :: .inr none :: r => match mi.2.2.2.2.2 with
      | some sc => 0 ≤ i ∧ i < (sc.1 : Int) ∧ X (pc + n) ls (.inl (sc.2 i.toNat) :: r) L M c s
      | none => False
    | _ => False
  | .iastore => match st with
    | .inl v :: .inl i :: .inr (some o) :: r => ∃ m, qm_isA L o m ∧ 0 ≤ i ∧ i < (m : Int) ∧ X (pc + n) ls r L (qm_u M o i.toNat v) c s
    | _ => False
  | .arraylength => match st with
    | .inr (some o) :: r => ∃ m, qm_isA L o m ∧ m < 2147483648 ∧ X (pc + n) ls (.inl (m : Int) :: r) L M c s
    | .inr none :: r => match mi.2.2.2.2.2 with
      | some sc => X (pc + n) ls (.inl (sc.1 : Int) :: r) L M c s
      | none => False
    | _ => False
  | .new idx => match qm_lk idx mi.1.2.1 with
    | some e => cond (Nat.ble (c + 1) mi.2.2.2.1 && Nat.ble (s + (qm_df.getD e []).length) mi.2.2.2.2.1) (X (pc + n) ls (.inr (some L.length) :: st) (L ++ [.inr (e, qm_df.getD e [])]) (qm_z M L.length) (c + 1) (s + (qm_df.getD e []).length)) False
    | none => False
  | .newarray .int => match st with
    | .inl (.ofNat m) :: r => Nat.ble m 100000 = true ∧ Nat.ble (c + 1) mi.2.2.2.1 = true ∧ Nat.ble (s + m) mi.2.2.2.2.1 = true ∧ X (pc + n) ls (.inr (some L.length) :: r) (L ++ [.inl m]) (qm_z M L.length) (c + 1) (s + m)
    | _ => False
  | .dup => match st with
    | a :: r => X (pc + n) ls (a :: a :: r) L M c s
    | _ => False
  | .pop => match st with
    | _ :: r => X (pc + n) ls r L M c s
    | _ => False
  | .dup2 => match st with
    | b :: a :: r => X (pc + n) ls (b :: a :: b :: a :: r) L M c s
    | _ => False
  | .invokevirtual idx => match qm_lk idx mi.1.2.2 with
    | some e => qm_call mi call X true n e pc ls st L M c s
    | none => False
  | .invokestatic idx => match qm_lk idx mi.1.2.2 with
    | some e => qm_call mi call X false n e pc ls st L M c s
    | none => False
  | .invokespecial idx => match qm_lk idx mi.1.2.2 with
    | some e => qm_call mi call X true n e pc ls st L M c s
    | none => False
  | .ireturn => match st with
    | [.inl v] => cond (Nat.beq mi.2.2.1 2) ((v = 0 ∨ v = 1) ∧ Q (.inl v) L M) (cond (Nat.beq mi.2.2.1 1) (Q (.inl v) L M) False)
    | _ => False
  | .return_ => match st with
    | [] => cond (Nat.beq mi.2.2.1 0) (Q (.inl 0) L M) False
    | _ => False
  | .areturn => match st with
    | [.inr (some o)] => cond (Nat.beq mi.2.2.1 3) (Q (.inr (some o)) L M) False
    | _ => False
  | _ => False
def qm_one (mi : qm_MI) (call : qm_C) (Q : qm_K) (X : qm_X) (pc : Nat) (ls : List (Option qm_V)) (st : List qm_V) (L : qm_L) (M : qm_M) (c s : Nat) : Prop :=
  match qm_lk pc mi.2.1 with
  | some e => qm_ins mi call Q X e.1 e.2.1 e.2.2 pc ls st L M c s
  | none => False
/-- from here the method comes to its end, with Q -/
def qm_TT (mi : qm_MI) (call : qm_C) (Q : qm_K) (pc : Nat) (ls : List (Option qm_V)) (st : List qm_V) (L : qm_L) (M : qm_M) (c s : Nat) : Prop :=
  ∀ X : qm_X, (∀ pc ls st L M c s, qm_one mi call Q X pc ls st L M c s → X pc ls st L M c s) → X pc ls st L M c s
def qm_mono (call : qm_C) : Prop := ∀ y a L M (K K' : qm_K), (∀ r L M, K r L M → K' r L M) → call y a L M K → call y a L M K'
theorem qm_ti_m {st : List qm_V} {f g : Int → List qm_V → Prop} (h : ∀ a r, f a r → g a r) (k : qm_ti st f) : qm_ti st g := by
  unfold qm_ti at *; split at k <;> simp_all
theorem qm_tii_m {st : List qm_V} {f g : Int → Int → List qm_V → Prop} (h : ∀ a b r, f a b r → g a b r) (k : qm_tii st f) : qm_tii st g := by
  unfold qm_tii at *; split at k <;> simp_all
theorem qm_tr_m {st : List qm_V} {f g : Nat → List qm_V → Prop} (h : ∀ a r, f a r → g a r) (k : qm_tr st f) : qm_tr st g := by
  unfold qm_tr at *; split at k <;> simp_all
theorem qm_li_m {ls : List (Option qm_V)} {k : Nat} {f g : Int → Prop} (h : ∀ a, f a → g a) (q : qm_li ls k f) : qm_li ls k g := by
  unfold qm_li at *; split at q <;> simp_all
theorem qm_lr_m {ls : List (Option qm_V)} {k : Nat} {f g : Option Nat → Prop} (h : ∀ a, f a → g a) (q : qm_lr ls k f) : qm_lr ls k g := by
  unfold qm_lr at *; split at q <;> simp_all
theorem qm_sw_m {a : Int} {X Y : Nat → Prop} (h : ∀ t, X t → Y t) (d : Nat) : ∀ l, qm_sw a X d l → qm_sw a Y d l
  | [], q => h _ q
  | _ :: l, q => ⟨fun e => h _ (q.1 e), fun e => qm_sw_m h d l (q.2 e)⟩
theorem qm_cond_m {b : Bool} {A B A' B' : Prop} (h1 : A → A') (h2 : B → B') (k : cond b A B) : cond b A' B' := by
  cases b
  · exact h2 k
  · exact h1 k
theorem qm_call_m {mi : qm_MI} {call : qm_C} {X Y : qm_X} (hc : qm_mono call) (h : ∀ pc ls st L M c s, X pc ls st L M c s → Y pc ls st L M c s) {virt : Bool} {n : Nat} {e : Nat × Nat × Nat × Nat × Nat × Nat} {pc : Nat} {ls : List (Option qm_V)} {st : List qm_V} {L : qm_L} {M : qm_M} {c s : Nat}
    (k : qm_call mi call X virt n e pc ls st L M c s) : qm_call mi call Y virt n e pc ls st L M c s := by
  unfold qm_call at *
  refine qm_cond_m (fun k => qm_cond_m (fun k => qm_tr_m (fun _ _ k => qm_cond_m (fun k => h _ _ _ _ _ _ _ k) id k) k)
    (fun k => qm_cond_m (fun k => qm_tii_m (fun _ _ _ k => qm_cond_m (fun k => h _ _ _ _ _ _ _ k) id k) k)
    (fun k => qm_cond_m (fun k => qm_tii_m (fun _ _ _ k => qm_cond_m (fun k => h _ _ _ _ _ _ _ k) id k) k)
    (fun k => qm_cond_m (fun k => qm_ti_m (fun _ _ k => ⟨k.1, qm_cond_m (fun k => h _ _ _ _ _ _ _ k) id k.2⟩) k) id k) k) k) k) (fun k => qm_cond_m (fun k => ⟨k.1, hc _ _ _ _ _ _ (fun r L M k => h _ _ _ _ _ _ _ k) k.2⟩) id k) k
theorem qm_ins_m {mi : qm_MI} {call : qm_C} {Q Q' : qm_K} {X Y : qm_X} (hc : qm_mono call) (hQ : ∀ r L M, Q r L M → Q' r L M) (h : ∀ pc ls st L M c s, X pc ls st L M c s → Y pc ls st L M c s) {i : Instr} {n : Nat} {ts : List Nat} {pc : Nat} {ls : List (Option qm_V)} {st : List qm_V} {L : qm_L} {M : qm_M} {c s : Nat}
    (k : qm_ins mi call Q X i n ts pc ls st L M c s) : qm_ins mi call Q' Y i n ts pc ls st L M c s := by
  unfold qm_ins at *
  split at k
  case h_1 | h_2 | h_3 | h_26 => exact h _ _ _ _ _ _ _ k
  case h_4 | h_5 => exact qm_li_m (fun _ k => h _ _ _ _ _ _ _ k) k
  case h_6 | h_7 => exact qm_lr_m (fun _ k => h _ _ _ _ _ _ _ k) k
  case h_8 | h_9 => exact qm_ti_m (fun _ _ k => h _ _ _ _ _ _ _ k) k
  case h_10 | h_11 => exact qm_tr_m (fun _ _ k => h _ _ _ _ _ _ _ k) k
  case h_12 => exact qm_li_m (fun _ k => ⟨k.1, h _ _ _ _ _ _ _ k.2⟩) k
  case h_13 | h_14 | h_15 | h_16 | h_17 => exact qm_tii_m (fun _ _ _ k => ⟨k.1, h _ _ _ _ _ _ _ k.2⟩) k
  case h_18 => exact qm_ti_m (fun _ _ k => ⟨k.1, h _ _ _ _ _ _ _ k.2⟩) k
  case h_19 | h_20 | h_21 | h_22 | h_23 => exact qm_tii_m (fun _ _ _ k => h _ _ _ _ _ _ _ k) k
  case h_24 => exact qm_tii_m (fun _ _ _ k => ⟨fun q => h _ _ _ _ _ _ _ (k.1 q), fun q => h _ _ _ _ _ _ _ (k.2 q)⟩) k
  case h_25 => exact qm_ti_m (fun _ _ k => ⟨fun q => h _ _ _ _ _ _ _ (k.1 q), fun q => h _ _ _ _ _ _ _ (k.2 q)⟩) k
  case h_27 | h_28 => exact qm_ti_m (fun _ _ k => qm_sw_m (fun t k => h _ _ _ _ _ _ _ k) _ _ k) k
  case h_29 =>
    split at k
    · exact qm_tr_m (fun _ _ k => qm_cond_m (fun ⟨f, a, b⟩ => ⟨f, a, h _ _ _ _ _ _ _ b⟩) (fun k => ⟨k.1, h _ _ _ _ _ _ _ k.2⟩) k) k
    · exact k
  case h_30 =>
    split at k
    · split at k
      · exact qm_cond_m id (fun k => qm_cond_m (fun k => ⟨k.1, k.2.1, h _ _ _ _ _ _ _ k.2.2⟩) (fun k => ⟨k.1, h _ _ _ _ _ _ _ k.2⟩) k) k
      · exact qm_cond_m (fun ⟨f, a, b, d⟩ => ⟨f, a, b, h _ _ _ _ _ _ _ d⟩) id k
      · exact k
    · exact k
  case h_31 =>
    split at k
    · obtain ⟨m, a, b, d, e⟩ := k
      exact ⟨m, a, b, d, h _ _ _ _ _ _ _ e⟩
    · split at k
      · exact ⟨k.1, k.2.1, h _ _ _ _ _ _ _ k.2.2⟩
      · exact k
    · exact k
  case h_32 =>
    split at k
    · obtain ⟨m, a, b, d, e⟩ := k
      exact ⟨m, a, b, d, h _ _ _ _ _ _ _ e⟩
    · exact k
  case h_33 =>
    split at k
    · obtain ⟨m, a, b, e⟩ := k
      exact ⟨m, a, b, h _ _ _ _ _ _ _ e⟩
    · split at k
      · exact h _ _ _ _ _ _ _ k
      · exact k
    · exact k
  case h_34 =>
    split at k
    · exact qm_cond_m (fun k => h _ _ _ _ _ _ _ k) id k
    · exact k
  case h_35 =>
    split at k
    · exact ⟨k.1, k.2.1, k.2.2.1, h _ _ _ _ _ _ _ k.2.2.2⟩
    · exact k
  case h_36 =>
    split at k
    · exact h _ _ _ _ _ _ _ k
    · exact k
  case h_37 =>
    split at k
    · exact h _ _ _ _ _ _ _ k
    · exact k
  case h_38 =>
    split at k
    · exact h _ _ _ _ _ _ _ k
    · exact k
  case h_39 =>
    split at k
    · exact qm_call_m hc h k
    · exact k
  case h_40 =>
    split at k
    · exact qm_call_m hc h k
    · exact k
  case h_41 =>
    split at k
    · exact qm_call_m hc h k
    · exact k
  case h_42 =>
    split at k
    · exact qm_cond_m (fun k => ⟨k.1, hQ _ _ _ k.2⟩) (fun k => qm_cond_m (fun k => hQ _ _ _ k) id k) k
    · exact k
  case h_43 =>
    split at k
    · exact qm_cond_m (fun k => hQ _ _ _ k) id k
    · exact k
  case h_44 =>
    split at k
    · exact qm_cond_m (fun k => hQ _ _ _ k) id k
    · exact k
  case h_45 => exact k
theorem qm_one_m {mi : qm_MI} {call : qm_C} {Q Q' : qm_K} {X Y : qm_X} (hc : qm_mono call) (hQ : ∀ r L M, Q r L M → Q' r L M) (h : ∀ pc ls st L M c s, X pc ls st L M c s → Y pc ls st L M c s) {pc : Nat} {ls : List (Option qm_V)} {st : List qm_V} {L : qm_L} {M : qm_M} {c s : Nat}
    (k : qm_one mi call Q X pc ls st L M c s) : qm_one mi call Q' Y pc ls st L M c s := by
  unfold qm_one at *
  split at k
  · exact qm_ins_m hc hQ h k
  · exact k
theorem qm_TT_m {mi : qm_MI} {call : qm_C} (hc : qm_mono call) {Q Q' : qm_K} (hQ : ∀ r L M, Q r L M → Q' r L M) {pc : Nat} {ls : List (Option qm_V)} {st : List qm_V} {L : qm_L} {M : qm_M} {c s : Nat}
    (k : qm_TT mi call Q pc ls st L M c s) : qm_TT mi call Q' pc ls st L M c s := fun X hX => k X fun pc ls st L M c s h => hX _ _ _ _ _ _ _ (qm_one_m hc hQ (fun _ _ _ _ _ _ _ h => h) h)
theorem qm_TT_fix {mi : qm_MI} {call : qm_C} (hc : qm_mono call) {Q : qm_K} {pc : Nat} {ls : List (Option qm_V)} {st : List qm_V} {L : qm_L} {M : qm_M} {c s : Nat}
    (k : qm_one mi call Q (qm_TT mi call Q) pc ls st L M c s) : qm_TT mi call Q pc ls st L M c s := fun X hX => hX _ _ _ _ _ _ _ (qm_one_m hc (fun _ _ _ h => h) (fun _ _ _ _ _ _ _ h => h X hX) k)
/-- calls of methods, by how deep they may go -/
def qm_Runs (P : Nat → qm_MI × Nat) : Nat → qm_C
  | 0 => fun _ _ _ _ _ => False
  | d + 1 => fun y a L M K => a.length ≤ (P y).2 ∧ qm_TT (P y).1 (qm_Runs P d) K 0 (a.map some ++ List.replicate ((P y).2 - a.length) none) [] L M 0 0
theorem qm_Runs_m (P : Nat → qm_MI × Nat) : ∀ d, qm_mono (qm_Runs P d)
  | 0 => fun _ _ _ _ _ _ _ k => k
  | d + 1 => fun _ _ _ _ _ _ h k => ⟨k.1, qm_TT_m (qm_Runs_m P d) h k.2⟩
/-- some steps at once, up to the places in 'cut' -/
def qm_wp (mi : qm_MI) (call : qm_C) (Q : qm_K) (cut : List Nat) (X : qm_X) : Nat → qm_X
  | 0 => X
  | f + 1 => fun pc ls st L M c s => qm_one mi call Q (fun pc ls st L M c s => cond (cut.any (Nat.beq pc)) (X pc ls st L M c s) (qm_wp mi call Q cut X f pc ls st L M c s)) pc ls st L M c s
theorem qm_wp_TT {P : Nat → qm_MI × Nat} {d : Nat} {mi : qm_MI} {Q : qm_K} (cut : List Nat) : ∀ (f : Nat) {pc : Nat} {ls : List (Option qm_V)} {st : List qm_V} {L : qm_L} {M : qm_M} {c s : Nat}, qm_wp mi (qm_Runs P d) Q cut (qm_TT mi (qm_Runs P d) Q) f pc ls st L M c s → qm_TT mi (qm_Runs P d) Q pc ls st L M c s
  | 0, _, _, _, _, _, _, _, k => k
  | f + 1, _, _, _, _, _, _, _, k => qm_TT_fix (qm_Runs_m P d) (qm_one_m (qm_Runs_m P d) (fun _ _ _ h => h) (fun pc ls st L M c s h => by
      cases hb : cut.any (Nat.beq pc) with
      | true => rw [hb] at h; exact h
      | false => rw [hb] at h; exact qm_wp_TT cut f h) k)
