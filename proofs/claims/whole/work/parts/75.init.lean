/-! what is made: the layout grows -/
theorem gA {A B : qm_L} (x : qm_E) : (A ++ (x :: B))[A.length]? = some x := by
  rw [List.getElem?_append_right (Nat.le_refl _), Nat.sub_self]
  rfl
theorem gAk {A B : qm_L} {k : Nat} : (A ++ B)[A.length + k]? = B[k]? := by
  rw [List.getElem?_append_right (Nat.le_add_right _ _), Nat.add_sub_cancel_left]
theorem sA {A B : qm_L} (x y : qm_E) : (A ++ (x :: B)).set A.length y = A ++ (y :: B) := by
  rw [List.set_append_right _ _ (Nat.le_refl _), Nat.sub_self]
  rfl
theorem qz_id {M : qm_M} {o : Nat} (h : ∀ x, M o x = 0) : qm_z M o = M := by
  funext a b
  unfold qm_z
  split
  · rename_i q; rw [q, h]
  · rfl
theorem qu_id {M : qm_M} {o k : Nat} (h : M o k = 0) : qm_u M o k 0 = M := by
  funext a b
  unfold qm_u
  split
  · split
    · rename_i q1 q2; rw [q1, q2, h]
    · rfl
  · rfl
section ST
variable {P : Nat → qm_MI × Nat} {d : Nat} {mi : qm_MI} {Q : qm_K} {ls : List (Option qm_V)} {st : List qm_V} {L L2 : qm_L} {M : qm_M} {pc pc2 c s c2 s2 idx n e k o f m y na dc ds rc : Nat} {ts : List Nat} {df fs : List (Option (Option Nat))}
theorem st_L (h : L = L2) (q : qm_TT mi (qm_Runs P d) Q pc ls st L2 M c s) : qm_TT mi (qm_Runs P d) Q pc ls st L M c s := by rw [h]; exact q
theorem st_one {i : Instr} (h : qm_lk pc mi.2.1 = some (i, n, ts)) (q : qm_ins mi (qm_Runs P d) Q (qm_TT mi (qm_Runs P d) Q) i n ts pc ls st L M c s) : qm_TT mi (qm_Runs P d) Q pc ls st L M c s := by
  refine qm_TT_fix (qm_Runs_m P d) ?_
  unfold qm_one
  rw [h]
  exact q
theorem st_new (h : qm_lk pc mi.2.1 = some (.new idx, n, ts)) (h2 : qm_lk idx mi.1.2.1 = some e) (hp : pc + n = pc2) (hd : qm_df.getD e [] = df) (hc : c + 1 = c2) (hs : s + df.length = s2) (b1 : Nat.ble c2 mi.2.2.2.1 = true) (b2 : Nat.ble s2 mi.2.2.2.2.1 = true) (q : qm_TT mi (qm_Runs P d) Q pc2 ls (.inr (some L.length) :: st) (L ++ [.inr (e, df)]) (qm_z M L.length) c2 s2) : qm_TT mi (qm_Runs P d) Q pc ls st L M c s := by
  subst hp hd hc hs
  refine st_one h ?_
  unfold qm_ins
  simp only [h2, b1, b2, Bool.and_self, cond_true]
  exact q
theorem st_newa (h : qm_lk pc mi.2.1 = some (.newarray .int, n, ts)) (hp : pc + n = pc2) (hm : Nat.ble m 100000 = true) (hc : c + 1 = c2) (hs : s + m = s2) (b1 : Nat.ble c2 mi.2.2.2.1 = true) (b2 : Nat.ble s2 mi.2.2.2.2.1 = true) (q : qm_TT mi (qm_Runs P d) Q pc2 ls (.inr (some L.length) :: st) (L ++ [.inl m]) (qm_z M L.length) c2 s2) : qm_TT mi (qm_Runs P d) Q pc ls (.inl (Int.ofNat m) :: st) L M c s := by
  subst hp hc hs
  refine st_one h ?_
  unfold qm_ins
  exact ⟨hm, b1, b2, q⟩
theorem st_callp {rest : List qm_V} {o : Nat} {a2 : List qm_V} (h : qm_lk pc mi.2.1 = some (.invokespecial idx, n, ts)) (h2 : qm_lk idx mi.1.2.2 = some (y, na, 98, 0, dc, ds)) (hp : pc + n = pc2) (hy : Nat.ble 9990 y = false) (hc : c + dc = c2) (hs : s + ds = s2) (b1 : Nat.ble c2 mi.2.2.2.1 = true) (b2 : Nat.ble s2 mi.2.2.2.2.1 = true) (ha : (st.take na).reverse = .inr (some o) :: a2) (hr : st.drop na = rest) (hl : Nat.ble rest.length 8 = true) (hn : Nat.beq (st.take na).length na = true) (q : qm_Runs P d y (.inr (some o) :: a2) L M (fun _ L' M' => qm_TT mi (qm_Runs P d) Q pc2 ls rest L' M' c2 s2)) : qm_TT mi (qm_Runs P d) Q pc ls st L M c s := by
  subst hp hc hs hr
  refine st_one h ?_
  unfold qm_ins
  simp only [h2]
  unfold qm_call
  simp only [hy, b1, b2, hl, hn, Bool.and_self, cond_true, cond_false, ha]
  exact ⟨trivial, q⟩
theorem st_callv {rest : List qm_V} {o : Nat} {a2 : List qm_V} (h : qm_lk pc mi.2.1 = some (.invokevirtual idx, n, ts)) (h2 : qm_lk idx mi.1.2.2 = some (y, na, rc, 0, dc, ds)) (hp : pc + n = pc2) (hr8 : Nat.beq rc 98 = false) (hy : Nat.ble 9990 y = false) (hc : c + dc = c2) (hs : s + ds = s2) (b1 : Nat.ble c2 mi.2.2.2.1 = true) (b2 : Nat.ble s2 mi.2.2.2.2.1 = true) (ha : (st.take na).reverse = .inr (some o) :: a2) (hr : st.drop na = rest) (hl : Nat.ble rest.length 8 = true) (hn : Nat.beq (st.take na).length na = true) (hi : qm_isO L o rc) (q : qm_Runs P d y (.inr (some o) :: a2) L M (fun _ L' M' => qm_TT mi (qm_Runs P d) Q pc2 ls rest L' M' c2 s2)) : qm_TT mi (qm_Runs P d) Q pc ls st L M c s := by
  subst hp hc hs hr
  refine st_one h ?_
  unfold qm_ins
  simp only [h2]
  unfold qm_call
  simp only [hy, b1, b2, hl, hn, Bool.and_self, cond_true, cond_false, ha, hr8]
  exact ⟨hi, q⟩
theorem st_putr (h : qm_lk pc mi.2.1 = some (.putfield idx, n, ts)) (h2 : qm_lk idx mi.1.1 = some (e, k, 2)) (hp : pc + n = pc2) (hL : L[o]? = some (.inr (e, fs))) (hg : ∃ g, fs[k]? = some (some g)) (hL2 : L.set o (.inr (e, fs.set k (some (some f)))) = L2) (q : qm_TT mi (qm_Runs P d) Q pc2 ls st L2 M c s) : qm_TT mi (qm_Runs P d) Q pc ls (.inr (some f) :: .inr (some o) :: st) L M c s := by
  subst hp hL2
  refine st_one h ?_
  unfold qm_ins
  simp only [h2]
  exact ⟨fs, hL, hg, q⟩
theorem st_puti {v : Int} (h : qm_lk pc mi.2.1 = some (.putfield idx, n, ts)) (h2 : qm_lk idx mi.1.1 = some (e, k, 0)) (hp : pc + n = pc2) (hi : qm_isI L o e k) (q : qm_TT mi (qm_Runs P d) Q pc2 ls st L (qm_u M o k v) c s) : qm_TT mi (qm_Runs P d) Q pc ls (.inl v :: .inr (some o) :: st) L M c s := by
  subst hp
  refine st_one h ?_
  unfold qm_ins
  simp only [h2]
  exact ⟨hi, q⟩
theorem st_putib (h : qm_lk pc mi.2.1 = some (.putfield idx, n, ts)) (h2 : qm_lk idx mi.1.1 = some (e, k, 1)) (hp : pc + n = pc2) (hi : qm_isI L o e k) (q : qm_TT mi (qm_Runs P d) Q pc2 ls st L (qm_u M o k 0) c s) : qm_TT mi (qm_Runs P d) Q pc ls (.inl 0 :: .inr (some o) :: st) L M c s := by
  subst hp
  refine st_one h ?_
  unfold qm_ins
  simp only [h2]
  exact ⟨Or.inl trivial, hi, q⟩
theorem st_getr (h : qm_lk pc mi.2.1 = some (.getfield idx, n, ts)) (h2 : qm_lk idx mi.1.1 = some (e, k, 2)) (hp : pc + n = pc2) (hi : qm_isF L o e k f) (q : qm_TT mi (qm_Runs P d) Q pc2 ls (.inr (some f) :: st) L M c s) : qm_TT mi (qm_Runs P d) Q pc ls (.inr (some o) :: st) L M c s := by
  subst hp
  refine st_one h ?_
  unfold qm_ins
  simp only [h2]
  exact ⟨f, hi, q⟩
end ST
theorem s_init_Row {A : qm_L} {n : Nat} {d : Nat} {K : qm_K} {M : qm_M} (hn : n ≤ 4096) (hz : ∀ c x, A.length ≤ c → M c x = 0) (hK : K (.inl 0) (A ++ ([.inr (6, [some (some (A.length + 1))]), .inl n] : qm_L)) M) : qm_Runs qm_P (d + 1) 53 [(.inr (some A.length)), (.inl (n : Int))] (A ++ ([.inr (6, [some none])] : qm_L)) M K := by
  refine And.intro (Nat.le_of_ble_eq_true rfl) (show qm_TT qi_53 (qm_Runs qm_P (d + 0)) K 0 [some (.inr (some A.length)), some (.inl (n : Int))] [] (A ++ ([.inr (6, [some none])] : qm_L)) M 0 0 from qm_wp_TT [] 12 ?_)
  refine And.intro (fun _ => ?_) (fun h => absurd (show (0 : Int) ≤ (n : Int) by omega) h)
  refine And.intro (Nat.ble_eq_true_of_le (show n ≤ 100000 by omega)) (And.intro rfl (And.intro (Nat.ble_eq_true_of_le (show 0 + n ≤ 4096 by omega)) ?_))
  have e1 : (A ++ ([.inr (6, [some none])] : qm_L)) ++ ([.inl n] : qm_L) = A ++ ([.inr (6, [some none]), .inl n] : qm_L) := List.append_assoc _ _ _
  have e2 : (A ++ ([.inr (6, [some none])] : qm_L)).length = A.length + 1 := by rw [List.length_append]; rfl
  have e3 : qm_z M (A ++ ([.inr (6, [some none])] : qm_L)).length = M := qz_id (fun x => hz _ x (by rw [e2]; omega))
  have e4 : (A ++ ([.inr (6, [some none]), .inl n] : qm_L)).set A.length (.inr (6, [some (some (A.length + 1))])) = A ++ ([.inr (6, [some (some (A.length + 1))]), .inl n] : qm_L) := sA _ _
  refine ⟨[some none], ?_, ⟨_, rfl⟩, ?_⟩
  · refine Eq.trans (congrArg (fun L : qm_L => L[A.length]?) e1) ?_
    exact gA _
  · have h3 : K (.inl 0) (((A ++ ([.inr (6, [some none])] : qm_L)) ++ ([.inl n] : qm_L)).set A.length (.inr (6, [some (some (A ++ ([.inr (6, [some none])] : qm_L)).length)]))) (qm_z M (A ++ ([.inr (6, [some none])] : qm_L)).length) := by
      rw [e3, e1, e2, e4]
      exact hK
    exact h3
theorem s_init_Tape {A : qm_L} {d : Nat} {K : qm_K} {M : qm_M} (hz : ∀ c x, A.length ≤ c → M c x = 0) (hK : K (.inl 0) (A ++ ([.inr (7, [some (some (A.length + 1)), none]), .inr (6, [some (some (A.length + 2))]), .inl 120] : qm_L)) M) : qm_Runs qm_P (d + 2) 58 [(.inr (some A.length))] (A ++ ([.inr (7, [some none, none])] : qm_L)) M K := by
  refine And.intro (Nat.le_of_ble_eq_true rfl) (show qm_TT qi_58 (qm_Runs qm_P (d + 1)) K 0 [some (.inr (some A.length))] [] (A ++ ([.inr (7, [some none, none])] : qm_L)) M 0 0 from ?_)
  have hzA := hz
  have own0 : ∀ x, M A.length x = 0 := fun x => hz A.length x (Nat.le_refl _)
  have fr0 : ∀ c, c < A.length ∨ A.length + 3 ≤ c → M c = M c := fun _ _ => rfl
  refine st_one (i := .aload_n 0) (n := 1) (ts := []) rfl ?_
  show qm_TT qi_58 (qm_Runs qm_P (d + 1)) K 1 _ _ _ _ _ _
  refine st_one (i := .invokespecial 3) (n := 3) (ts := []) rfl ?_
  show qm_TT qi_58 (qm_Runs qm_P (d + 1)) K 4 _ _ _ _ _ _
  refine st_one (i := .aload_n 0) (n := 1) (ts := []) rfl ?_
  show qm_TT qi_58 (qm_Runs qm_P (d + 1)) K 5 _ _ _ _ _ _
  have hl1 : (A ++ ([.inr (7, [some none, none])] : qm_L)).length = A.length + 1 := by rw [List.length_append]; rfl
  refine st_new (pc2 := 8) (e := 6) (df := [some none]) (c2 := 1) (s2 := 1) rfl rfl rfl rfl rfl rfl rfl rfl ?_
  rw [qz_id (M := M) (fun x => hzA _ x (by rw [hl1]; omega))]
  refine st_one (i := .dup) (n := 1) (ts := []) rfl ?_
  show qm_TT qi_58 (qm_Runs qm_P (d + 1)) K 9 _ _ _ _ _ _
  refine st_one (i := .bipush 120) (n := 2) (ts := []) rfl ?_
  show qm_TT qi_58 (qm_Runs qm_P (d + 1)) K 11 _ _ _ _ _ _
  refine st_callp (y := 53) (pc2 := 14) (c2 := 2) (s2 := 4097) rfl rfl rfl rfl rfl rfl rfl rfl rfl rfl rfl rfl ?_
  refine s_init_Row (A := A ++ ([.inr (7, [some none, none])] : qm_L)) (d := d + 0) (n := 120) (by decide) (fun c x h => hzA c x (by rw [hl1] at h; omega)) ?_
  have hzA : ∀ c x, A.length + 3 ≤ c → M c x = 0 := fun c x h => hzA c x (by omega)
  show qm_TT qi_58 (qm_Runs qm_P (d + 1)) K 14 _ _ _ _ _ _
  refine st_L (L2 := A ++ ([.inr (7, [some none, none]), .inr (6, [some (some (A.length + 2))]), .inl 120] : qm_L)) (by rw [hl1, List.append_assoc]; rfl) ?_
  refine st_putr (fs := ([some none, none])) (L2 := A ++ ([.inr (7, [some (some (A.length + 1)), none]), .inr (6, [some (some (A.length + 2))]), .inl 120] : qm_L)) (pc2 := 17) rfl rfl rfl (gA _) ⟨_, rfl⟩ (by rw [hl1]; exact sA _ _) ?_
  refine st_one (i := .aload_n 0) (n := 1) (ts := []) rfl ?_
  show qm_TT qi_58 (qm_Runs qm_P (d + 1)) K 18 _ _ _ _ _ _
  refine st_one (i := .iconst 0) (n := 1) (ts := []) rfl ?_
  show qm_TT qi_58 (qm_Runs qm_P (d + 1)) K 19 _ _ _ _ _ _
  refine st_puti (pc2 := 22) rfl rfl rfl ⟨_, gA _, rfl⟩ ?_
  rw [qu_id (M := M) (own0 1)]
  refine st_one (i := .return_) (n := 1) (ts := []) rfl ?_
  exact hK
theorem s_init_Lists {A : qm_L} {d : Nat} {K : qm_K} {M : qm_M} (hz : ∀ c x, A.length ≤ c → M c x = 0) (hK : K (.inl 0) (A ++ ([.inr (3, [some (some (A.length + 1)), some (some (A.length + 3)), none]), .inr (6, [some (some (A.length + 2))]), .inl 128, .inr (6, [some (some (A.length + 4))]), .inl 128] : qm_L)) M) : qm_Runs qm_P (d + 2) 19 [(.inr (some A.length))] (A ++ ([.inr (3, [some none, some none, none])] : qm_L)) M K := by
  refine And.intro (Nat.le_of_ble_eq_true rfl) (show qm_TT qi_19 (qm_Runs qm_P (d + 1)) K 0 [some (.inr (some A.length))] [] (A ++ ([.inr (3, [some none, some none, none])] : qm_L)) M 0 0 from ?_)
  have hzA := hz
  have own0 : ∀ x, M A.length x = 0 := fun x => hz A.length x (Nat.le_refl _)
  have fr0 : ∀ c, c < A.length ∨ A.length + 5 ≤ c → M c = M c := fun _ _ => rfl
  refine st_one (i := .aload_n 0) (n := 1) (ts := []) rfl ?_
  show qm_TT qi_19 (qm_Runs qm_P (d + 1)) K 1 _ _ _ _ _ _
  refine st_one (i := .invokespecial 3) (n := 3) (ts := []) rfl ?_
  show qm_TT qi_19 (qm_Runs qm_P (d + 1)) K 4 _ _ _ _ _ _
  refine st_one (i := .aload_n 0) (n := 1) (ts := []) rfl ?_
  show qm_TT qi_19 (qm_Runs qm_P (d + 1)) K 5 _ _ _ _ _ _
  have hl1 : (A ++ ([.inr (3, [some none, some none, none])] : qm_L)).length = A.length + 1 := by rw [List.length_append]; rfl
  refine st_new (pc2 := 8) (e := 6) (df := [some none]) (c2 := 1) (s2 := 1) rfl rfl rfl rfl rfl rfl rfl rfl ?_
  rw [qz_id (M := M) (fun x => hzA _ x (by rw [hl1]; omega))]
  refine st_one (i := .dup) (n := 1) (ts := []) rfl ?_
  show qm_TT qi_19 (qm_Runs qm_P (d + 1)) K 9 _ _ _ _ _ _
  refine st_one (i := .sipush 128) (n := 3) (ts := []) rfl ?_
  show qm_TT qi_19 (qm_Runs qm_P (d + 1)) K 12 _ _ _ _ _ _
  refine st_callp (y := 53) (pc2 := 15) (c2 := 2) (s2 := 4097) rfl rfl rfl rfl rfl rfl rfl rfl rfl rfl rfl rfl ?_
  refine s_init_Row (A := A ++ ([.inr (3, [some none, some none, none])] : qm_L)) (d := d + 0) (n := 128) (by decide) (fun c x h => hzA c x (by rw [hl1] at h; omega)) ?_
  have hzA : ∀ c x, A.length + 3 ≤ c → M c x = 0 := fun c x h => hzA c x (by omega)
  show qm_TT qi_19 (qm_Runs qm_P (d + 1)) K 15 _ _ _ _ _ _
  refine st_L (L2 := A ++ ([.inr (3, [some none, some none, none]), .inr (6, [some (some (A.length + 2))]), .inl 128] : qm_L)) (by rw [hl1, List.append_assoc]; rfl) ?_
  refine st_putr (fs := ([some none, some none, none])) (L2 := A ++ ([.inr (3, [some (some (A.length + 1)), some none, none]), .inr (6, [some (some (A.length + 2))]), .inl 128] : qm_L)) (pc2 := 18) rfl rfl rfl (gA _) ⟨_, rfl⟩ (by rw [hl1]; exact sA _ _) ?_
  refine st_one (i := .aload_n 0) (n := 1) (ts := []) rfl ?_
  show qm_TT qi_19 (qm_Runs qm_P (d + 1)) K 19 _ _ _ _ _ _
  have hl3 : (A ++ ([.inr (3, [some (some (A.length + 1)), some none, none]), .inr (6, [some (some (A.length + 2))]), .inl 128] : qm_L)).length = A.length + 3 := by rw [List.length_append]; rfl
  refine st_new (pc2 := 22) (e := 6) (df := [some none]) (c2 := 3) (s2 := 4098) rfl rfl rfl rfl rfl rfl rfl rfl ?_
  rw [qz_id (M := M) (fun x => hzA _ x (by rw [hl3]; omega))]
  refine st_one (i := .dup) (n := 1) (ts := []) rfl ?_
  show qm_TT qi_19 (qm_Runs qm_P (d + 1)) K 23 _ _ _ _ _ _
  refine st_one (i := .sipush 128) (n := 3) (ts := []) rfl ?_
  show qm_TT qi_19 (qm_Runs qm_P (d + 1)) K 26 _ _ _ _ _ _
  refine st_callp (y := 53) (pc2 := 29) (c2 := 4) (s2 := 8194) rfl rfl rfl rfl rfl rfl rfl rfl rfl rfl rfl rfl ?_
  refine s_init_Row (A := A ++ ([.inr (3, [some (some (A.length + 1)), some none, none]), .inr (6, [some (some (A.length + 2))]), .inl 128] : qm_L)) (d := d + 0) (n := 128) (by decide) (fun c x h => hzA c x (by rw [hl3] at h; omega)) ?_
  have hzA : ∀ c x, A.length + 5 ≤ c → M c x = 0 := fun c x h => hzA c x (by omega)
  show qm_TT qi_19 (qm_Runs qm_P (d + 1)) K 29 _ _ _ _ _ _
  refine st_L (L2 := A ++ ([.inr (3, [some (some (A.length + 1)), some none, none]), .inr (6, [some (some (A.length + 2))]), .inl 128, .inr (6, [some (some (A.length + 4))]), .inl 128] : qm_L)) (by rw [hl3, List.append_assoc]; rfl) ?_
  refine st_putr (fs := ([some (some (A.length + 1)), some none, none])) (L2 := A ++ ([.inr (3, [some (some (A.length + 1)), some (some (A.length + 3)), none]), .inr (6, [some (some (A.length + 2))]), .inl 128, .inr (6, [some (some (A.length + 4))]), .inl 128] : qm_L)) (pc2 := 32) rfl rfl rfl (gA _) ⟨_, rfl⟩ (by rw [hl3]; exact sA _ _) ?_
  refine st_one (i := .aload_n 0) (n := 1) (ts := []) rfl ?_
  show qm_TT qi_19 (qm_Runs qm_P (d + 1)) K 33 _ _ _ _ _ _
  refine st_one (i := .iconst 0) (n := 1) (ts := []) rfl ?_
  show qm_TT qi_19 (qm_Runs qm_P (d + 1)) K 34 _ _ _ _ _ _
  refine st_puti (pc2 := 37) rfl rfl rfl ⟨_, gA _, rfl⟩ ?_
  rw [qu_id (M := M) (own0 2)]
  refine st_one (i := .return_) (n := 1) (ts := []) rfl ?_
  exact hK
theorem s_init_Hist {A : qm_L} {d : Nat} {K : qm_K} {M : qm_M} (hz : ∀ c x, A.length ≤ c → M c x = 0) (hK : K (.inl 0) (A ++ ([.inr (1, [some (some (A.length + 1)), none, none, none]), .inr (6, [some (some (A.length + 2))]), .inl 1664] : qm_L)) M) : qm_Runs qm_P (d + 2) 7 [(.inr (some A.length))] (A ++ ([.inr (1, [some none, none, none, none])] : qm_L)) M K := by
  refine And.intro (Nat.le_of_ble_eq_true rfl) (show qm_TT qi_7 (qm_Runs qm_P (d + 1)) K 0 [some (.inr (some A.length))] [] (A ++ ([.inr (1, [some none, none, none, none])] : qm_L)) M 0 0 from ?_)
  have hzA := hz
  have own0 : ∀ x, M A.length x = 0 := fun x => hz A.length x (Nat.le_refl _)
  have fr0 : ∀ c, c < A.length ∨ A.length + 3 ≤ c → M c = M c := fun _ _ => rfl
  refine st_one (i := .aload_n 0) (n := 1) (ts := []) rfl ?_
  show qm_TT qi_7 (qm_Runs qm_P (d + 1)) K 1 _ _ _ _ _ _
  refine st_one (i := .invokespecial 3) (n := 3) (ts := []) rfl ?_
  show qm_TT qi_7 (qm_Runs qm_P (d + 1)) K 4 _ _ _ _ _ _
  refine st_one (i := .aload_n 0) (n := 1) (ts := []) rfl ?_
  show qm_TT qi_7 (qm_Runs qm_P (d + 1)) K 5 _ _ _ _ _ _
  have hl1 : (A ++ ([.inr (1, [some none, none, none, none])] : qm_L)).length = A.length + 1 := by rw [List.length_append]; rfl
  refine st_new (pc2 := 8) (e := 6) (df := [some none]) (c2 := 1) (s2 := 1) rfl rfl rfl rfl rfl rfl rfl rfl ?_
  rw [qz_id (M := M) (fun x => hzA _ x (by rw [hl1]; omega))]
  refine st_one (i := .dup) (n := 1) (ts := []) rfl ?_
  show qm_TT qi_7 (qm_Runs qm_P (d + 1)) K 9 _ _ _ _ _ _
  refine st_one (i := .sipush 1664) (n := 3) (ts := []) rfl ?_
  show qm_TT qi_7 (qm_Runs qm_P (d + 1)) K 12 _ _ _ _ _ _
  refine st_callp (y := 53) (pc2 := 15) (c2 := 2) (s2 := 4097) rfl rfl rfl rfl rfl rfl rfl rfl rfl rfl rfl rfl ?_
  refine s_init_Row (A := A ++ ([.inr (1, [some none, none, none, none])] : qm_L)) (d := d + 0) (n := 1664) (by decide) (fun c x h => hzA c x (by rw [hl1] at h; omega)) ?_
  have hzA : ∀ c x, A.length + 3 ≤ c → M c x = 0 := fun c x h => hzA c x (by omega)
  show qm_TT qi_7 (qm_Runs qm_P (d + 1)) K 15 _ _ _ _ _ _
  refine st_L (L2 := A ++ ([.inr (1, [some none, none, none, none]), .inr (6, [some (some (A.length + 2))]), .inl 1664] : qm_L)) (by rw [hl1, List.append_assoc]; rfl) ?_
  refine st_putr (fs := ([some none, none, none, none])) (L2 := A ++ ([.inr (1, [some (some (A.length + 1)), none, none, none]), .inr (6, [some (some (A.length + 2))]), .inl 1664] : qm_L)) (pc2 := 18) rfl rfl rfl (gA _) ⟨_, rfl⟩ (by rw [hl1]; exact sA _ _) ?_
  refine st_one (i := .aload_n 0) (n := 1) (ts := []) rfl ?_
  show qm_TT qi_7 (qm_Runs qm_P (d + 1)) K 19 _ _ _ _ _ _
  refine st_one (i := .iconst 0) (n := 1) (ts := []) rfl ?_
  show qm_TT qi_7 (qm_Runs qm_P (d + 1)) K 20 _ _ _ _ _ _
  refine st_puti (pc2 := 23) rfl rfl rfl ⟨_, gA _, rfl⟩ ?_
  rw [qu_id (M := M) (own0 1)]
  refine st_one (i := .aload_n 0) (n := 1) (ts := []) rfl ?_
  show qm_TT qi_7 (qm_Runs qm_P (d + 1)) K 24 _ _ _ _ _ _
  refine st_one (i := .iconst 0) (n := 1) (ts := []) rfl ?_
  show qm_TT qi_7 (qm_Runs qm_P (d + 1)) K 25 _ _ _ _ _ _
  refine st_puti (pc2 := 28) rfl rfl rfl ⟨_, gA _, rfl⟩ ?_
  rw [qu_id (M := M) (own0 2)]
  refine st_one (i := .aload_n 0) (n := 1) (ts := []) rfl ?_
  show qm_TT qi_7 (qm_Runs qm_P (d + 1)) K 29 _ _ _ _ _ _
  refine st_one (i := .iconst 0) (n := 1) (ts := []) rfl ?_
  show qm_TT qi_7 (qm_Runs qm_P (d + 1)) K 30 _ _ _ _ _ _
  refine st_puti (pc2 := 33) rfl rfl rfl ⟨_, gA _, rfl⟩ ?_
  rw [qu_id (M := M) (own0 3)]
  refine st_one (i := .return_) (n := 1) (ts := []) rfl ?_
  exact hK
theorem s_init_Pair {A : qm_L} {d : Nat} {K : qm_K} {M : qm_M} (hz : ∀ c x, A.length ≤ c → M c x = 0) (hK : ∀ M2 : qm_M, ((∀ c, c < A.length ∨ A.length + 3 ≤ c → M2 c = M c) ∧ ∀ x, x < 16 → M2 (A.length + 2) x = -1) → K (.inl 0) (A ++ ([.inr (5, [some (some (A.length + 1))]), .inr (6, [some (some (A.length + 2))]), .inl 16] : qm_L)) M2) : qm_Runs qm_P (d + 2) 45 [(.inr (some A.length))] (A ++ ([.inr (5, [some none])] : qm_L)) M K := by
  refine And.intro (Nat.le_of_ble_eq_true rfl) (show qm_TT qi_45 (qm_Runs qm_P (d + 1)) K 0 [some (.inr (some A.length))] [] (A ++ ([.inr (5, [some none])] : qm_L)) M 0 0 from ?_)
  have hzA := hz
  have own0 : ∀ x, M A.length x = 0 := fun x => hz A.length x (Nat.le_refl _)
  have fr0 : ∀ c, c < A.length ∨ A.length + 3 ≤ c → M c = M c := fun _ _ => rfl
  refine st_one (i := .aload_n 0) (n := 1) (ts := []) rfl ?_
  show qm_TT qi_45 (qm_Runs qm_P (d + 1)) K 1 _ _ _ _ _ _
  refine st_one (i := .invokespecial 3) (n := 3) (ts := []) rfl ?_
  show qm_TT qi_45 (qm_Runs qm_P (d + 1)) K 4 _ _ _ _ _ _
  refine st_one (i := .aload_n 0) (n := 1) (ts := []) rfl ?_
  show qm_TT qi_45 (qm_Runs qm_P (d + 1)) K 5 _ _ _ _ _ _
  have hl1 : (A ++ ([.inr (5, [some none])] : qm_L)).length = A.length + 1 := by rw [List.length_append]; rfl
  refine st_new (pc2 := 8) (e := 6) (df := [some none]) (c2 := 1) (s2 := 1) rfl rfl rfl rfl rfl rfl rfl rfl ?_
  rw [qz_id (M := M) (fun x => hzA _ x (by rw [hl1]; omega))]
  refine st_one (i := .dup) (n := 1) (ts := []) rfl ?_
  show qm_TT qi_45 (qm_Runs qm_P (d + 1)) K 9 _ _ _ _ _ _
  refine st_one (i := .bipush 16) (n := 2) (ts := []) rfl ?_
  show qm_TT qi_45 (qm_Runs qm_P (d + 1)) K 11 _ _ _ _ _ _
  refine st_callp (y := 53) (pc2 := 14) (c2 := 2) (s2 := 4097) rfl rfl rfl rfl rfl rfl rfl rfl rfl rfl rfl rfl ?_
  refine s_init_Row (A := A ++ ([.inr (5, [some none])] : qm_L)) (d := d + 0) (n := 16) (by decide) (fun c x h => hzA c x (by rw [hl1] at h; omega)) ?_
  have hzA : ∀ c x, A.length + 3 ≤ c → M c x = 0 := fun c x h => hzA c x (by omega)
  show qm_TT qi_45 (qm_Runs qm_P (d + 1)) K 14 _ _ _ _ _ _
  refine st_L (L2 := A ++ ([.inr (5, [some none]), .inr (6, [some (some (A.length + 2))]), .inl 16] : qm_L)) (by rw [hl1, List.append_assoc]; rfl) ?_
  refine st_putr (fs := ([some none])) (L2 := A ++ ([.inr (5, [some (some (A.length + 1))]), .inr (6, [some (some (A.length + 2))]), .inl 16] : qm_L)) (pc2 := 17) rfl rfl rfl (gA _) ⟨_, rfl⟩ (by rw [hl1]; exact sA _ _) ?_
  refine st_one (i := .aload_n 0) (n := 1) (ts := []) rfl ?_
  show qm_TT qi_45 (qm_Runs qm_P (d + 1)) K 18 _ _ _ _ _ _
  refine st_getr (f := A.length + 1) (pc2 := 21) rfl rfl rfl ⟨_, gA _, rfl⟩ ?_
  refine st_one (i := .iconst (-1)) (n := 1) (ts := []) rfl ?_
  show qm_TT qi_45 (qm_Runs qm_P (d + 1)) K 22 _ _ _ _ _ _
  refine st_callv (y := 56) (rc := 6) (pc2 := 25) (c2 := 2) (s2 := 4097) rfl rfl rfl rfl rfl rfl rfl rfl rfl rfl rfl rfl rfl ⟨_, gAk (k := 1)⟩ ?_
  refine s_Row_fill (r := A.length + 1) (n := 16) (d := d + 0) ⟨⟨_, gAk (k := 1), rfl⟩, gAk (k := 2), by decide⟩ ?_
  show qm_TT qi_45 (qm_Runs qm_P (d + 1)) K 25 _ _ _ _ _ _
  refine st_one (i := .return_) (n := 1) (ts := []) rfl ?_
  refine hK _ ⟨fun c h => ?_, fun x hx => ?_⟩
  · funext x
    unfold fRow
    rw [if_neg (by omega)]
  · unfold fRow
    rw [if_pos (by omega), if_pos hx]
theorem s_init_Asking {A : qm_L} {d : Nat} {K : qm_K} {M : qm_M} (hz : ∀ c x, A.length ≤ c → M c x = 0) (hK : ∀ M2 : qm_M, (∀ c, c < A.length ∨ A.length + 8 ≤ c → M2 c = M c) → K (.inl 0) (A ++ ([.inr (0, [some (some (A.length + 1)), some (some (A.length + 4)), some (some (A.length + 6)), none]), .inr (5, [some (some (A.length + 2))]), .inr (6, [some (some (A.length + 3))]), .inl 16, .inr (6, [some (some (A.length + 5))]), .inl 8, .inr (6, [some (some (A.length + 7))]), .inl 64] : qm_L)) M2) : qm_Runs qm_P (d + 3) 0 [(.inr (some A.length))] (A ++ ([.inr (0, [some none, some none, some none, none])] : qm_L)) M K := by
  refine And.intro (Nat.le_of_ble_eq_true rfl) (show qm_TT qi_0 (qm_Runs qm_P (d + 2)) K 0 [some (.inr (some A.length))] [] (A ++ ([.inr (0, [some none, some none, some none, none])] : qm_L)) M 0 0 from ?_)
  have hzA := hz
  have own0 : ∀ x, M A.length x = 0 := fun x => hz A.length x (Nat.le_refl _)
  have fr0 : ∀ c, c < A.length ∨ A.length + 8 ≤ c → M c = M c := fun _ _ => rfl
  refine st_one (i := .aload_n 0) (n := 1) (ts := []) rfl ?_
  show qm_TT qi_0 (qm_Runs qm_P (d + 2)) K 1 _ _ _ _ _ _
  refine st_one (i := .invokespecial 3) (n := 3) (ts := []) rfl ?_
  show qm_TT qi_0 (qm_Runs qm_P (d + 2)) K 4 _ _ _ _ _ _
  refine st_one (i := .aload_n 0) (n := 1) (ts := []) rfl ?_
  show qm_TT qi_0 (qm_Runs qm_P (d + 2)) K 5 _ _ _ _ _ _
  have hl1 : (A ++ ([.inr (0, [some none, some none, some none, none])] : qm_L)).length = A.length + 1 := by rw [List.length_append]; rfl
  refine st_new (pc2 := 8) (e := 5) (df := [some none]) (c2 := 1) (s2 := 1) rfl rfl rfl rfl rfl rfl rfl rfl ?_
  rw [qz_id (M := M) (fun x => hzA _ x (by rw [hl1]; omega))]
  refine st_one (i := .dup) (n := 1) (ts := []) rfl ?_
  show qm_TT qi_0 (qm_Runs qm_P (d + 2)) K 9 _ _ _ _ _ _
  refine st_callp (y := 45) (pc2 := 12) (c2 := 3) (s2 := 4098) rfl rfl rfl rfl rfl rfl rfl rfl rfl rfl rfl rfl ?_
  refine s_init_Pair (A := A ++ ([.inr (0, [some none, some none, some none, none])] : qm_L)) (d := d + 0) (fun c x h => hzA c x (by rw [hl1] at h; omega)) ?_
  intro M1 q1
  have f1 : ∀ c, c < A.length + 1 ∨ A.length + 4 ≤ c → M1 c = M c := fun c h => q1.1 c (by rw [hl1]; omega)
  have x1 := q1.2
  rw [hl1] at x1
  have hzA : ∀ c x, A.length + 4 ≤ c → M1 c x = 0 := fun c x h => by rw [f1 c (Or.inr h)]; exact hzA c x (by omega)
  have own1 : ∀ x, M1 A.length x = 0 := fun x => by rw [f1 A.length (Or.inl (by omega))]; exact own0 x
  have fr1 : ∀ c, c < A.length ∨ A.length + 8 ≤ c → M1 c = M c := fun c h => (f1 c (by omega)).trans (fr0 c h)
  show qm_TT qi_0 (qm_Runs qm_P (d + 2)) K 12 _ _ _ _ _ _
  refine st_L (L2 := A ++ ([.inr (0, [some none, some none, some none, none]), .inr (5, [some (some (A.length + 2))]), .inr (6, [some (some (A.length + 3))]), .inl 16] : qm_L)) (by rw [hl1, List.append_assoc]; rfl) ?_
  refine st_putr (fs := ([some none, some none, some none, none])) (L2 := A ++ ([.inr (0, [some (some (A.length + 1)), some none, some none, none]), .inr (5, [some (some (A.length + 2))]), .inr (6, [some (some (A.length + 3))]), .inl 16] : qm_L)) (pc2 := 15) rfl rfl rfl (gA _) ⟨_, rfl⟩ (by rw [hl1]; exact sA _ _) ?_
  refine st_one (i := .aload_n 0) (n := 1) (ts := []) rfl ?_
  show qm_TT qi_0 (qm_Runs qm_P (d + 2)) K 16 _ _ _ _ _ _
  have hl4 : (A ++ ([.inr (0, [some (some (A.length + 1)), some none, some none, none]), .inr (5, [some (some (A.length + 2))]), .inr (6, [some (some (A.length + 3))]), .inl 16] : qm_L)).length = A.length + 4 := by rw [List.length_append]; rfl
  refine st_new (pc2 := 19) (e := 6) (df := [some none]) (c2 := 4) (s2 := 4099) rfl rfl rfl rfl rfl rfl rfl rfl ?_
  rw [qz_id (M := M1) (fun x => hzA _ x (by rw [hl4]; omega))]
  refine st_one (i := .dup) (n := 1) (ts := []) rfl ?_
  show qm_TT qi_0 (qm_Runs qm_P (d + 2)) K 20 _ _ _ _ _ _
  refine st_one (i := .bipush 8) (n := 2) (ts := []) rfl ?_
  show qm_TT qi_0 (qm_Runs qm_P (d + 2)) K 22 _ _ _ _ _ _
  refine st_callp (y := 53) (pc2 := 25) (c2 := 5) (s2 := 8195) rfl rfl rfl rfl rfl rfl rfl rfl rfl rfl rfl rfl ?_
  refine s_init_Row (A := A ++ ([.inr (0, [some (some (A.length + 1)), some none, some none, none]), .inr (5, [some (some (A.length + 2))]), .inr (6, [some (some (A.length + 3))]), .inl 16] : qm_L)) (d := d + 1) (n := 8) (by decide) (fun c x h => hzA c x (by rw [hl4] at h; omega)) ?_
  have hzA : ∀ c x, A.length + 6 ≤ c → M1 c x = 0 := fun c x h => hzA c x (by omega)
  show qm_TT qi_0 (qm_Runs qm_P (d + 2)) K 25 _ _ _ _ _ _
  refine st_L (L2 := A ++ ([.inr (0, [some (some (A.length + 1)), some none, some none, none]), .inr (5, [some (some (A.length + 2))]), .inr (6, [some (some (A.length + 3))]), .inl 16, .inr (6, [some (some (A.length + 5))]), .inl 8] : qm_L)) (by rw [hl4, List.append_assoc]; rfl) ?_
  refine st_putr (fs := ([some (some (A.length + 1)), some none, some none, none])) (L2 := A ++ ([.inr (0, [some (some (A.length + 1)), some (some (A.length + 4)), some none, none]), .inr (5, [some (some (A.length + 2))]), .inr (6, [some (some (A.length + 3))]), .inl 16, .inr (6, [some (some (A.length + 5))]), .inl 8] : qm_L)) (pc2 := 28) rfl rfl rfl (gA _) ⟨_, rfl⟩ (by rw [hl4]; exact sA _ _) ?_
  refine st_one (i := .aload_n 0) (n := 1) (ts := []) rfl ?_
  show qm_TT qi_0 (qm_Runs qm_P (d + 2)) K 29 _ _ _ _ _ _
  have hl6 : (A ++ ([.inr (0, [some (some (A.length + 1)), some (some (A.length + 4)), some none, none]), .inr (5, [some (some (A.length + 2))]), .inr (6, [some (some (A.length + 3))]), .inl 16, .inr (6, [some (some (A.length + 5))]), .inl 8] : qm_L)).length = A.length + 6 := by rw [List.length_append]; rfl
  refine st_new (pc2 := 32) (e := 6) (df := [some none]) (c2 := 6) (s2 := 8196) rfl rfl rfl rfl rfl rfl rfl rfl ?_
  rw [qz_id (M := M1) (fun x => hzA _ x (by rw [hl6]; omega))]
  refine st_one (i := .dup) (n := 1) (ts := []) rfl ?_
  show qm_TT qi_0 (qm_Runs qm_P (d + 2)) K 33 _ _ _ _ _ _
  refine st_one (i := .bipush 64) (n := 2) (ts := []) rfl ?_
  show qm_TT qi_0 (qm_Runs qm_P (d + 2)) K 35 _ _ _ _ _ _
  refine st_callp (y := 53) (pc2 := 38) (c2 := 7) (s2 := 12292) rfl rfl rfl rfl rfl rfl rfl rfl rfl rfl rfl rfl ?_
  refine s_init_Row (A := A ++ ([.inr (0, [some (some (A.length + 1)), some (some (A.length + 4)), some none, none]), .inr (5, [some (some (A.length + 2))]), .inr (6, [some (some (A.length + 3))]), .inl 16, .inr (6, [some (some (A.length + 5))]), .inl 8] : qm_L)) (d := d + 1) (n := 64) (by decide) (fun c x h => hzA c x (by rw [hl6] at h; omega)) ?_
  have hzA : ∀ c x, A.length + 8 ≤ c → M1 c x = 0 := fun c x h => hzA c x (by omega)
  show qm_TT qi_0 (qm_Runs qm_P (d + 2)) K 38 _ _ _ _ _ _
  refine st_L (L2 := A ++ ([.inr (0, [some (some (A.length + 1)), some (some (A.length + 4)), some none, none]), .inr (5, [some (some (A.length + 2))]), .inr (6, [some (some (A.length + 3))]), .inl 16, .inr (6, [some (some (A.length + 5))]), .inl 8, .inr (6, [some (some (A.length + 7))]), .inl 64] : qm_L)) (by rw [hl6, List.append_assoc]; rfl) ?_
  refine st_putr (fs := ([some (some (A.length + 1)), some (some (A.length + 4)), some none, none])) (L2 := A ++ ([.inr (0, [some (some (A.length + 1)), some (some (A.length + 4)), some (some (A.length + 6)), none]), .inr (5, [some (some (A.length + 2))]), .inr (6, [some (some (A.length + 3))]), .inl 16, .inr (6, [some (some (A.length + 5))]), .inl 8, .inr (6, [some (some (A.length + 7))]), .inl 64] : qm_L)) (pc2 := 41) rfl rfl rfl (gA _) ⟨_, rfl⟩ (by rw [hl6]; exact sA _ _) ?_
  refine st_one (i := .aload_n 0) (n := 1) (ts := []) rfl ?_
  show qm_TT qi_0 (qm_Runs qm_P (d + 2)) K 42 _ _ _ _ _ _
  refine st_one (i := .iconst 0) (n := 1) (ts := []) rfl ?_
  show qm_TT qi_0 (qm_Runs qm_P (d + 2)) K 43 _ _ _ _ _ _
  refine st_puti (pc2 := 46) rfl rfl rfl ⟨_, gA _, rfl⟩ ?_
  rw [qu_id (M := M1) (own1 3)]
  refine st_one (i := .return_) (n := 1) (ts := []) rfl ?_
  exact hK _ fr1
theorem s_init_Turns {A : qm_L} {d : Nat} {K : qm_K} {M : qm_M} (hz : ∀ c x, A.length ≤ c → M c x = 0) (hK : ∀ M2 : qm_M, (∀ c, c < A.length ∨ A.length + 22 ≤ c → M2 c = M c) → K (.inl 0) (A ++ ([.inr (8, [some (some (A.length + 1)), some (some (A.length + 3)), some (some (A.length + 5)), some (some (A.length + 7)), some (some (A.length + 9)), some (some (A.length + 11)), none, some (some (A.length + 13)), some (some (A.length + 16)), some (some (A.length + 18)), some (some (A.length + 20))]), .inr (6, [some (some (A.length + 2))]), .inl 224, .inr (6, [some (some (A.length + 4))]), .inl 224, .inr (6, [some (some (A.length + 6))]), .inl 28, .inr (6, [some (some (A.length + 8))]), .inl 28, .inr (6, [some (some (A.length + 10))]), .inl 28, .inr (6, [some (some (A.length + 12))]), .inl 28, .inr (5, [some (some (A.length + 14))]), .inr (6, [some (some (A.length + 15))]), .inl 16, .inr (6, [some (some (A.length + 17))]), .inl 8, .inr (6, [some (some (A.length + 19))]), .inl 8, .inr (6, [some (some (A.length + 21))]), .inl 64] : qm_L)) M2) : qm_Runs qm_P (d + 3) 69 [(.inr (some A.length))] (A ++ ([.inr (8, [some none, some none, some none, some none, some none, some none, none, some none, some none, some none, some none])] : qm_L)) M K := by
  refine And.intro (Nat.le_of_ble_eq_true rfl) (show qm_TT qi_69 (qm_Runs qm_P (d + 2)) K 0 [some (.inr (some A.length))] [] (A ++ ([.inr (8, [some none, some none, some none, some none, some none, some none, none, some none, some none, some none, some none])] : qm_L)) M 0 0 from ?_)
  have hzA := hz
  have own0 : ∀ x, M A.length x = 0 := fun x => hz A.length x (Nat.le_refl _)
  have fr0 : ∀ c, c < A.length ∨ A.length + 22 ≤ c → M c = M c := fun _ _ => rfl
  refine st_one (i := .aload_n 0) (n := 1) (ts := []) rfl ?_
  show qm_TT qi_69 (qm_Runs qm_P (d + 2)) K 1 _ _ _ _ _ _
  refine st_one (i := .invokespecial 3) (n := 3) (ts := []) rfl ?_
  show qm_TT qi_69 (qm_Runs qm_P (d + 2)) K 4 _ _ _ _ _ _
  refine st_one (i := .aload_n 0) (n := 1) (ts := []) rfl ?_
  show qm_TT qi_69 (qm_Runs qm_P (d + 2)) K 5 _ _ _ _ _ _
  have hl1 : (A ++ ([.inr (8, [some none, some none, some none, some none, some none, some none, none, some none, some none, some none, some none])] : qm_L)).length = A.length + 1 := by rw [List.length_append]; rfl
  refine st_new (pc2 := 8) (e := 6) (df := [some none]) (c2 := 1) (s2 := 1) rfl rfl rfl rfl rfl rfl rfl rfl ?_
  rw [qz_id (M := M) (fun x => hzA _ x (by rw [hl1]; omega))]
  refine st_one (i := .dup) (n := 1) (ts := []) rfl ?_
  show qm_TT qi_69 (qm_Runs qm_P (d + 2)) K 9 _ _ _ _ _ _
  refine st_one (i := .sipush 224) (n := 3) (ts := []) rfl ?_
  show qm_TT qi_69 (qm_Runs qm_P (d + 2)) K 12 _ _ _ _ _ _
  refine st_callp (y := 53) (pc2 := 15) (c2 := 2) (s2 := 4097) rfl rfl rfl rfl rfl rfl rfl rfl rfl rfl rfl rfl ?_
  refine s_init_Row (A := A ++ ([.inr (8, [some none, some none, some none, some none, some none, some none, none, some none, some none, some none, some none])] : qm_L)) (d := d + 1) (n := 224) (by decide) (fun c x h => hzA c x (by rw [hl1] at h; omega)) ?_
  have hzA : ∀ c x, A.length + 3 ≤ c → M c x = 0 := fun c x h => hzA c x (by omega)
  show qm_TT qi_69 (qm_Runs qm_P (d + 2)) K 15 _ _ _ _ _ _
  refine st_L (L2 := A ++ ([.inr (8, [some none, some none, some none, some none, some none, some none, none, some none, some none, some none, some none]), .inr (6, [some (some (A.length + 2))]), .inl 224] : qm_L)) (by rw [hl1, List.append_assoc]; rfl) ?_
  refine st_putr (fs := ([some none, some none, some none, some none, some none, some none, none, some none, some none, some none, some none])) (L2 := A ++ ([.inr (8, [some (some (A.length + 1)), some none, some none, some none, some none, some none, none, some none, some none, some none, some none]), .inr (6, [some (some (A.length + 2))]), .inl 224] : qm_L)) (pc2 := 18) rfl rfl rfl (gA _) ⟨_, rfl⟩ (by rw [hl1]; exact sA _ _) ?_
  refine st_one (i := .aload_n 0) (n := 1) (ts := []) rfl ?_
  show qm_TT qi_69 (qm_Runs qm_P (d + 2)) K 19 _ _ _ _ _ _
  have hl3 : (A ++ ([.inr (8, [some (some (A.length + 1)), some none, some none, some none, some none, some none, none, some none, some none, some none, some none]), .inr (6, [some (some (A.length + 2))]), .inl 224] : qm_L)).length = A.length + 3 := by rw [List.length_append]; rfl
  refine st_new (pc2 := 22) (e := 6) (df := [some none]) (c2 := 3) (s2 := 4098) rfl rfl rfl rfl rfl rfl rfl rfl ?_
  rw [qz_id (M := M) (fun x => hzA _ x (by rw [hl3]; omega))]
  refine st_one (i := .dup) (n := 1) (ts := []) rfl ?_
  show qm_TT qi_69 (qm_Runs qm_P (d + 2)) K 23 _ _ _ _ _ _
  refine st_one (i := .sipush 224) (n := 3) (ts := []) rfl ?_
  show qm_TT qi_69 (qm_Runs qm_P (d + 2)) K 26 _ _ _ _ _ _
  refine st_callp (y := 53) (pc2 := 29) (c2 := 4) (s2 := 8194) rfl rfl rfl rfl rfl rfl rfl rfl rfl rfl rfl rfl ?_
  refine s_init_Row (A := A ++ ([.inr (8, [some (some (A.length + 1)), some none, some none, some none, some none, some none, none, some none, some none, some none, some none]), .inr (6, [some (some (A.length + 2))]), .inl 224] : qm_L)) (d := d + 1) (n := 224) (by decide) (fun c x h => hzA c x (by rw [hl3] at h; omega)) ?_
  have hzA : ∀ c x, A.length + 5 ≤ c → M c x = 0 := fun c x h => hzA c x (by omega)
  show qm_TT qi_69 (qm_Runs qm_P (d + 2)) K 29 _ _ _ _ _ _
  refine st_L (L2 := A ++ ([.inr (8, [some (some (A.length + 1)), some none, some none, some none, some none, some none, none, some none, some none, some none, some none]), .inr (6, [some (some (A.length + 2))]), .inl 224, .inr (6, [some (some (A.length + 4))]), .inl 224] : qm_L)) (by rw [hl3, List.append_assoc]; rfl) ?_
  refine st_putr (fs := ([some (some (A.length + 1)), some none, some none, some none, some none, some none, none, some none, some none, some none, some none])) (L2 := A ++ ([.inr (8, [some (some (A.length + 1)), some (some (A.length + 3)), some none, some none, some none, some none, none, some none, some none, some none, some none]), .inr (6, [some (some (A.length + 2))]), .inl 224, .inr (6, [some (some (A.length + 4))]), .inl 224] : qm_L)) (pc2 := 32) rfl rfl rfl (gA _) ⟨_, rfl⟩ (by rw [hl3]; exact sA _ _) ?_
  refine st_one (i := .aload_n 0) (n := 1) (ts := []) rfl ?_
  show qm_TT qi_69 (qm_Runs qm_P (d + 2)) K 33 _ _ _ _ _ _
  have hl5 : (A ++ ([.inr (8, [some (some (A.length + 1)), some (some (A.length + 3)), some none, some none, some none, some none, none, some none, some none, some none, some none]), .inr (6, [some (some (A.length + 2))]), .inl 224, .inr (6, [some (some (A.length + 4))]), .inl 224] : qm_L)).length = A.length + 5 := by rw [List.length_append]; rfl
  refine st_new (pc2 := 36) (e := 6) (df := [some none]) (c2 := 5) (s2 := 8195) rfl rfl rfl rfl rfl rfl rfl rfl ?_
  rw [qz_id (M := M) (fun x => hzA _ x (by rw [hl5]; omega))]
  refine st_one (i := .dup) (n := 1) (ts := []) rfl ?_
  show qm_TT qi_69 (qm_Runs qm_P (d + 2)) K 37 _ _ _ _ _ _
  refine st_one (i := .bipush 28) (n := 2) (ts := []) rfl ?_
  show qm_TT qi_69 (qm_Runs qm_P (d + 2)) K 39 _ _ _ _ _ _
  refine st_callp (y := 53) (pc2 := 42) (c2 := 6) (s2 := 12291) rfl rfl rfl rfl rfl rfl rfl rfl rfl rfl rfl rfl ?_
  refine s_init_Row (A := A ++ ([.inr (8, [some (some (A.length + 1)), some (some (A.length + 3)), some none, some none, some none, some none, none, some none, some none, some none, some none]), .inr (6, [some (some (A.length + 2))]), .inl 224, .inr (6, [some (some (A.length + 4))]), .inl 224] : qm_L)) (d := d + 1) (n := 28) (by decide) (fun c x h => hzA c x (by rw [hl5] at h; omega)) ?_
  have hzA : ∀ c x, A.length + 7 ≤ c → M c x = 0 := fun c x h => hzA c x (by omega)
  show qm_TT qi_69 (qm_Runs qm_P (d + 2)) K 42 _ _ _ _ _ _
  refine st_L (L2 := A ++ ([.inr (8, [some (some (A.length + 1)), some (some (A.length + 3)), some none, some none, some none, some none, none, some none, some none, some none, some none]), .inr (6, [some (some (A.length + 2))]), .inl 224, .inr (6, [some (some (A.length + 4))]), .inl 224, .inr (6, [some (some (A.length + 6))]), .inl 28] : qm_L)) (by rw [hl5, List.append_assoc]; rfl) ?_
  refine st_putr (fs := ([some (some (A.length + 1)), some (some (A.length + 3)), some none, some none, some none, some none, none, some none, some none, some none, some none])) (L2 := A ++ ([.inr (8, [some (some (A.length + 1)), some (some (A.length + 3)), some (some (A.length + 5)), some none, some none, some none, none, some none, some none, some none, some none]), .inr (6, [some (some (A.length + 2))]), .inl 224, .inr (6, [some (some (A.length + 4))]), .inl 224, .inr (6, [some (some (A.length + 6))]), .inl 28] : qm_L)) (pc2 := 45) rfl rfl rfl (gA _) ⟨_, rfl⟩ (by rw [hl5]; exact sA _ _) ?_
  refine st_one (i := .aload_n 0) (n := 1) (ts := []) rfl ?_
  show qm_TT qi_69 (qm_Runs qm_P (d + 2)) K 46 _ _ _ _ _ _
  have hl7 : (A ++ ([.inr (8, [some (some (A.length + 1)), some (some (A.length + 3)), some (some (A.length + 5)), some none, some none, some none, none, some none, some none, some none, some none]), .inr (6, [some (some (A.length + 2))]), .inl 224, .inr (6, [some (some (A.length + 4))]), .inl 224, .inr (6, [some (some (A.length + 6))]), .inl 28] : qm_L)).length = A.length + 7 := by rw [List.length_append]; rfl
  refine st_new (pc2 := 49) (e := 6) (df := [some none]) (c2 := 7) (s2 := 12292) rfl rfl rfl rfl rfl rfl rfl rfl ?_
  rw [qz_id (M := M) (fun x => hzA _ x (by rw [hl7]; omega))]
  refine st_one (i := .dup) (n := 1) (ts := []) rfl ?_
  show qm_TT qi_69 (qm_Runs qm_P (d + 2)) K 50 _ _ _ _ _ _
  refine st_one (i := .bipush 28) (n := 2) (ts := []) rfl ?_
  show qm_TT qi_69 (qm_Runs qm_P (d + 2)) K 52 _ _ _ _ _ _
  refine st_callp (y := 53) (pc2 := 55) (c2 := 8) (s2 := 16388) rfl rfl rfl rfl rfl rfl rfl rfl rfl rfl rfl rfl ?_
  refine s_init_Row (A := A ++ ([.inr (8, [some (some (A.length + 1)), some (some (A.length + 3)), some (some (A.length + 5)), some none, some none, some none, none, some none, some none, some none, some none]), .inr (6, [some (some (A.length + 2))]), .inl 224, .inr (6, [some (some (A.length + 4))]), .inl 224, .inr (6, [some (some (A.length + 6))]), .inl 28] : qm_L)) (d := d + 1) (n := 28) (by decide) (fun c x h => hzA c x (by rw [hl7] at h; omega)) ?_
  have hzA : ∀ c x, A.length + 9 ≤ c → M c x = 0 := fun c x h => hzA c x (by omega)
  show qm_TT qi_69 (qm_Runs qm_P (d + 2)) K 55 _ _ _ _ _ _
  refine st_L (L2 := A ++ ([.inr (8, [some (some (A.length + 1)), some (some (A.length + 3)), some (some (A.length + 5)), some none, some none, some none, none, some none, some none, some none, some none]), .inr (6, [some (some (A.length + 2))]), .inl 224, .inr (6, [some (some (A.length + 4))]), .inl 224, .inr (6, [some (some (A.length + 6))]), .inl 28, .inr (6, [some (some (A.length + 8))]), .inl 28] : qm_L)) (by rw [hl7, List.append_assoc]; rfl) ?_
  refine st_putr (fs := ([some (some (A.length + 1)), some (some (A.length + 3)), some (some (A.length + 5)), some none, some none, some none, none, some none, some none, some none, some none])) (L2 := A ++ ([.inr (8, [some (some (A.length + 1)), some (some (A.length + 3)), some (some (A.length + 5)), some (some (A.length + 7)), some none, some none, none, some none, some none, some none, some none]), .inr (6, [some (some (A.length + 2))]), .inl 224, .inr (6, [some (some (A.length + 4))]), .inl 224, .inr (6, [some (some (A.length + 6))]), .inl 28, .inr (6, [some (some (A.length + 8))]), .inl 28] : qm_L)) (pc2 := 58) rfl rfl rfl (gA _) ⟨_, rfl⟩ (by rw [hl7]; exact sA _ _) ?_
  refine st_one (i := .aload_n 0) (n := 1) (ts := []) rfl ?_
  show qm_TT qi_69 (qm_Runs qm_P (d + 2)) K 59 _ _ _ _ _ _
  have hl9 : (A ++ ([.inr (8, [some (some (A.length + 1)), some (some (A.length + 3)), some (some (A.length + 5)), some (some (A.length + 7)), some none, some none, none, some none, some none, some none, some none]), .inr (6, [some (some (A.length + 2))]), .inl 224, .inr (6, [some (some (A.length + 4))]), .inl 224, .inr (6, [some (some (A.length + 6))]), .inl 28, .inr (6, [some (some (A.length + 8))]), .inl 28] : qm_L)).length = A.length + 9 := by rw [List.length_append]; rfl
  refine st_new (pc2 := 62) (e := 6) (df := [some none]) (c2 := 9) (s2 := 16389) rfl rfl rfl rfl rfl rfl rfl rfl ?_
  rw [qz_id (M := M) (fun x => hzA _ x (by rw [hl9]; omega))]
  refine st_one (i := .dup) (n := 1) (ts := []) rfl ?_
  show qm_TT qi_69 (qm_Runs qm_P (d + 2)) K 63 _ _ _ _ _ _
  refine st_one (i := .bipush 28) (n := 2) (ts := []) rfl ?_
  show qm_TT qi_69 (qm_Runs qm_P (d + 2)) K 65 _ _ _ _ _ _
  refine st_callp (y := 53) (pc2 := 68) (c2 := 10) (s2 := 20485) rfl rfl rfl rfl rfl rfl rfl rfl rfl rfl rfl rfl ?_
  refine s_init_Row (A := A ++ ([.inr (8, [some (some (A.length + 1)), some (some (A.length + 3)), some (some (A.length + 5)), some (some (A.length + 7)), some none, some none, none, some none, some none, some none, some none]), .inr (6, [some (some (A.length + 2))]), .inl 224, .inr (6, [some (some (A.length + 4))]), .inl 224, .inr (6, [some (some (A.length + 6))]), .inl 28, .inr (6, [some (some (A.length + 8))]), .inl 28] : qm_L)) (d := d + 1) (n := 28) (by decide) (fun c x h => hzA c x (by rw [hl9] at h; omega)) ?_
  have hzA : ∀ c x, A.length + 11 ≤ c → M c x = 0 := fun c x h => hzA c x (by omega)
  show qm_TT qi_69 (qm_Runs qm_P (d + 2)) K 68 _ _ _ _ _ _
  refine st_L (L2 := A ++ ([.inr (8, [some (some (A.length + 1)), some (some (A.length + 3)), some (some (A.length + 5)), some (some (A.length + 7)), some none, some none, none, some none, some none, some none, some none]), .inr (6, [some (some (A.length + 2))]), .inl 224, .inr (6, [some (some (A.length + 4))]), .inl 224, .inr (6, [some (some (A.length + 6))]), .inl 28, .inr (6, [some (some (A.length + 8))]), .inl 28, .inr (6, [some (some (A.length + 10))]), .inl 28] : qm_L)) (by rw [hl9, List.append_assoc]; rfl) ?_
  refine st_putr (fs := ([some (some (A.length + 1)), some (some (A.length + 3)), some (some (A.length + 5)), some (some (A.length + 7)), some none, some none, none, some none, some none, some none, some none])) (L2 := A ++ ([.inr (8, [some (some (A.length + 1)), some (some (A.length + 3)), some (some (A.length + 5)), some (some (A.length + 7)), some (some (A.length + 9)), some none, none, some none, some none, some none, some none]), .inr (6, [some (some (A.length + 2))]), .inl 224, .inr (6, [some (some (A.length + 4))]), .inl 224, .inr (6, [some (some (A.length + 6))]), .inl 28, .inr (6, [some (some (A.length + 8))]), .inl 28, .inr (6, [some (some (A.length + 10))]), .inl 28] : qm_L)) (pc2 := 71) rfl rfl rfl (gA _) ⟨_, rfl⟩ (by rw [hl9]; exact sA _ _) ?_
  refine st_one (i := .aload_n 0) (n := 1) (ts := []) rfl ?_
  show qm_TT qi_69 (qm_Runs qm_P (d + 2)) K 72 _ _ _ _ _ _
  have hl11 : (A ++ ([.inr (8, [some (some (A.length + 1)), some (some (A.length + 3)), some (some (A.length + 5)), some (some (A.length + 7)), some (some (A.length + 9)), some none, none, some none, some none, some none, some none]), .inr (6, [some (some (A.length + 2))]), .inl 224, .inr (6, [some (some (A.length + 4))]), .inl 224, .inr (6, [some (some (A.length + 6))]), .inl 28, .inr (6, [some (some (A.length + 8))]), .inl 28, .inr (6, [some (some (A.length + 10))]), .inl 28] : qm_L)).length = A.length + 11 := by rw [List.length_append]; rfl
  refine st_new (pc2 := 75) (e := 6) (df := [some none]) (c2 := 11) (s2 := 20486) rfl rfl rfl rfl rfl rfl rfl rfl ?_
  rw [qz_id (M := M) (fun x => hzA _ x (by rw [hl11]; omega))]
  refine st_one (i := .dup) (n := 1) (ts := []) rfl ?_
  show qm_TT qi_69 (qm_Runs qm_P (d + 2)) K 76 _ _ _ _ _ _
  refine st_one (i := .bipush 28) (n := 2) (ts := []) rfl ?_
  show qm_TT qi_69 (qm_Runs qm_P (d + 2)) K 78 _ _ _ _ _ _
  refine st_callp (y := 53) (pc2 := 81) (c2 := 12) (s2 := 24582) rfl rfl rfl rfl rfl rfl rfl rfl rfl rfl rfl rfl ?_
  refine s_init_Row (A := A ++ ([.inr (8, [some (some (A.length + 1)), some (some (A.length + 3)), some (some (A.length + 5)), some (some (A.length + 7)), some (some (A.length + 9)), some none, none, some none, some none, some none, some none]), .inr (6, [some (some (A.length + 2))]), .inl 224, .inr (6, [some (some (A.length + 4))]), .inl 224, .inr (6, [some (some (A.length + 6))]), .inl 28, .inr (6, [some (some (A.length + 8))]), .inl 28, .inr (6, [some (some (A.length + 10))]), .inl 28] : qm_L)) (d := d + 1) (n := 28) (by decide) (fun c x h => hzA c x (by rw [hl11] at h; omega)) ?_
  have hzA : ∀ c x, A.length + 13 ≤ c → M c x = 0 := fun c x h => hzA c x (by omega)
  show qm_TT qi_69 (qm_Runs qm_P (d + 2)) K 81 _ _ _ _ _ _
  refine st_L (L2 := A ++ ([.inr (8, [some (some (A.length + 1)), some (some (A.length + 3)), some (some (A.length + 5)), some (some (A.length + 7)), some (some (A.length + 9)), some none, none, some none, some none, some none, some none]), .inr (6, [some (some (A.length + 2))]), .inl 224, .inr (6, [some (some (A.length + 4))]), .inl 224, .inr (6, [some (some (A.length + 6))]), .inl 28, .inr (6, [some (some (A.length + 8))]), .inl 28, .inr (6, [some (some (A.length + 10))]), .inl 28, .inr (6, [some (some (A.length + 12))]), .inl 28] : qm_L)) (by rw [hl11, List.append_assoc]; rfl) ?_
  refine st_putr (fs := ([some (some (A.length + 1)), some (some (A.length + 3)), some (some (A.length + 5)), some (some (A.length + 7)), some (some (A.length + 9)), some none, none, some none, some none, some none, some none])) (L2 := A ++ ([.inr (8, [some (some (A.length + 1)), some (some (A.length + 3)), some (some (A.length + 5)), some (some (A.length + 7)), some (some (A.length + 9)), some (some (A.length + 11)), none, some none, some none, some none, some none]), .inr (6, [some (some (A.length + 2))]), .inl 224, .inr (6, [some (some (A.length + 4))]), .inl 224, .inr (6, [some (some (A.length + 6))]), .inl 28, .inr (6, [some (some (A.length + 8))]), .inl 28, .inr (6, [some (some (A.length + 10))]), .inl 28, .inr (6, [some (some (A.length + 12))]), .inl 28] : qm_L)) (pc2 := 84) rfl rfl rfl (gA _) ⟨_, rfl⟩ (by rw [hl11]; exact sA _ _) ?_
  refine st_one (i := .aload_n 0) (n := 1) (ts := []) rfl ?_
  show qm_TT qi_69 (qm_Runs qm_P (d + 2)) K 85 _ _ _ _ _ _
  refine st_one (i := .iconst 0) (n := 1) (ts := []) rfl ?_
  show qm_TT qi_69 (qm_Runs qm_P (d + 2)) K 86 _ _ _ _ _ _
  refine st_puti (pc2 := 89) rfl rfl rfl ⟨_, gA _, rfl⟩ ?_
  rw [qu_id (M := M) (own0 6)]
  refine st_one (i := .aload_n 0) (n := 1) (ts := []) rfl ?_
  show qm_TT qi_69 (qm_Runs qm_P (d + 2)) K 90 _ _ _ _ _ _
  have hl13 : (A ++ ([.inr (8, [some (some (A.length + 1)), some (some (A.length + 3)), some (some (A.length + 5)), some (some (A.length + 7)), some (some (A.length + 9)), some (some (A.length + 11)), none, some none, some none, some none, some none]), .inr (6, [some (some (A.length + 2))]), .inl 224, .inr (6, [some (some (A.length + 4))]), .inl 224, .inr (6, [some (some (A.length + 6))]), .inl 28, .inr (6, [some (some (A.length + 8))]), .inl 28, .inr (6, [some (some (A.length + 10))]), .inl 28, .inr (6, [some (some (A.length + 12))]), .inl 28] : qm_L)).length = A.length + 13 := by rw [List.length_append]; rfl
  refine st_new (pc2 := 93) (e := 5) (df := [some none]) (c2 := 13) (s2 := 24583) rfl rfl rfl rfl rfl rfl rfl rfl ?_
  rw [qz_id (M := M) (fun x => hzA _ x (by rw [hl13]; omega))]
  refine st_one (i := .dup) (n := 1) (ts := []) rfl ?_
  show qm_TT qi_69 (qm_Runs qm_P (d + 2)) K 94 _ _ _ _ _ _
  refine st_callp (y := 45) (pc2 := 97) (c2 := 15) (s2 := 28680) rfl rfl rfl rfl rfl rfl rfl rfl rfl rfl rfl rfl ?_
  refine s_init_Pair (A := A ++ ([.inr (8, [some (some (A.length + 1)), some (some (A.length + 3)), some (some (A.length + 5)), some (some (A.length + 7)), some (some (A.length + 9)), some (some (A.length + 11)), none, some none, some none, some none, some none]), .inr (6, [some (some (A.length + 2))]), .inl 224, .inr (6, [some (some (A.length + 4))]), .inl 224, .inr (6, [some (some (A.length + 6))]), .inl 28, .inr (6, [some (some (A.length + 8))]), .inl 28, .inr (6, [some (some (A.length + 10))]), .inl 28, .inr (6, [some (some (A.length + 12))]), .inl 28] : qm_L)) (d := d + 0) (fun c x h => hzA c x (by rw [hl13] at h; omega)) ?_
  intro M1 q1
  have f1 : ∀ c, c < A.length + 13 ∨ A.length + 16 ≤ c → M1 c = M c := fun c h => q1.1 c (by rw [hl13]; omega)
  have x1 := q1.2
  rw [hl13] at x1
  have hzA : ∀ c x, A.length + 16 ≤ c → M1 c x = 0 := fun c x h => by rw [f1 c (Or.inr h)]; exact hzA c x (by omega)
  have own1 : ∀ x, M1 A.length x = 0 := fun x => by rw [f1 A.length (Or.inl (by omega))]; exact own0 x
  have fr1 : ∀ c, c < A.length ∨ A.length + 22 ≤ c → M1 c = M c := fun c h => (f1 c (by omega)).trans (fr0 c h)
  show qm_TT qi_69 (qm_Runs qm_P (d + 2)) K 97 _ _ _ _ _ _
  refine st_L (L2 := A ++ ([.inr (8, [some (some (A.length + 1)), some (some (A.length + 3)), some (some (A.length + 5)), some (some (A.length + 7)), some (some (A.length + 9)), some (some (A.length + 11)), none, some none, some none, some none, some none]), .inr (6, [some (some (A.length + 2))]), .inl 224, .inr (6, [some (some (A.length + 4))]), .inl 224, .inr (6, [some (some (A.length + 6))]), .inl 28, .inr (6, [some (some (A.length + 8))]), .inl 28, .inr (6, [some (some (A.length + 10))]), .inl 28, .inr (6, [some (some (A.length + 12))]), .inl 28, .inr (5, [some (some (A.length + 14))]), .inr (6, [some (some (A.length + 15))]), .inl 16] : qm_L)) (by rw [hl13, List.append_assoc]; rfl) ?_
  refine st_putr (fs := ([some (some (A.length + 1)), some (some (A.length + 3)), some (some (A.length + 5)), some (some (A.length + 7)), some (some (A.length + 9)), some (some (A.length + 11)), none, some none, some none, some none, some none])) (L2 := A ++ ([.inr (8, [some (some (A.length + 1)), some (some (A.length + 3)), some (some (A.length + 5)), some (some (A.length + 7)), some (some (A.length + 9)), some (some (A.length + 11)), none, some (some (A.length + 13)), some none, some none, some none]), .inr (6, [some (some (A.length + 2))]), .inl 224, .inr (6, [some (some (A.length + 4))]), .inl 224, .inr (6, [some (some (A.length + 6))]), .inl 28, .inr (6, [some (some (A.length + 8))]), .inl 28, .inr (6, [some (some (A.length + 10))]), .inl 28, .inr (6, [some (some (A.length + 12))]), .inl 28, .inr (5, [some (some (A.length + 14))]), .inr (6, [some (some (A.length + 15))]), .inl 16] : qm_L)) (pc2 := 100) rfl rfl rfl (gA _) ⟨_, rfl⟩ (by rw [hl13]; exact sA _ _) ?_
  refine st_one (i := .aload_n 0) (n := 1) (ts := []) rfl ?_
  show qm_TT qi_69 (qm_Runs qm_P (d + 2)) K 101 _ _ _ _ _ _
  have hl16 : (A ++ ([.inr (8, [some (some (A.length + 1)), some (some (A.length + 3)), some (some (A.length + 5)), some (some (A.length + 7)), some (some (A.length + 9)), some (some (A.length + 11)), none, some (some (A.length + 13)), some none, some none, some none]), .inr (6, [some (some (A.length + 2))]), .inl 224, .inr (6, [some (some (A.length + 4))]), .inl 224, .inr (6, [some (some (A.length + 6))]), .inl 28, .inr (6, [some (some (A.length + 8))]), .inl 28, .inr (6, [some (some (A.length + 10))]), .inl 28, .inr (6, [some (some (A.length + 12))]), .inl 28, .inr (5, [some (some (A.length + 14))]), .inr (6, [some (some (A.length + 15))]), .inl 16] : qm_L)).length = A.length + 16 := by rw [List.length_append]; rfl
  refine st_new (pc2 := 104) (e := 6) (df := [some none]) (c2 := 16) (s2 := 28681) rfl rfl rfl rfl rfl rfl rfl rfl ?_
  rw [qz_id (M := M1) (fun x => hzA _ x (by rw [hl16]; omega))]
  refine st_one (i := .dup) (n := 1) (ts := []) rfl ?_
  show qm_TT qi_69 (qm_Runs qm_P (d + 2)) K 105 _ _ _ _ _ _
  refine st_one (i := .bipush 8) (n := 2) (ts := []) rfl ?_
  show qm_TT qi_69 (qm_Runs qm_P (d + 2)) K 107 _ _ _ _ _ _
  refine st_callp (y := 53) (pc2 := 110) (c2 := 17) (s2 := 32777) rfl rfl rfl rfl rfl rfl rfl rfl rfl rfl rfl rfl ?_
  refine s_init_Row (A := A ++ ([.inr (8, [some (some (A.length + 1)), some (some (A.length + 3)), some (some (A.length + 5)), some (some (A.length + 7)), some (some (A.length + 9)), some (some (A.length + 11)), none, some (some (A.length + 13)), some none, some none, some none]), .inr (6, [some (some (A.length + 2))]), .inl 224, .inr (6, [some (some (A.length + 4))]), .inl 224, .inr (6, [some (some (A.length + 6))]), .inl 28, .inr (6, [some (some (A.length + 8))]), .inl 28, .inr (6, [some (some (A.length + 10))]), .inl 28, .inr (6, [some (some (A.length + 12))]), .inl 28, .inr (5, [some (some (A.length + 14))]), .inr (6, [some (some (A.length + 15))]), .inl 16] : qm_L)) (d := d + 1) (n := 8) (by decide) (fun c x h => hzA c x (by rw [hl16] at h; omega)) ?_
  have hzA : ∀ c x, A.length + 18 ≤ c → M1 c x = 0 := fun c x h => hzA c x (by omega)
  show qm_TT qi_69 (qm_Runs qm_P (d + 2)) K 110 _ _ _ _ _ _
  refine st_L (L2 := A ++ ([.inr (8, [some (some (A.length + 1)), some (some (A.length + 3)), some (some (A.length + 5)), some (some (A.length + 7)), some (some (A.length + 9)), some (some (A.length + 11)), none, some (some (A.length + 13)), some none, some none, some none]), .inr (6, [some (some (A.length + 2))]), .inl 224, .inr (6, [some (some (A.length + 4))]), .inl 224, .inr (6, [some (some (A.length + 6))]), .inl 28, .inr (6, [some (some (A.length + 8))]), .inl 28, .inr (6, [some (some (A.length + 10))]), .inl 28, .inr (6, [some (some (A.length + 12))]), .inl 28, .inr (5, [some (some (A.length + 14))]), .inr (6, [some (some (A.length + 15))]), .inl 16, .inr (6, [some (some (A.length + 17))]), .inl 8] : qm_L)) (by rw [hl16, List.append_assoc]; rfl) ?_
  refine st_putr (fs := ([some (some (A.length + 1)), some (some (A.length + 3)), some (some (A.length + 5)), some (some (A.length + 7)), some (some (A.length + 9)), some (some (A.length + 11)), none, some (some (A.length + 13)), some none, some none, some none])) (L2 := A ++ ([.inr (8, [some (some (A.length + 1)), some (some (A.length + 3)), some (some (A.length + 5)), some (some (A.length + 7)), some (some (A.length + 9)), some (some (A.length + 11)), none, some (some (A.length + 13)), some (some (A.length + 16)), some none, some none]), .inr (6, [some (some (A.length + 2))]), .inl 224, .inr (6, [some (some (A.length + 4))]), .inl 224, .inr (6, [some (some (A.length + 6))]), .inl 28, .inr (6, [some (some (A.length + 8))]), .inl 28, .inr (6, [some (some (A.length + 10))]), .inl 28, .inr (6, [some (some (A.length + 12))]), .inl 28, .inr (5, [some (some (A.length + 14))]), .inr (6, [some (some (A.length + 15))]), .inl 16, .inr (6, [some (some (A.length + 17))]), .inl 8] : qm_L)) (pc2 := 113) rfl rfl rfl (gA _) ⟨_, rfl⟩ (by rw [hl16]; exact sA _ _) ?_
  refine st_one (i := .aload_n 0) (n := 1) (ts := []) rfl ?_
  show qm_TT qi_69 (qm_Runs qm_P (d + 2)) K 114 _ _ _ _ _ _
  have hl18 : (A ++ ([.inr (8, [some (some (A.length + 1)), some (some (A.length + 3)), some (some (A.length + 5)), some (some (A.length + 7)), some (some (A.length + 9)), some (some (A.length + 11)), none, some (some (A.length + 13)), some (some (A.length + 16)), some none, some none]), .inr (6, [some (some (A.length + 2))]), .inl 224, .inr (6, [some (some (A.length + 4))]), .inl 224, .inr (6, [some (some (A.length + 6))]), .inl 28, .inr (6, [some (some (A.length + 8))]), .inl 28, .inr (6, [some (some (A.length + 10))]), .inl 28, .inr (6, [some (some (A.length + 12))]), .inl 28, .inr (5, [some (some (A.length + 14))]), .inr (6, [some (some (A.length + 15))]), .inl 16, .inr (6, [some (some (A.length + 17))]), .inl 8] : qm_L)).length = A.length + 18 := by rw [List.length_append]; rfl
  refine st_new (pc2 := 117) (e := 6) (df := [some none]) (c2 := 18) (s2 := 32778) rfl rfl rfl rfl rfl rfl rfl rfl ?_
  rw [qz_id (M := M1) (fun x => hzA _ x (by rw [hl18]; omega))]
  refine st_one (i := .dup) (n := 1) (ts := []) rfl ?_
  show qm_TT qi_69 (qm_Runs qm_P (d + 2)) K 118 _ _ _ _ _ _
  refine st_one (i := .bipush 8) (n := 2) (ts := []) rfl ?_
  show qm_TT qi_69 (qm_Runs qm_P (d + 2)) K 120 _ _ _ _ _ _
  refine st_callp (y := 53) (pc2 := 123) (c2 := 19) (s2 := 36874) rfl rfl rfl rfl rfl rfl rfl rfl rfl rfl rfl rfl ?_
  refine s_init_Row (A := A ++ ([.inr (8, [some (some (A.length + 1)), some (some (A.length + 3)), some (some (A.length + 5)), some (some (A.length + 7)), some (some (A.length + 9)), some (some (A.length + 11)), none, some (some (A.length + 13)), some (some (A.length + 16)), some none, some none]), .inr (6, [some (some (A.length + 2))]), .inl 224, .inr (6, [some (some (A.length + 4))]), .inl 224, .inr (6, [some (some (A.length + 6))]), .inl 28, .inr (6, [some (some (A.length + 8))]), .inl 28, .inr (6, [some (some (A.length + 10))]), .inl 28, .inr (6, [some (some (A.length + 12))]), .inl 28, .inr (5, [some (some (A.length + 14))]), .inr (6, [some (some (A.length + 15))]), .inl 16, .inr (6, [some (some (A.length + 17))]), .inl 8] : qm_L)) (d := d + 1) (n := 8) (by decide) (fun c x h => hzA c x (by rw [hl18] at h; omega)) ?_
  have hzA : ∀ c x, A.length + 20 ≤ c → M1 c x = 0 := fun c x h => hzA c x (by omega)
  show qm_TT qi_69 (qm_Runs qm_P (d + 2)) K 123 _ _ _ _ _ _
  refine st_L (L2 := A ++ ([.inr (8, [some (some (A.length + 1)), some (some (A.length + 3)), some (some (A.length + 5)), some (some (A.length + 7)), some (some (A.length + 9)), some (some (A.length + 11)), none, some (some (A.length + 13)), some (some (A.length + 16)), some none, some none]), .inr (6, [some (some (A.length + 2))]), .inl 224, .inr (6, [some (some (A.length + 4))]), .inl 224, .inr (6, [some (some (A.length + 6))]), .inl 28, .inr (6, [some (some (A.length + 8))]), .inl 28, .inr (6, [some (some (A.length + 10))]), .inl 28, .inr (6, [some (some (A.length + 12))]), .inl 28, .inr (5, [some (some (A.length + 14))]), .inr (6, [some (some (A.length + 15))]), .inl 16, .inr (6, [some (some (A.length + 17))]), .inl 8, .inr (6, [some (some (A.length + 19))]), .inl 8] : qm_L)) (by rw [hl18, List.append_assoc]; rfl) ?_
  refine st_putr (fs := ([some (some (A.length + 1)), some (some (A.length + 3)), some (some (A.length + 5)), some (some (A.length + 7)), some (some (A.length + 9)), some (some (A.length + 11)), none, some (some (A.length + 13)), some (some (A.length + 16)), some none, some none])) (L2 := A ++ ([.inr (8, [some (some (A.length + 1)), some (some (A.length + 3)), some (some (A.length + 5)), some (some (A.length + 7)), some (some (A.length + 9)), some (some (A.length + 11)), none, some (some (A.length + 13)), some (some (A.length + 16)), some (some (A.length + 18)), some none]), .inr (6, [some (some (A.length + 2))]), .inl 224, .inr (6, [some (some (A.length + 4))]), .inl 224, .inr (6, [some (some (A.length + 6))]), .inl 28, .inr (6, [some (some (A.length + 8))]), .inl 28, .inr (6, [some (some (A.length + 10))]), .inl 28, .inr (6, [some (some (A.length + 12))]), .inl 28, .inr (5, [some (some (A.length + 14))]), .inr (6, [some (some (A.length + 15))]), .inl 16, .inr (6, [some (some (A.length + 17))]), .inl 8, .inr (6, [some (some (A.length + 19))]), .inl 8] : qm_L)) (pc2 := 126) rfl rfl rfl (gA _) ⟨_, rfl⟩ (by rw [hl18]; exact sA _ _) ?_
  refine st_one (i := .aload_n 0) (n := 1) (ts := []) rfl ?_
  show qm_TT qi_69 (qm_Runs qm_P (d + 2)) K 127 _ _ _ _ _ _
  have hl20 : (A ++ ([.inr (8, [some (some (A.length + 1)), some (some (A.length + 3)), some (some (A.length + 5)), some (some (A.length + 7)), some (some (A.length + 9)), some (some (A.length + 11)), none, some (some (A.length + 13)), some (some (A.length + 16)), some (some (A.length + 18)), some none]), .inr (6, [some (some (A.length + 2))]), .inl 224, .inr (6, [some (some (A.length + 4))]), .inl 224, .inr (6, [some (some (A.length + 6))]), .inl 28, .inr (6, [some (some (A.length + 8))]), .inl 28, .inr (6, [some (some (A.length + 10))]), .inl 28, .inr (6, [some (some (A.length + 12))]), .inl 28, .inr (5, [some (some (A.length + 14))]), .inr (6, [some (some (A.length + 15))]), .inl 16, .inr (6, [some (some (A.length + 17))]), .inl 8, .inr (6, [some (some (A.length + 19))]), .inl 8] : qm_L)).length = A.length + 20 := by rw [List.length_append]; rfl
  refine st_new (pc2 := 130) (e := 6) (df := [some none]) (c2 := 20) (s2 := 36875) rfl rfl rfl rfl rfl rfl rfl rfl ?_
  rw [qz_id (M := M1) (fun x => hzA _ x (by rw [hl20]; omega))]
  refine st_one (i := .dup) (n := 1) (ts := []) rfl ?_
  show qm_TT qi_69 (qm_Runs qm_P (d + 2)) K 131 _ _ _ _ _ _
  refine st_one (i := .bipush 64) (n := 2) (ts := []) rfl ?_
  show qm_TT qi_69 (qm_Runs qm_P (d + 2)) K 133 _ _ _ _ _ _
  refine st_callp (y := 53) (pc2 := 136) (c2 := 21) (s2 := 40971) rfl rfl rfl rfl rfl rfl rfl rfl rfl rfl rfl rfl ?_
  refine s_init_Row (A := A ++ ([.inr (8, [some (some (A.length + 1)), some (some (A.length + 3)), some (some (A.length + 5)), some (some (A.length + 7)), some (some (A.length + 9)), some (some (A.length + 11)), none, some (some (A.length + 13)), some (some (A.length + 16)), some (some (A.length + 18)), some none]), .inr (6, [some (some (A.length + 2))]), .inl 224, .inr (6, [some (some (A.length + 4))]), .inl 224, .inr (6, [some (some (A.length + 6))]), .inl 28, .inr (6, [some (some (A.length + 8))]), .inl 28, .inr (6, [some (some (A.length + 10))]), .inl 28, .inr (6, [some (some (A.length + 12))]), .inl 28, .inr (5, [some (some (A.length + 14))]), .inr (6, [some (some (A.length + 15))]), .inl 16, .inr (6, [some (some (A.length + 17))]), .inl 8, .inr (6, [some (some (A.length + 19))]), .inl 8] : qm_L)) (d := d + 1) (n := 64) (by decide) (fun c x h => hzA c x (by rw [hl20] at h; omega)) ?_
  have hzA : ∀ c x, A.length + 22 ≤ c → M1 c x = 0 := fun c x h => hzA c x (by omega)
  show qm_TT qi_69 (qm_Runs qm_P (d + 2)) K 136 _ _ _ _ _ _
  refine st_L (L2 := A ++ ([.inr (8, [some (some (A.length + 1)), some (some (A.length + 3)), some (some (A.length + 5)), some (some (A.length + 7)), some (some (A.length + 9)), some (some (A.length + 11)), none, some (some (A.length + 13)), some (some (A.length + 16)), some (some (A.length + 18)), some none]), .inr (6, [some (some (A.length + 2))]), .inl 224, .inr (6, [some (some (A.length + 4))]), .inl 224, .inr (6, [some (some (A.length + 6))]), .inl 28, .inr (6, [some (some (A.length + 8))]), .inl 28, .inr (6, [some (some (A.length + 10))]), .inl 28, .inr (6, [some (some (A.length + 12))]), .inl 28, .inr (5, [some (some (A.length + 14))]), .inr (6, [some (some (A.length + 15))]), .inl 16, .inr (6, [some (some (A.length + 17))]), .inl 8, .inr (6, [some (some (A.length + 19))]), .inl 8, .inr (6, [some (some (A.length + 21))]), .inl 64] : qm_L)) (by rw [hl20, List.append_assoc]; rfl) ?_
  refine st_putr (fs := ([some (some (A.length + 1)), some (some (A.length + 3)), some (some (A.length + 5)), some (some (A.length + 7)), some (some (A.length + 9)), some (some (A.length + 11)), none, some (some (A.length + 13)), some (some (A.length + 16)), some (some (A.length + 18)), some none])) (L2 := A ++ ([.inr (8, [some (some (A.length + 1)), some (some (A.length + 3)), some (some (A.length + 5)), some (some (A.length + 7)), some (some (A.length + 9)), some (some (A.length + 11)), none, some (some (A.length + 13)), some (some (A.length + 16)), some (some (A.length + 18)), some (some (A.length + 20))]), .inr (6, [some (some (A.length + 2))]), .inl 224, .inr (6, [some (some (A.length + 4))]), .inl 224, .inr (6, [some (some (A.length + 6))]), .inl 28, .inr (6, [some (some (A.length + 8))]), .inl 28, .inr (6, [some (some (A.length + 10))]), .inl 28, .inr (6, [some (some (A.length + 12))]), .inl 28, .inr (5, [some (some (A.length + 14))]), .inr (6, [some (some (A.length + 15))]), .inl 16, .inr (6, [some (some (A.length + 17))]), .inl 8, .inr (6, [some (some (A.length + 19))]), .inl 8, .inr (6, [some (some (A.length + 21))]), .inl 64] : qm_L)) (pc2 := 139) rfl rfl rfl (gA _) ⟨_, rfl⟩ (by rw [hl20]; exact sA _ _) ?_
  refine st_one (i := .return_) (n := 1) (ts := []) rfl ?_
  exact hK _ fr1
theorem s_init_Mat {A : qm_L} {d : Nat} {K : qm_K} {M : qm_M} (hz : ∀ c x, A.length ≤ c → M c x = 0) (hK : ∀ M2 : qm_M, (∀ c, c < A.length ∨ A.length + 9 ≤ c → M2 c = M c) → K (.inl 0) (A ++ ([.inr (4, [some (some (A.length + 1)), none, some (some (A.length + 3)), some (some (A.length + 6))]), .inr (6, [some (some (A.length + 2))]), .inl 4096, .inr (5, [some (some (A.length + 4))]), .inr (6, [some (some (A.length + 5))]), .inl 16, .inr (5, [some (some (A.length + 7))]), .inr (6, [some (some (A.length + 8))]), .inl 16] : qm_L)) M2) : qm_Runs qm_P (d + 3) 38 [(.inr (some A.length))] (A ++ ([.inr (4, [some none, none, some none, some none])] : qm_L)) M K := by
  refine And.intro (Nat.le_of_ble_eq_true rfl) (show qm_TT qi_38 (qm_Runs qm_P (d + 2)) K 0 [some (.inr (some A.length))] [] (A ++ ([.inr (4, [some none, none, some none, some none])] : qm_L)) M 0 0 from ?_)
  have hzA := hz
  have own0 : ∀ x, M A.length x = 0 := fun x => hz A.length x (Nat.le_refl _)
  have fr0 : ∀ c, c < A.length ∨ A.length + 9 ≤ c → M c = M c := fun _ _ => rfl
  refine st_one (i := .aload_n 0) (n := 1) (ts := []) rfl ?_
  show qm_TT qi_38 (qm_Runs qm_P (d + 2)) K 1 _ _ _ _ _ _
  refine st_one (i := .invokespecial 3) (n := 3) (ts := []) rfl ?_
  show qm_TT qi_38 (qm_Runs qm_P (d + 2)) K 4 _ _ _ _ _ _
  refine st_one (i := .aload_n 0) (n := 1) (ts := []) rfl ?_
  show qm_TT qi_38 (qm_Runs qm_P (d + 2)) K 5 _ _ _ _ _ _
  have hl1 : (A ++ ([.inr (4, [some none, none, some none, some none])] : qm_L)).length = A.length + 1 := by rw [List.length_append]; rfl
  refine st_new (pc2 := 8) (e := 6) (df := [some none]) (c2 := 1) (s2 := 1) rfl rfl rfl rfl rfl rfl rfl rfl ?_
  rw [qz_id (M := M) (fun x => hzA _ x (by rw [hl1]; omega))]
  refine st_one (i := .dup) (n := 1) (ts := []) rfl ?_
  show qm_TT qi_38 (qm_Runs qm_P (d + 2)) K 9 _ _ _ _ _ _
  refine st_one (i := .sipush 4096) (n := 3) (ts := []) rfl ?_
  show qm_TT qi_38 (qm_Runs qm_P (d + 2)) K 12 _ _ _ _ _ _
  refine st_callp (y := 53) (pc2 := 15) (c2 := 2) (s2 := 4097) rfl rfl rfl rfl rfl rfl rfl rfl rfl rfl rfl rfl ?_
  refine s_init_Row (A := A ++ ([.inr (4, [some none, none, some none, some none])] : qm_L)) (d := d + 1) (n := 4096) (by decide) (fun c x h => hzA c x (by rw [hl1] at h; omega)) ?_
  have hzA : ∀ c x, A.length + 3 ≤ c → M c x = 0 := fun c x h => hzA c x (by omega)
  show qm_TT qi_38 (qm_Runs qm_P (d + 2)) K 15 _ _ _ _ _ _
  refine st_L (L2 := A ++ ([.inr (4, [some none, none, some none, some none]), .inr (6, [some (some (A.length + 2))]), .inl 4096] : qm_L)) (by rw [hl1, List.append_assoc]; rfl) ?_
  refine st_putr (fs := ([some none, none, some none, some none])) (L2 := A ++ ([.inr (4, [some (some (A.length + 1)), none, some none, some none]), .inr (6, [some (some (A.length + 2))]), .inl 4096] : qm_L)) (pc2 := 18) rfl rfl rfl (gA _) ⟨_, rfl⟩ (by rw [hl1]; exact sA _ _) ?_
  refine st_one (i := .aload_n 0) (n := 1) (ts := []) rfl ?_
  show qm_TT qi_38 (qm_Runs qm_P (d + 2)) K 19 _ _ _ _ _ _
  refine st_one (i := .iconst 0) (n := 1) (ts := []) rfl ?_
  show qm_TT qi_38 (qm_Runs qm_P (d + 2)) K 20 _ _ _ _ _ _
  refine st_puti (pc2 := 23) rfl rfl rfl ⟨_, gA _, rfl⟩ ?_
  rw [qu_id (M := M) (own0 1)]
  refine st_one (i := .aload_n 0) (n := 1) (ts := []) rfl ?_
  show qm_TT qi_38 (qm_Runs qm_P (d + 2)) K 24 _ _ _ _ _ _
  have hl3 : (A ++ ([.inr (4, [some (some (A.length + 1)), none, some none, some none]), .inr (6, [some (some (A.length + 2))]), .inl 4096] : qm_L)).length = A.length + 3 := by rw [List.length_append]; rfl
  refine st_new (pc2 := 27) (e := 5) (df := [some none]) (c2 := 3) (s2 := 4098) rfl rfl rfl rfl rfl rfl rfl rfl ?_
  rw [qz_id (M := M) (fun x => hzA _ x (by rw [hl3]; omega))]
  refine st_one (i := .dup) (n := 1) (ts := []) rfl ?_
  show qm_TT qi_38 (qm_Runs qm_P (d + 2)) K 28 _ _ _ _ _ _
  refine st_callp (y := 45) (pc2 := 31) (c2 := 5) (s2 := 8195) rfl rfl rfl rfl rfl rfl rfl rfl rfl rfl rfl rfl ?_
  refine s_init_Pair (A := A ++ ([.inr (4, [some (some (A.length + 1)), none, some none, some none]), .inr (6, [some (some (A.length + 2))]), .inl 4096] : qm_L)) (d := d + 0) (fun c x h => hzA c x (by rw [hl3] at h; omega)) ?_
  intro M1 q1
  have f1 : ∀ c, c < A.length + 3 ∨ A.length + 6 ≤ c → M1 c = M c := fun c h => q1.1 c (by rw [hl3]; omega)
  have x1 := q1.2
  rw [hl3] at x1
  have hzA : ∀ c x, A.length + 6 ≤ c → M1 c x = 0 := fun c x h => by rw [f1 c (Or.inr h)]; exact hzA c x (by omega)
  have own1 : ∀ x, M1 A.length x = 0 := fun x => by rw [f1 A.length (Or.inl (by omega))]; exact own0 x
  have fr1 : ∀ c, c < A.length ∨ A.length + 9 ≤ c → M1 c = M c := fun c h => (f1 c (by omega)).trans (fr0 c h)
  show qm_TT qi_38 (qm_Runs qm_P (d + 2)) K 31 _ _ _ _ _ _
  refine st_L (L2 := A ++ ([.inr (4, [some (some (A.length + 1)), none, some none, some none]), .inr (6, [some (some (A.length + 2))]), .inl 4096, .inr (5, [some (some (A.length + 4))]), .inr (6, [some (some (A.length + 5))]), .inl 16] : qm_L)) (by rw [hl3, List.append_assoc]; rfl) ?_
  refine st_putr (fs := ([some (some (A.length + 1)), none, some none, some none])) (L2 := A ++ ([.inr (4, [some (some (A.length + 1)), none, some (some (A.length + 3)), some none]), .inr (6, [some (some (A.length + 2))]), .inl 4096, .inr (5, [some (some (A.length + 4))]), .inr (6, [some (some (A.length + 5))]), .inl 16] : qm_L)) (pc2 := 34) rfl rfl rfl (gA _) ⟨_, rfl⟩ (by rw [hl3]; exact sA _ _) ?_
  refine st_one (i := .aload_n 0) (n := 1) (ts := []) rfl ?_
  show qm_TT qi_38 (qm_Runs qm_P (d + 2)) K 35 _ _ _ _ _ _
  have hl6 : (A ++ ([.inr (4, [some (some (A.length + 1)), none, some (some (A.length + 3)), some none]), .inr (6, [some (some (A.length + 2))]), .inl 4096, .inr (5, [some (some (A.length + 4))]), .inr (6, [some (some (A.length + 5))]), .inl 16] : qm_L)).length = A.length + 6 := by rw [List.length_append]; rfl
  refine st_new (pc2 := 38) (e := 5) (df := [some none]) (c2 := 6) (s2 := 8196) rfl rfl rfl rfl rfl rfl rfl rfl ?_
  rw [qz_id (M := M1) (fun x => hzA _ x (by rw [hl6]; omega))]
  refine st_one (i := .dup) (n := 1) (ts := []) rfl ?_
  show qm_TT qi_38 (qm_Runs qm_P (d + 2)) K 39 _ _ _ _ _ _
  refine st_callp (y := 45) (pc2 := 42) (c2 := 8) (s2 := 12293) rfl rfl rfl rfl rfl rfl rfl rfl rfl rfl rfl rfl ?_
  refine s_init_Pair (A := A ++ ([.inr (4, [some (some (A.length + 1)), none, some (some (A.length + 3)), some none]), .inr (6, [some (some (A.length + 2))]), .inl 4096, .inr (5, [some (some (A.length + 4))]), .inr (6, [some (some (A.length + 5))]), .inl 16] : qm_L)) (d := d + 0) (fun c x h => hzA c x (by rw [hl6] at h; omega)) ?_
  intro M2 q2
  have f2 : ∀ c, c < A.length + 6 ∨ A.length + 9 ≤ c → M2 c = M1 c := fun c h => q2.1 c (by rw [hl6]; omega)
  have x2 := q2.2
  rw [hl6] at x2
  have hzA : ∀ c x, A.length + 9 ≤ c → M2 c x = 0 := fun c x h => by rw [f2 c (Or.inr h)]; exact hzA c x (by omega)
  have own2 : ∀ x, M2 A.length x = 0 := fun x => by rw [f2 A.length (Or.inl (by omega))]; exact own1 x
  have fr2 : ∀ c, c < A.length ∨ A.length + 9 ≤ c → M2 c = M c := fun c h => (f2 c (by omega)).trans (fr1 c h)
  show qm_TT qi_38 (qm_Runs qm_P (d + 2)) K 42 _ _ _ _ _ _
  refine st_L (L2 := A ++ ([.inr (4, [some (some (A.length + 1)), none, some (some (A.length + 3)), some none]), .inr (6, [some (some (A.length + 2))]), .inl 4096, .inr (5, [some (some (A.length + 4))]), .inr (6, [some (some (A.length + 5))]), .inl 16, .inr (5, [some (some (A.length + 7))]), .inr (6, [some (some (A.length + 8))]), .inl 16] : qm_L)) (by rw [hl6, List.append_assoc]; rfl) ?_
  refine st_putr (fs := ([some (some (A.length + 1)), none, some (some (A.length + 3)), some none])) (L2 := A ++ ([.inr (4, [some (some (A.length + 1)), none, some (some (A.length + 3)), some (some (A.length + 6))]), .inr (6, [some (some (A.length + 2))]), .inl 4096, .inr (5, [some (some (A.length + 4))]), .inr (6, [some (some (A.length + 5))]), .inl 16, .inr (5, [some (some (A.length + 7))]), .inr (6, [some (some (A.length + 8))]), .inl 16] : qm_L)) (pc2 := 45) rfl rfl rfl (gA _) ⟨_, rfl⟩ (by rw [hl6]; exact sA _ _) ?_
  refine st_one (i := .return_) (n := 1) (ts := []) rfl ?_
  exact hK _ fr2
theorem s_init_Img {A : qm_L} {d : Nat} {K : qm_K} {M : qm_M} (hz : ∀ c x, A.length ≤ c → M c x = 0) (hK : ∀ M2 : qm_M, ((∀ c, c < A.length ∨ A.length + 9 ≤ c → M2 c = M c) ∧ M2 A.length 2 = 0) → K (.inl 0) (A ++ ([.inr (2, [some (some (A.length + 1)), some (some (A.length + 6)), none]), .inr (3, [some (some (A.length + 2)), some (some (A.length + 4)), none]), .inr (6, [some (some (A.length + 3))]), .inl 128, .inr (6, [some (some (A.length + 5))]), .inl 128, .inr (5, [some (some (A.length + 7))]), .inr (6, [some (some (A.length + 8))]), .inl 16] : qm_L)) M2) : qm_Runs qm_P (d + 3) 15 [(.inr (some A.length))] (A ++ ([.inr (2, [some none, some none, none])] : qm_L)) M K := by
  refine And.intro (Nat.le_of_ble_eq_true rfl) (show qm_TT qi_15 (qm_Runs qm_P (d + 2)) K 0 [some (.inr (some A.length))] [] (A ++ ([.inr (2, [some none, some none, none])] : qm_L)) M 0 0 from ?_)
  have hzA := hz
  have own0 : ∀ x, M A.length x = 0 := fun x => hz A.length x (Nat.le_refl _)
  have fr0 : ∀ c, c < A.length ∨ A.length + 9 ≤ c → M c = M c := fun _ _ => rfl
  refine st_one (i := .aload_n 0) (n := 1) (ts := []) rfl ?_
  show qm_TT qi_15 (qm_Runs qm_P (d + 2)) K 1 _ _ _ _ _ _
  refine st_one (i := .invokespecial 1) (n := 3) (ts := []) rfl ?_
  show qm_TT qi_15 (qm_Runs qm_P (d + 2)) K 4 _ _ _ _ _ _
  refine st_one (i := .aload_n 0) (n := 1) (ts := []) rfl ?_
  show qm_TT qi_15 (qm_Runs qm_P (d + 2)) K 5 _ _ _ _ _ _
  have hl1 : (A ++ ([.inr (2, [some none, some none, none])] : qm_L)).length = A.length + 1 := by rw [List.length_append]; rfl
  refine st_new (pc2 := 8) (e := 3) (df := [some none, some none, none]) (c2 := 1) (s2 := 3) rfl rfl rfl rfl rfl rfl rfl rfl ?_
  rw [qz_id (M := M) (fun x => hzA _ x (by rw [hl1]; omega))]
  refine st_one (i := .dup) (n := 1) (ts := []) rfl ?_
  show qm_TT qi_15 (qm_Runs qm_P (d + 2)) K 9 _ _ _ _ _ _
  refine st_callp (y := 19) (pc2 := 12) (c2 := 5) (s2 := 8197) rfl rfl rfl rfl rfl rfl rfl rfl rfl rfl rfl rfl ?_
  refine s_init_Lists (A := A ++ ([.inr (2, [some none, some none, none])] : qm_L)) (d := d + 0) (fun c x h => hzA c x (by rw [hl1] at h; omega)) ?_
  have hzA : ∀ c x, A.length + 6 ≤ c → M c x = 0 := fun c x h => hzA c x (by omega)
  show qm_TT qi_15 (qm_Runs qm_P (d + 2)) K 12 _ _ _ _ _ _
  refine st_L (L2 := A ++ ([.inr (2, [some none, some none, none]), .inr (3, [some (some (A.length + 2)), some (some (A.length + 4)), none]), .inr (6, [some (some (A.length + 3))]), .inl 128, .inr (6, [some (some (A.length + 5))]), .inl 128] : qm_L)) (by rw [hl1, List.append_assoc]; rfl) ?_
  refine st_putr (fs := ([some none, some none, none])) (L2 := A ++ ([.inr (2, [some (some (A.length + 1)), some none, none]), .inr (3, [some (some (A.length + 2)), some (some (A.length + 4)), none]), .inr (6, [some (some (A.length + 3))]), .inl 128, .inr (6, [some (some (A.length + 5))]), .inl 128] : qm_L)) (pc2 := 15) rfl rfl rfl (gA _) ⟨_, rfl⟩ (by rw [hl1]; exact sA _ _) ?_
  refine st_one (i := .aload_n 0) (n := 1) (ts := []) rfl ?_
  show qm_TT qi_15 (qm_Runs qm_P (d + 2)) K 16 _ _ _ _ _ _
  have hl6 : (A ++ ([.inr (2, [some (some (A.length + 1)), some none, none]), .inr (3, [some (some (A.length + 2)), some (some (A.length + 4)), none]), .inr (6, [some (some (A.length + 3))]), .inl 128, .inr (6, [some (some (A.length + 5))]), .inl 128] : qm_L)).length = A.length + 6 := by rw [List.length_append]; rfl
  refine st_new (pc2 := 19) (e := 5) (df := [some none]) (c2 := 6) (s2 := 8198) rfl rfl rfl rfl rfl rfl rfl rfl ?_
  rw [qz_id (M := M) (fun x => hzA _ x (by rw [hl6]; omega))]
  refine st_one (i := .dup) (n := 1) (ts := []) rfl ?_
  show qm_TT qi_15 (qm_Runs qm_P (d + 2)) K 20 _ _ _ _ _ _
  refine st_callp (y := 45) (pc2 := 23) (c2 := 8) (s2 := 12295) rfl rfl rfl rfl rfl rfl rfl rfl rfl rfl rfl rfl ?_
  refine s_init_Pair (A := A ++ ([.inr (2, [some (some (A.length + 1)), some none, none]), .inr (3, [some (some (A.length + 2)), some (some (A.length + 4)), none]), .inr (6, [some (some (A.length + 3))]), .inl 128, .inr (6, [some (some (A.length + 5))]), .inl 128] : qm_L)) (d := d + 0) (fun c x h => hzA c x (by rw [hl6] at h; omega)) ?_
  intro M1 q1
  have f1 : ∀ c, c < A.length + 6 ∨ A.length + 9 ≤ c → M1 c = M c := fun c h => q1.1 c (by rw [hl6]; omega)
  have x1 := q1.2
  rw [hl6] at x1
  have hzA : ∀ c x, A.length + 9 ≤ c → M1 c x = 0 := fun c x h => by rw [f1 c (Or.inr h)]; exact hzA c x (by omega)
  have own1 : ∀ x, M1 A.length x = 0 := fun x => by rw [f1 A.length (Or.inl (by omega))]; exact own0 x
  have fr1 : ∀ c, c < A.length ∨ A.length + 9 ≤ c → M1 c = M c := fun c h => (f1 c (by omega)).trans (fr0 c h)
  show qm_TT qi_15 (qm_Runs qm_P (d + 2)) K 23 _ _ _ _ _ _
  refine st_L (L2 := A ++ ([.inr (2, [some (some (A.length + 1)), some none, none]), .inr (3, [some (some (A.length + 2)), some (some (A.length + 4)), none]), .inr (6, [some (some (A.length + 3))]), .inl 128, .inr (6, [some (some (A.length + 5))]), .inl 128, .inr (5, [some (some (A.length + 7))]), .inr (6, [some (some (A.length + 8))]), .inl 16] : qm_L)) (by rw [hl6, List.append_assoc]; rfl) ?_
  refine st_putr (fs := ([some (some (A.length + 1)), some none, none])) (L2 := A ++ ([.inr (2, [some (some (A.length + 1)), some (some (A.length + 6)), none]), .inr (3, [some (some (A.length + 2)), some (some (A.length + 4)), none]), .inr (6, [some (some (A.length + 3))]), .inl 128, .inr (6, [some (some (A.length + 5))]), .inl 128, .inr (5, [some (some (A.length + 7))]), .inr (6, [some (some (A.length + 8))]), .inl 16] : qm_L)) (pc2 := 26) rfl rfl rfl (gA _) ⟨_, rfl⟩ (by rw [hl6]; exact sA _ _) ?_
  refine st_one (i := .aload_n 0) (n := 1) (ts := []) rfl ?_
  show qm_TT qi_15 (qm_Runs qm_P (d + 2)) K 27 _ _ _ _ _ _
  refine st_one (i := .iconst 0) (n := 1) (ts := []) rfl ?_
  show qm_TT qi_15 (qm_Runs qm_P (d + 2)) K 28 _ _ _ _ _ _
  refine st_putib (pc2 := 31) rfl rfl rfl ⟨_, gA _, rfl⟩ ?_
  rw [qu_id (M := M1) (own1 2)]
  refine st_one (i := .return_) (n := 1) (ts := []) rfl ?_
  exact hK _ ⟨fr1, own1 2⟩
