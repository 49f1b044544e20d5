/-! what is made: the layout grows -/
theorem gA {A B : qm_L} (x : qm_E) : (A ++ (x :: B))[A.length]? = some x := by
  rw [List.getElem?_append_right (Nat.le_refl _), Nat.sub_self]
  rfl
theorem sA {A B : qm_L} (x y : qm_E) : (A ++ (x :: B)).set A.length y = A ++ (y :: B) := by
  rw [List.set_append_right _ _ (Nat.le_refl _), Nat.sub_self]
  rfl
theorem qz_id {M : qm_M} {o : Nat} (h : ∀ x, M o x = 0) : qm_z M o = M := by
  funext a b
  unfold qm_z
  split
  · rename_i q; rw [q, h]
  · rfl
theorem qu_id {M : qm_M} {o k : Nat} (h : M o k = 0) : qm_u M o k 0 = M := by
  funext a b
  unfold qm_u
  split
  · split
    · rename_i q1 q2; rw [q1, q2, h]
    · rfl
  · rfl
section ST
variable {P : Nat → qm_MI × Nat} {d : Nat} {mi : qm_MI} {Q : qm_K} {ls : List (Option qm_V)} {st : List qm_V} {L L2 : qm_L} {M : qm_M} {pc pc2 c s c2 s2 idx n e k o f m y na dc ds rc : Nat} {ts : List Nat} {df fs : List (Option (Option Nat))}
theorem st_L (h : L = L2) (q : qm_TT mi (qm_Runs P d) Q pc ls st L2 M c s) : qm_TT mi (qm_Runs P d) Q pc ls st L M c s := by rw [h]; exact q
theorem st_one {i : Instr} (h : qm_lk pc mi.2.1 = some (i, n, ts)) (q : qm_ins mi (qm_Runs P d) Q (qm_TT mi (qm_Runs P d) Q) i n ts pc ls st L M c s) : qm_TT mi (qm_Runs P d) Q pc ls st L M c s := by
  refine qm_TT_fix (qm_Runs_m P d) ?_
  unfold qm_one
  rw [h]
  exact q
theorem st_new (h : qm_lk pc mi.2.1 = some (.new idx, n, ts)) (h2 : qm_lk idx mi.1.2.1 = some e) (hp : pc + n = pc2) (hd : qm_df.getD e [] = df) (hc : c + 1 = c2) (hs : s + df.length = s2) (b1 : Nat.ble c2 mi.2.2.2.1 = true) (b2 : Nat.ble s2 mi.2.2.2.2.1 = true) (q : qm_TT mi (qm_Runs P d) Q pc2 ls (.inr (some L.length) :: st) (L ++ [.inr (e, df)]) (qm_z M L.length) c2 s2) : qm_TT mi (qm_Runs P d) Q pc ls st L M c s := by
  subst hp hd hc hs
  refine st_one h ?_
  unfold qm_ins
  simp only [h2, b1, b2, Bool.and_self, cond_true]
  exact q
theorem st_newa (h : qm_lk pc mi.2.1 = some (.newarray .int, n, ts)) (hp : pc + n = pc2) (hm : Nat.ble m 100000 = true) (hc : c + 1 = c2) (hs : s + m = s2) (b1 : Nat.ble c2 mi.2.2.2.1 = true) (b2 : Nat.ble s2 mi.2.2.2.2.1 = true) (q : qm_TT mi (qm_Runs P d) Q pc2 ls (.inr (some L.length) :: st) (L ++ [.inl m]) (qm_z M L.length) c2 s2) : qm_TT mi (qm_Runs P d) Q pc ls (.inl (Int.ofNat m) :: st) L M c s := by
  subst hp hc hs
  refine st_one h ?_
  unfold qm_ins
  exact ⟨hm, b1, b2, q⟩
theorem st_callp {rest : List qm_V} {o : Nat} {a2 : List qm_V} (h : qm_lk pc mi.2.1 = some (.invokespecial idx, n, ts)) (h2 : qm_lk idx mi.1.2.2 = some (y, na, 98, 0, dc, ds)) (hp : pc + n = pc2) (hy : Nat.ble 9990 y = false) (hc : c + dc = c2) (hs : s + ds = s2) (b1 : Nat.ble c2 mi.2.2.2.1 = true) (b2 : Nat.ble s2 mi.2.2.2.2.1 = true) (ha : (st.take na).reverse = .inr (some o) :: a2) (hr : st.drop na = rest) (hl : Nat.ble rest.length 8 = true) (hn : Nat.beq (st.take na).length na = true) (q : qm_Runs P d y (.inr (some o) :: a2) L M (fun _ L' M' => qm_TT mi (qm_Runs P d) Q pc2 ls rest L' M' c2 s2)) : qm_TT mi (qm_Runs P d) Q pc ls st L M c s := by
  subst hp hc hs hr
  refine st_one h ?_
  unfold qm_ins
  simp only [h2]
  unfold qm_call
  simp only [hy, b1, b2, hl, hn, Bool.and_self, cond_true, cond_false, ha]
  exact ⟨trivial, q⟩
theorem st_callv {a rest : List qm_V} {o : Nat} {a2 : List qm_V} (h : qm_lk pc mi.2.1 = some (.invokevirtual idx, n, ts)) (h2 : qm_lk idx mi.1.2.2 = some (y, na, rc, 0, dc, ds)) (hp : pc + n = pc2) (hr8 : Nat.beq rc 98 = false) (hy : Nat.ble 9990 y = false) (hc : c + dc = c2) (hs : s + ds = s2) (b1 : Nat.ble c2 mi.2.2.2.1 = true) (b2 : Nat.ble s2 mi.2.2.2.2.1 = true) (ha : (st.take na).reverse = .inr (some o) :: a2) (hr : st.drop na = rest) (hl : Nat.ble rest.length 8 = true) (hn : Nat.beq (st.take na).length na = true) (hi : qm_isO L o rc) (q : qm_Runs P d y (.inr (some o) :: a2) L M (fun _ L' M' => qm_TT mi (qm_Runs P d) Q pc2 ls rest L' M' c2 s2)) : qm_TT mi (qm_Runs P d) Q pc ls st L M c s := by
  subst hp hc hs hr
  refine st_one h ?_
  unfold qm_ins
  simp only [h2]
  unfold qm_call
  simp only [hy, b1, b2, hl, hn, Bool.and_self, cond_true, cond_false, ha, hr8]
  exact ⟨hi, q⟩
theorem st_putr (h : qm_lk pc mi.2.1 = some (.putfield idx, n, ts)) (h2 : qm_lk idx mi.1.1 = some (e, k, 2)) (hp : pc + n = pc2) (hL : L[o]? = some (.inr (e, fs))) (hg : ∃ g, fs[k]? = some (some g)) (hL2 : L.set o (.inr (e, fs.set k (some (some f)))) = L2) (q : qm_TT mi (qm_Runs P d) Q pc2 ls st L2 M c s) : qm_TT mi (qm_Runs P d) Q pc ls (.inr (some f) :: .inr (some o) :: st) L M c s := by
  subst hp hL2
  refine st_one h ?_
  unfold qm_ins
  simp only [h2]
  exact ⟨fs, hL, hg, q⟩
theorem st_puti {v : Int} (h : qm_lk pc mi.2.1 = some (.putfield idx, n, ts)) (h2 : qm_lk idx mi.1.1 = some (e, k, 0)) (hp : pc + n = pc2) (hi : qm_isI L o e k) (q : qm_TT mi (qm_Runs P d) Q pc2 ls st L (qm_u M o k v) c s) : qm_TT mi (qm_Runs P d) Q pc ls (.inl v :: .inr (some o) :: st) L M c s := by
  subst hp
  refine st_one h ?_
  unfold qm_ins
  simp only [h2]
  exact ⟨hi, q⟩
theorem st_putib (h : qm_lk pc mi.2.1 = some (.putfield idx, n, ts)) (h2 : qm_lk idx mi.1.1 = some (e, k, 1)) (hp : pc + n = pc2) (hi : qm_isI L o e k) (q : qm_TT mi (qm_Runs P d) Q pc2 ls st L (qm_u M o k 0) c s) : qm_TT mi (qm_Runs P d) Q pc ls (.inl 0 :: .inr (some o) :: st) L M c s := by
  subst hp
  refine st_one h ?_
  unfold qm_ins
  simp only [h2]
  exact ⟨Or.inl trivial, hi, q⟩
theorem st_getr (h : qm_lk pc mi.2.1 = some (.getfield idx, n, ts)) (h2 : qm_lk idx mi.1.1 = some (e, k, 2)) (hp : pc + n = pc2) (hi : qm_isF L o e k f) (q : qm_TT mi (qm_Runs P d) Q pc2 ls (.inr (some f) :: st) L M c s) : qm_TT mi (qm_Runs P d) Q pc ls (.inr (some o) :: st) L M c s := by
  subst hp
  refine st_one h ?_
  unfold qm_ins
  simp only [h2]
  exact ⟨f, hi, q⟩
end ST
theorem s_init_Row {A : qm_L} {n : Nat} {d : Nat} {K : qm_K} {M : qm_M} (hn : n ≤ 4096) (hz : ∀ c x, A.length ≤ c → M c x = 0) (hK : K (.inl 0) (A ++ ([.inr (6, [some (some (A.length + 1))]), .inl n] : qm_L)) M) : qm_Runs qm_P (d + 1) 53 [(.inr (some A.length)), (.inl (n : Int))] (A ++ ([.inr (6, [some none])] : qm_L)) M K := by
  refine And.intro (Nat.le_of_ble_eq_true rfl) (show qm_TT qi_53 (qm_Runs qm_P (d + 0)) K 0 [some (.inr (some A.length)), some (.inl (n : Int))] [] (A ++ ([.inr (6, [some none])] : qm_L)) M 0 0 from qm_wp_TT [] 12 ?_)
  refine And.intro (fun _ => ?_) (fun h => absurd (show (0 : Int) ≤ (n : Int) by omega) h)
  refine And.intro (Nat.ble_eq_true_of_le (show n ≤ 100000 by omega)) (And.intro rfl (And.intro (Nat.ble_eq_true_of_le (show 0 + n ≤ 4096 by omega)) ?_))
  have e1 : (A ++ ([.inr (6, [some none])] : qm_L)) ++ ([.inl n] : qm_L) = A ++ ([.inr (6, [some none]), .inl n] : qm_L) := List.append_assoc _ _ _
  have e2 : (A ++ ([.inr (6, [some none])] : qm_L)).length = A.length + 1 := by rw [List.length_append]; rfl
  have e3 : qm_z M (A ++ ([.inr (6, [some none])] : qm_L)).length = M := qz_id (fun x => hz _ x (by rw [e2]; omega))
  have e4 : (A ++ ([.inr (6, [some none]), .inl n] : qm_L)).set A.length (.inr (6, [some (some (A.length + 1))])) = A ++ ([.inr (6, [some (some (A.length + 1))]), .inl n] : qm_L) := sA _ _
  refine ⟨[some none], ?_, ⟨_, rfl⟩, ?_⟩
  · refine Eq.trans (congrArg (fun L : qm_L => L[A.length]?) e1) ?_
    exact gA _
  · have h3 : K (.inl 0) (((A ++ ([.inr (6, [some none])] : qm_L)) ++ ([.inl n] : qm_L)).set A.length (.inr (6, [some (some (A ++ ([.inr (6, [some none])] : qm_L)).length)]))) (qm_z M (A ++ ([.inr (6, [some none])] : qm_L)).length) := by
      rw [e3, e1, e2, e4]
      exact hK
    exact h3
theorem s_init_Tape {A : qm_L} {d : Nat} {K : qm_K} {M : qm_M} (hz : ∀ c x, A.length ≤ c → M c x = 0) (hK : K (.inl 0) (A ++ ([.inr (7, [some (some (A.length + 1)), none]), .inr (6, [some (some (A.length + 2))]), .inl 120] : qm_L)) M) : qm_Runs qm_P (d + 2) 58 [(.inr (some A.length))] (A ++ ([.inr (7, [some none, none])] : qm_L)) M K := by
  refine And.intro (Nat.le_of_ble_eq_true rfl) (show qm_TT qi_58 (qm_Runs qm_P (d + 1)) K 0 [some (.inr (some A.length))] [] (A ++ ([.inr (7, [some none, none])] : qm_L)) M 0 0 from ?_)
  have hzA := hz
  refine st_one (i := .aload_n 0) (n := 1) (ts := []) rfl ?_
  show qm_TT qi_58 (qm_Runs qm_P (d + 1)) K 1 _ _ _ _ _ _
  refine st_one (i := .invokespecial 3) (n := 3) (ts := []) rfl ?_
  show qm_TT qi_58 (qm_Runs qm_P (d + 1)) K 4 _ _ _ _ _ _
  refine st_one (i := .aload_n 0) (n := 1) (ts := []) rfl ?_
  show qm_TT qi_58 (qm_Runs qm_P (d + 1)) K 5 _ _ _ _ _ _
  have hl1 : (A ++ ([.inr (7, [some none, none])] : qm_L)).length = A.length + 1 := by rw [List.length_append]; rfl
  refine st_new (pc2 := 8) (e := 6) (df := [some none]) (c2 := 1) (s2 := 1) rfl rfl rfl rfl rfl rfl rfl rfl ?_
  rw [qz_id (M := M) (fun x => hzA _ x (by rw [hl1]; omega))]
  refine st_one (i := .dup) (n := 1) (ts := []) rfl ?_
  show qm_TT qi_58 (qm_Runs qm_P (d + 1)) K 9 _ _ _ _ _ _
  refine st_one (i := .bipush 120) (n := 2) (ts := []) rfl ?_
  show qm_TT qi_58 (qm_Runs qm_P (d + 1)) K 11 _ _ _ _ _ _
  refine st_callp (y := 53) (pc2 := 14) (c2 := 2) (s2 := 4097) rfl rfl rfl rfl rfl rfl rfl rfl rfl rfl rfl rfl ?_
  refine s_init_Row (A := A ++ ([.inr (7, [some none, none])] : qm_L)) (d := d + 0) (n := 120) (by decide) (fun c x h => hzA c x (by rw [hl1] at h; omega)) ?_
  have hzA : ∀ c x, A.length + 3 ≤ c → M c x = 0 := fun c x h => hzA c x (by omega)
  show qm_TT qi_58 (qm_Runs qm_P (d + 1)) K 14 _ _ _ _ _ _
  refine st_L (L2 := A ++ ([.inr (7, [some none, none]), .inr (6, [some (some (A.length + 2))]), .inl 120] : qm_L)) (by rw [hl1, List.append_assoc]; rfl) ?_
  refine st_putr (fs := [some none, none]) (L2 := A ++ ([.inr (7, [some (some (A.length + 1)), none]), .inr (6, [some (some (A.length + 2))]), .inl 120] : qm_L)) (pc2 := 17) rfl rfl rfl (gA _) ⟨_, rfl⟩ (by rw [hl1]; exact sA _ _) ?_
  refine st_one (i := .aload_n 0) (n := 1) (ts := []) rfl ?_
  show qm_TT qi_58 (qm_Runs qm_P (d + 1)) K 18 _ _ _ _ _ _
  refine st_one (i := .iconst 0) (n := 1) (ts := []) rfl ?_
  show qm_TT qi_58 (qm_Runs qm_P (d + 1)) K 19 _ _ _ _ _ _
  refine st_puti (pc2 := 22) rfl rfl rfl ⟨_, gA _, rfl⟩ ?_
  rw [qu_id (M := M) (by exact hz A.length 1 (Nat.le_refl _))]
  refine st_one (i := .return_) (n := 1) (ts := []) rfl ?_
  exact hK
theorem s_init_Lists {A : qm_L} {d : Nat} {K : qm_K} {M : qm_M} (hz : ∀ c x, A.length ≤ c → M c x = 0) (hK : K (.inl 0) (A ++ ([.inr (3, [some (some (A.length + 1)), some (some (A.length + 3)), none]), .inr (6, [some (some (A.length + 2))]), .inl 128, .inr (6, [some (some (A.length + 4))]), .inl 128] : qm_L)) M) : qm_Runs qm_P (d + 2) 19 [(.inr (some A.length))] (A ++ ([.inr (3, [some none, some none, none])] : qm_L)) M K := by
  refine And.intro (Nat.le_of_ble_eq_true rfl) (show qm_TT qi_19 (qm_Runs qm_P (d + 1)) K 0 [some (.inr (some A.length))] [] (A ++ ([.inr (3, [some none, some none, none])] : qm_L)) M 0 0 from ?_)
  have hzA := hz
  refine st_one (i := .aload_n 0) (n := 1) (ts := []) rfl ?_
  show qm_TT qi_19 (qm_Runs qm_P (d + 1)) K 1 _ _ _ _ _ _
  refine st_one (i := .invokespecial 3) (n := 3) (ts := []) rfl ?_
  show qm_TT qi_19 (qm_Runs qm_P (d + 1)) K 4 _ _ _ _ _ _
  refine st_one (i := .aload_n 0) (n := 1) (ts := []) rfl ?_
  show qm_TT qi_19 (qm_Runs qm_P (d + 1)) K 5 _ _ _ _ _ _
  have hl1 : (A ++ ([.inr (3, [some none, some none, none])] : qm_L)).length = A.length + 1 := by rw [List.length_append]; rfl
  refine st_new (pc2 := 8) (e := 6) (df := [some none]) (c2 := 1) (s2 := 1) rfl rfl rfl rfl rfl rfl rfl rfl ?_
  rw [qz_id (M := M) (fun x => hzA _ x (by rw [hl1]; omega))]
  refine st_one (i := .dup) (n := 1) (ts := []) rfl ?_
  show qm_TT qi_19 (qm_Runs qm_P (d + 1)) K 9 _ _ _ _ _ _
  refine st_one (i := .sipush 128) (n := 3) (ts := []) rfl ?_
  show qm_TT qi_19 (qm_Runs qm_P (d + 1)) K 12 _ _ _ _ _ _
  refine st_callp (y := 53) (pc2 := 15) (c2 := 2) (s2 := 4097) rfl rfl rfl rfl rfl rfl rfl rfl rfl rfl rfl rfl ?_
  refine s_init_Row (A := A ++ ([.inr (3, [some none, some none, none])] : qm_L)) (d := d + 0) (n := 128) (by decide) (fun c x h => hzA c x (by rw [hl1] at h; omega)) ?_
  have hzA : ∀ c x, A.length + 3 ≤ c → M c x = 0 := fun c x h => hzA c x (by omega)
  show qm_TT qi_19 (qm_Runs qm_P (d + 1)) K 15 _ _ _ _ _ _
  refine st_L (L2 := A ++ ([.inr (3, [some none, some none, none]), .inr (6, [some (some (A.length + 2))]), .inl 128] : qm_L)) (by rw [hl1, List.append_assoc]; rfl) ?_
  refine st_putr (fs := [some none, some none, none]) (L2 := A ++ ([.inr (3, [some (some (A.length + 1)), some none, none]), .inr (6, [some (some (A.length + 2))]), .inl 128] : qm_L)) (pc2 := 18) rfl rfl rfl (gA _) ⟨_, rfl⟩ (by rw [hl1]; exact sA _ _) ?_
  refine st_one (i := .aload_n 0) (n := 1) (ts := []) rfl ?_
  show qm_TT qi_19 (qm_Runs qm_P (d + 1)) K 19 _ _ _ _ _ _
  have hl3 : (A ++ ([.inr (3, [some (some (A.length + 1)), some none, none]), .inr (6, [some (some (A.length + 2))]), .inl 128] : qm_L)).length = A.length + 3 := by rw [List.length_append]; rfl
  refine st_new (pc2 := 22) (e := 6) (df := [some none]) (c2 := 3) (s2 := 4098) rfl rfl rfl rfl rfl rfl rfl rfl ?_
  rw [qz_id (M := M) (fun x => hzA _ x (by rw [hl3]; omega))]
  refine st_one (i := .dup) (n := 1) (ts := []) rfl ?_
  show qm_TT qi_19 (qm_Runs qm_P (d + 1)) K 23 _ _ _ _ _ _
  refine st_one (i := .sipush 128) (n := 3) (ts := []) rfl ?_
  show qm_TT qi_19 (qm_Runs qm_P (d + 1)) K 26 _ _ _ _ _ _
  refine st_callp (y := 53) (pc2 := 29) (c2 := 4) (s2 := 8194) rfl rfl rfl rfl rfl rfl rfl rfl rfl rfl rfl rfl ?_
  refine s_init_Row (A := A ++ ([.inr (3, [some (some (A.length + 1)), some none, none]), .inr (6, [some (some (A.length + 2))]), .inl 128] : qm_L)) (d := d + 0) (n := 128) (by decide) (fun c x h => hzA c x (by rw [hl3] at h; omega)) ?_
  have hzA : ∀ c x, A.length + 5 ≤ c → M c x = 0 := fun c x h => hzA c x (by omega)
  show qm_TT qi_19 (qm_Runs qm_P (d + 1)) K 29 _ _ _ _ _ _
  refine st_L (L2 := A ++ ([.inr (3, [some (some (A.length + 1)), some none, none]), .inr (6, [some (some (A.length + 2))]), .inl 128, .inr (6, [some (some (A.length + 4))]), .inl 128] : qm_L)) (by rw [hl3, List.append_assoc]; rfl) ?_
  refine st_putr (fs := [some (some (A.length + 1)), some none, none]) (L2 := A ++ ([.inr (3, [some (some (A.length + 1)), some (some (A.length + 3)), none]), .inr (6, [some (some (A.length + 2))]), .inl 128, .inr (6, [some (some (A.length + 4))]), .inl 128] : qm_L)) (pc2 := 32) rfl rfl rfl (gA _) ⟨_, rfl⟩ (by rw [hl3]; exact sA _ _) ?_
  refine st_one (i := .aload_n 0) (n := 1) (ts := []) rfl ?_
  show qm_TT qi_19 (qm_Runs qm_P (d + 1)) K 33 _ _ _ _ _ _
  refine st_one (i := .iconst 0) (n := 1) (ts := []) rfl ?_
  show qm_TT qi_19 (qm_Runs qm_P (d + 1)) K 34 _ _ _ _ _ _
  refine st_puti (pc2 := 37) rfl rfl rfl ⟨_, gA _, rfl⟩ ?_
  rw [qu_id (M := M) (by exact hz A.length 2 (Nat.le_refl _))]
  refine st_one (i := .return_) (n := 1) (ts := []) rfl ?_
  exact hK
theorem s_init_Hist {A : qm_L} {d : Nat} {K : qm_K} {M : qm_M} (hz : ∀ c x, A.length ≤ c → M c x = 0) (hK : K (.inl 0) (A ++ ([.inr (1, [some (some (A.length + 1)), none, none, none]), .inr (6, [some (some (A.length + 2))]), .inl 1664] : qm_L)) M) : qm_Runs qm_P (d + 2) 7 [(.inr (some A.length))] (A ++ ([.inr (1, [some none, none, none, none])] : qm_L)) M K := by
  refine And.intro (Nat.le_of_ble_eq_true rfl) (show qm_TT qi_7 (qm_Runs qm_P (d + 1)) K 0 [some (.inr (some A.length))] [] (A ++ ([.inr (1, [some none, none, none, none])] : qm_L)) M 0 0 from ?_)
  have hzA := hz
  refine st_one (i := .aload_n 0) (n := 1) (ts := []) rfl ?_
  show qm_TT qi_7 (qm_Runs qm_P (d + 1)) K 1 _ _ _ _ _ _
  refine st_one (i := .invokespecial 3) (n := 3) (ts := []) rfl ?_
  show qm_TT qi_7 (qm_Runs qm_P (d + 1)) K 4 _ _ _ _ _ _
  refine st_one (i := .aload_n 0) (n := 1) (ts := []) rfl ?_
  show qm_TT qi_7 (qm_Runs qm_P (d + 1)) K 5 _ _ _ _ _ _
  have hl1 : (A ++ ([.inr (1, [some none, none, none, none])] : qm_L)).length = A.length + 1 := by rw [List.length_append]; rfl
  refine st_new (pc2 := 8) (e := 6) (df := [some none]) (c2 := 1) (s2 := 1) rfl rfl rfl rfl rfl rfl rfl rfl ?_
  rw [qz_id (M := M) (fun x => hzA _ x (by rw [hl1]; omega))]
  refine st_one (i := .dup) (n := 1) (ts := []) rfl ?_
  show qm_TT qi_7 (qm_Runs qm_P (d + 1)) K 9 _ _ _ _ _ _
  refine st_one (i := .sipush 1664) (n := 3) (ts := []) rfl ?_
  show qm_TT qi_7 (qm_Runs qm_P (d + 1)) K 12 _ _ _ _ _ _
  refine st_callp (y := 53) (pc2 := 15) (c2 := 2) (s2 := 4097) rfl rfl rfl rfl rfl rfl rfl rfl rfl rfl rfl rfl ?_
  refine s_init_Row (A := A ++ ([.inr (1, [some none, none, none, none])] : qm_L)) (d := d + 0) (n := 1664) (by decide) (fun c x h => hzA c x (by rw [hl1] at h; omega)) ?_
  have hzA : ∀ c x, A.length + 3 ≤ c → M c x = 0 := fun c x h => hzA c x (by omega)
  show qm_TT qi_7 (qm_Runs qm_P (d + 1)) K 15 _ _ _ _ _ _
  refine st_L (L2 := A ++ ([.inr (1, [some none, none, none, none]), .inr (6, [some (some (A.length + 2))]), .inl 1664] : qm_L)) (by rw [hl1, List.append_assoc]; rfl) ?_
  refine st_putr (fs := [some none, none, none, none]) (L2 := A ++ ([.inr (1, [some (some (A.length + 1)), none, none, none]), .inr (6, [some (some (A.length + 2))]), .inl 1664] : qm_L)) (pc2 := 18) rfl rfl rfl (gA _) ⟨_, rfl⟩ (by rw [hl1]; exact sA _ _) ?_
  refine st_one (i := .aload_n 0) (n := 1) (ts := []) rfl ?_
  show qm_TT qi_7 (qm_Runs qm_P (d + 1)) K 19 _ _ _ _ _ _
  refine st_one (i := .iconst 0) (n := 1) (ts := []) rfl ?_
  show qm_TT qi_7 (qm_Runs qm_P (d + 1)) K 20 _ _ _ _ _ _
  refine st_puti (pc2 := 23) rfl rfl rfl ⟨_, gA _, rfl⟩ ?_
  rw [qu_id (M := M) (by exact hz A.length 1 (Nat.le_refl _))]
  refine st_one (i := .aload_n 0) (n := 1) (ts := []) rfl ?_
  show qm_TT qi_7 (qm_Runs qm_P (d + 1)) K 24 _ _ _ _ _ _
  refine st_one (i := .iconst 0) (n := 1) (ts := []) rfl ?_
  show qm_TT qi_7 (qm_Runs qm_P (d + 1)) K 25 _ _ _ _ _ _
  refine st_puti (pc2 := 28) rfl rfl rfl ⟨_, gA _, rfl⟩ ?_
  rw [qu_id (M := M) (by exact hz A.length 2 (Nat.le_refl _))]
  refine st_one (i := .aload_n 0) (n := 1) (ts := []) rfl ?_
  show qm_TT qi_7 (qm_Runs qm_P (d + 1)) K 29 _ _ _ _ _ _
  refine st_one (i := .iconst 0) (n := 1) (ts := []) rfl ?_
  show qm_TT qi_7 (qm_Runs qm_P (d + 1)) K 30 _ _ _ _ _ _
  refine st_puti (pc2 := 33) rfl rfl rfl ⟨_, gA _, rfl⟩ ?_
  rw [qu_id (M := M) (by exact hz A.length 3 (Nat.le_refl _))]
  refine st_one (i := .return_) (n := 1) (ts := []) rfl ?_
  exact hK
