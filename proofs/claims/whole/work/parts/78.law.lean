/-! the law -/
def qi_L (n : Nat) (f : Nat → Int) : qm_MI := (qt_L, qc_L, 2, 600000, 7302250, some (n, f))
section LW
variable {P : Nat → qm_MI × Nat} {d : Nat} {mi : qm_MI} {Q : qm_K} {ls : List (Option qm_V)} {st : List qm_V} {L : qm_L} {M : qm_M} {pc pc2 c s n idx y na rc dc ds : Nat} {ts : List Nat}
theorem st_callw {rest : List qm_V} {o : Nat} {a2 : List qm_V} (h : qm_lk pc mi.2.1 = some (.invokevirtual idx, n, ts)) (h2 : qm_lk idx mi.1.2.2 = some (y, na, rc, 1, 0, 0)) (hp : pc + n = pc2) (hr8 : Nat.beq rc 98 = false) (hy : Nat.ble 9990 y = false) (b1 : Nat.ble c mi.2.2.2.1 = true) (b2 : Nat.ble s mi.2.2.2.2.1 = true) (ha : (st.take na).reverse = .inr (some o) :: a2) (hr : st.drop na = rest) (hl : Nat.ble rest.length 8 = true) (hn : Nat.beq (st.take na).length na = true) (hi : qm_isO L o rc) (q : qm_Runs P d y (.inr (some o) :: a2) L M (fun r L' M' => qm_TT mi (qm_Runs P d) Q pc2 ls (r :: rest) L' M' c s)) : qm_TT mi (qm_Runs P d) Q pc ls st L M c s := by
  subst hp hr
  refine st_one h ?_
  unfold qm_ins
  simp only [h2]
  unfold qm_call
  simp only [hy, Nat.add_zero, b1, b2, hl, hn, Bool.and_self, cond_true, cond_false, ha, hr8]
  exact ⟨hi, q⟩
/-- a number of the script -/
theorem st_arg {sn : Nat} {f : Nat → Int} {i : Int} {k : Nat} (hs : mi.2.2.2.2.2 = some (sn, f)) (hls0 : ls[0]? = some (some (.inr none))) (hls3 : ls[3]? = some (some (.inl i))) (h1 : qm_lk pc mi.2.1 = some (.aload_n 0, 1, [])) (h2 : qm_lk (pc + 1) mi.2.1 = some (.iload_n 3, 1, [])) (h3 : qm_lk (pc + 2) mi.2.1 = some (.iconst (k : Int), 1, [])) (h4 : qm_lk (pc + 3) mi.2.1 = some (.iadd, 1, [])) (h5 : qm_lk (pc + 4) mi.2.1 = some (.iaload, 1, [])) (hp : pc + 5 = pc2) (hi : 0 ≤ i ∧ i + (k : Int) < (sn : Int)) (hsn : sn < 2147483648) (q : qm_TT mi (qm_Runs P d) Q pc2 ls (.inl (f (i + (k : Int)).toNat) :: st) L M c s) : qm_TT mi (qm_Runs P d) Q pc ls st L M c s := by
  subst hp
  refine st_one h1 ?_
  unfold qm_ins qm_lr
  simp only [hls0, Fin.isValue, Fin.val_zero]
  refine st_one h2 ?_
  unfold qm_ins qm_li
  simp only [show ((3 : Fin 4) : Nat) = 3 from rfl, hls3]
  refine st_one h3 ?_
  unfold qm_ins
  refine st_one h4 ?_
  unfold qm_ins
  refine ⟨by unfold qm_R; omega, st_one h5 ?_⟩
  unfold qm_ins
  simp only [hs]
  exact ⟨by omega, hi.2, q⟩
end LW
def lwLs (i : Int) : List (Option qm_V) := [some (.inr none), some (.inr (some 0)), some (.inr (some 71)), some (.inl i)]
set_option maxRecDepth 40000 in
theorem lwc_0 {sn : Nat} {f : Nat → Int} {d : Nat} {K : qm_K} {M : qm_M} {i : Int} (hsn : sn < 2147483648) (hi : 0 ≤ i ∧ i + 3 < (sn : Int)) (hM : bI M) (hn : ∀ M2, bI M2 → qm_TT (qi_L sn f) (qm_Runs qm_P (d + 12)) K 1113 (lwLs i) [] (qL qLM) M2 96 118972) : qm_TT (qi_L sn f) (qm_Runs qm_P (d + 12)) K 188 (lwLs i) [] (qL qLM) M 96 118972 := by
  obtain ⟨A, h1, h2⟩ := (j_size (x := f (i + ((1 : Nat) : Int)).toNat)) d M hM
  refine st_one (i := .aload_n 1) (n := 1) (ts := []) rfl ?_
  show qm_TT (qi_L sn f) (qm_Runs qm_P (d + 12)) K 189 _ _ _ _ _ _
  refine st_arg (k := 1) (pc2 := 194) rfl rfl rfl rfl rfl rfl rfl rfl rfl (by omega) (by omega) ?_
  refine st_callw (y := 97) (rc := 9) (pc2 := 197) rfl rfl rfl rfl rfl rfl rfl rfl rfl rfl rfl (lo_0 qLM) ?_
  refine h1 _ (fun r M1 hA => ?_)
  show qm_TT (qi_L sn f) (qm_Runs qm_P (d + 12)) K 197 _ _ _ _ _ _
  refine st_one (i := .aload_n 2) (n := 1) (ts := []) rfl ?_
  show qm_TT (qi_L sn f) (qm_Runs qm_P (d + 12)) K 198 _ _ _ _ _ _
  refine st_arg (k := 1) (pc2 := 203) rfl rfl rfl rfl rfl rfl rfl rfl rfl (by omega) (by omega) ?_
  refine st_callw (y := 151) (rc := 10) (pc2 := 206) rfl rfl rfl rfl rfl rfl rfl rfl rfl rfl rfl (lo_71 ()) ?_
  refine h2 _ _ hA _ (fun M2 hM2 => ?_)
  show qm_TT (qi_L sn f) (qm_Runs qm_P (d + 12)) K 206 _ _ _ _ _ _
  refine st_one (i := .if_icmp .eq 907) (n := 3) (ts := [1113]) rfl ?_
  refine And.intro (fun _ => ?_) (fun hne => absurd (show r = r from rfl) hne)
  exact hn M2 hM2
set_option maxRecDepth 40000 in
theorem lwc_1 {sn : Nat} {f : Nat → Int} {d : Nat} {K : qm_K} {M : qm_M} {i : Int} (hsn : sn < 2147483648) (hi : 0 ≤ i ∧ i + 3 < (sn : Int)) (hM : bI M) (hn : ∀ M2, bI M2 → qm_TT (qi_L sn f) (qm_Runs qm_P (d + 12)) K 1113 (lwLs i) [] (qL qLM) M2 96 118972) : qm_TT (qi_L sn f) (qm_Runs qm_P (d + 12)) K 211 (lwLs i) [] (qL qLM) M 96 118972 := by
  obtain ⟨A, h1, h2⟩ := (j_feed (x := f (i + ((1 : Nat) : Int)).toNat)) d M hM
  refine st_one (i := .aload_n 1) (n := 1) (ts := []) rfl ?_
  show qm_TT (qi_L sn f) (qm_Runs qm_P (d + 12)) K 212 _ _ _ _ _ _
  refine st_arg (k := 1) (pc2 := 217) rfl rfl rfl rfl rfl rfl rfl rfl rfl (by omega) (by omega) ?_
  refine st_callw (y := 98) (rc := 9) (pc2 := 220) rfl rfl rfl rfl rfl rfl rfl rfl rfl rfl rfl (lo_0 qLM) ?_
  refine h1 _ (fun r M1 hA => ?_)
  show qm_TT (qi_L sn f) (qm_Runs qm_P (d + 12)) K 220 _ _ _ _ _ _
  refine st_one (i := .aload_n 2) (n := 1) (ts := []) rfl ?_
  show qm_TT (qi_L sn f) (qm_Runs qm_P (d + 12)) K 221 _ _ _ _ _ _
  refine st_arg (k := 1) (pc2 := 226) rfl rfl rfl rfl rfl rfl rfl rfl rfl (by omega) (by omega) ?_
  refine st_callw (y := 152) (rc := 10) (pc2 := 229) rfl rfl rfl rfl rfl rfl rfl rfl rfl rfl rfl (lo_71 ()) ?_
  refine h2 _ _ hA _ (fun M2 hM2 => ?_)
  show qm_TT (qi_L sn f) (qm_Runs qm_P (d + 12)) K 229 _ _ _ _ _ _
  refine st_one (i := .if_icmp .eq 884) (n := 3) (ts := [1113]) rfl ?_
  refine And.intro (fun _ => ?_) (fun hne => absurd (show r = r from rfl) hne)
  exact hn M2 hM2
set_option maxRecDepth 40000 in
theorem lwc_2 {sn : Nat} {f : Nat → Int} {d : Nat} {K : qm_K} {M : qm_M} {i : Int} (hsn : sn < 2147483648) (hi : 0 ≤ i ∧ i + 3 < (sn : Int)) (hM : bI M) (hn : ∀ M2, bI M2 → qm_TT (qi_L sn f) (qm_Runs qm_P (d + 12)) K 1113 (lwLs i) [] (qL qLM) M2 96 118972) : qm_TT (qi_L sn f) (qm_Runs qm_P (d + 12)) K 234 (lwLs i) [] (qL qLM) M 96 118972 := by
  obtain ⟨A, h1, h2⟩ := (j_lists) d M hM
  refine st_one (i := .aload_n 1) (n := 1) (ts := []) rfl ?_
  show qm_TT (qi_L sn f) (qm_Runs qm_P (d + 12)) K 235 _ _ _ _ _ _
  refine st_callw (y := 99) (rc := 9) (pc2 := 238) rfl rfl rfl rfl rfl rfl rfl rfl rfl rfl rfl (lo_0 qLM) ?_
  refine h1 _ (fun r M1 hA => ?_)
  show qm_TT (qi_L sn f) (qm_Runs qm_P (d + 12)) K 238 _ _ _ _ _ _
  refine st_one (i := .aload_n 2) (n := 1) (ts := []) rfl ?_
  show qm_TT (qi_L sn f) (qm_Runs qm_P (d + 12)) K 239 _ _ _ _ _ _
  refine st_callw (y := 158) (rc := 10) (pc2 := 242) rfl rfl rfl rfl rfl rfl rfl rfl rfl rfl rfl (lo_71 ()) ?_
  refine h2 _ _ hA _ (fun M2 hM2 => ?_)
  show qm_TT (qi_L sn f) (qm_Runs qm_P (d + 12)) K 242 _ _ _ _ _ _
  refine st_one (i := .if_icmp .eq 871) (n := 3) (ts := [1113]) rfl ?_
  refine And.intro (fun _ => ?_) (fun hne => absurd (show r = r from rfl) hne)
  exact hn M2 hM2
set_option maxRecDepth 40000 in
theorem lwc_3 {sn : Nat} {f : Nat → Int} {d : Nat} {K : qm_K} {M : qm_M} {i : Int} (hsn : sn < 2147483648) (hi : 0 ≤ i ∧ i + 3 < (sn : Int)) (hM : bI M) (hn : ∀ M2, bI M2 → qm_TT (qi_L sn f) (qm_Runs qm_P (d + 12)) K 1113 (lwLs i) [] (qL qLM) M2 96 118972) : qm_TT (qi_L sn f) (qm_Runs qm_P (d + 12)) K 247 (lwLs i) [] (qL qLM) M 96 118972 := by
  obtain ⟨A, h1, h2⟩ := (j_list (x := f (i + ((1 : Nat) : Int)).toNat) (y := f (i + ((2 : Nat) : Int)).toNat) (z := f (i + ((3 : Nat) : Int)).toNat)) d M hM
  refine st_one (i := .aload_n 1) (n := 1) (ts := []) rfl ?_
  show qm_TT (qi_L sn f) (qm_Runs qm_P (d + 12)) K 248 _ _ _ _ _ _
  refine st_arg (k := 1) (pc2 := 253) rfl rfl rfl rfl rfl rfl rfl rfl rfl (by omega) (by omega) ?_
  refine st_arg (k := 2) (pc2 := 258) rfl rfl rfl rfl rfl rfl rfl rfl rfl (by omega) (by omega) ?_
  refine st_arg (k := 3) (pc2 := 263) rfl rfl rfl rfl rfl rfl rfl rfl rfl (by omega) (by omega) ?_
  refine st_callw (y := 100) (rc := 9) (pc2 := 266) rfl rfl rfl rfl rfl rfl rfl rfl rfl rfl rfl (lo_0 qLM) ?_
  refine h1 _ (fun r M1 hA => ?_)
  show qm_TT (qi_L sn f) (qm_Runs qm_P (d + 12)) K 266 _ _ _ _ _ _
  refine st_one (i := .aload_n 2) (n := 1) (ts := []) rfl ?_
  show qm_TT (qi_L sn f) (qm_Runs qm_P (d + 12)) K 267 _ _ _ _ _ _
  refine st_arg (k := 1) (pc2 := 272) rfl rfl rfl rfl rfl rfl rfl rfl rfl (by omega) (by omega) ?_
  refine st_arg (k := 2) (pc2 := 277) rfl rfl rfl rfl rfl rfl rfl rfl rfl (by omega) (by omega) ?_
  refine st_arg (k := 3) (pc2 := 282) rfl rfl rfl rfl rfl rfl rfl rfl rfl (by omega) (by omega) ?_
  refine st_callw (y := 159) (rc := 10) (pc2 := 285) rfl rfl rfl rfl rfl rfl rfl rfl rfl rfl rfl (lo_71 ()) ?_
  refine h2 _ _ hA _ (fun M2 hM2 => ?_)
  show qm_TT (qi_L sn f) (qm_Runs qm_P (d + 12)) K 285 _ _ _ _ _ _
  refine st_one (i := .if_icmp .eq 828) (n := 3) (ts := [1113]) rfl ?_
  refine And.intro (fun _ => ?_) (fun hne => absurd (show r = r from rfl) hne)
  exact hn M2 hM2
set_option maxRecDepth 40000 in
theorem lwc_4 {sn : Nat} {f : Nat → Int} {d : Nat} {K : qm_K} {M : qm_M} {i : Int} (hsn : sn < 2147483648) (hi : 0 ≤ i ∧ i + 3 < (sn : Int)) (hM : bI M) (hn : ∀ M2, bI M2 → qm_TT (qi_L sn f) (qm_Runs qm_P (d + 12)) K 1113 (lwLs i) [] (qL qLM) M2 96 118972) : qm_TT (qi_L sn f) (qm_Runs qm_P (d + 12)) K 290 (lwLs i) [] (qL qLM) M 96 118972 := by
  obtain ⟨A, h1, h2⟩ := (j_stir (x := f (i + ((1 : Nat) : Int)).toNat) (y := f (i + ((2 : Nat) : Int)).toNat) (z := f (i + ((3 : Nat) : Int)).toNat)) d M hM
  refine st_one (i := .aload_n 1) (n := 1) (ts := []) rfl ?_
  show qm_TT (qi_L sn f) (qm_Runs qm_P (d + 12)) K 291 _ _ _ _ _ _
  refine st_arg (k := 1) (pc2 := 296) rfl rfl rfl rfl rfl rfl rfl rfl rfl (by omega) (by omega) ?_
  refine st_arg (k := 2) (pc2 := 301) rfl rfl rfl rfl rfl rfl rfl rfl rfl (by omega) (by omega) ?_
  refine st_arg (k := 3) (pc2 := 306) rfl rfl rfl rfl rfl rfl rfl rfl rfl (by omega) (by omega) ?_
  refine st_callw (y := 101) (rc := 9) (pc2 := 309) rfl rfl rfl rfl rfl rfl rfl rfl rfl rfl rfl (lo_0 qLM) ?_
  refine h1 _ (fun r M1 hA => ?_)
  show qm_TT (qi_L sn f) (qm_Runs qm_P (d + 12)) K 309 _ _ _ _ _ _
  refine st_one (i := .aload_n 2) (n := 1) (ts := []) rfl ?_
  show qm_TT (qi_L sn f) (qm_Runs qm_P (d + 12)) K 310 _ _ _ _ _ _
  refine st_arg (k := 1) (pc2 := 315) rfl rfl rfl rfl rfl rfl rfl rfl rfl (by omega) (by omega) ?_
  refine st_arg (k := 2) (pc2 := 320) rfl rfl rfl rfl rfl rfl rfl rfl rfl (by omega) (by omega) ?_
  refine st_arg (k := 3) (pc2 := 325) rfl rfl rfl rfl rfl rfl rfl rfl rfl (by omega) (by omega) ?_
  refine st_callw (y := 162) (rc := 10) (pc2 := 328) rfl rfl rfl rfl rfl rfl rfl rfl rfl rfl rfl (lo_71 ()) ?_
  refine h2 _ _ hA _ (fun M2 hM2 => ?_)
  show qm_TT (qi_L sn f) (qm_Runs qm_P (d + 12)) K 328 _ _ _ _ _ _
  refine st_one (i := .if_icmp .eq 785) (n := 3) (ts := [1113]) rfl ?_
  refine And.intro (fun _ => ?_) (fun hne => absurd (show r = r from rfl) hne)
  exact hn M2 hM2
set_option maxRecDepth 40000 in
theorem lwc_5 {sn : Nat} {f : Nat → Int} {d : Nat} {K : qm_K} {M : qm_M} {i : Int} (hsn : sn < 2147483648) (hi : 0 ≤ i ∧ i + 3 < (sn : Int)) (hM : bI M) (hn : ∀ M2, bI M2 → qm_TT (qi_L sn f) (qm_Runs qm_P (d + 12)) K 1113 (lwLs i) [] (qL qLM) M2 96 118972) : qm_TT (qi_L sn f) (qm_Runs qm_P (d + 12)) K 333 (lwLs i) [] (qL qLM) M 96 118972 := by
  obtain ⟨A, h1, h2⟩ := (j_stirred (x := f (i + ((1 : Nat) : Int)).toNat) (y := f (i + ((2 : Nat) : Int)).toNat) (z := f (i + ((3 : Nat) : Int)).toNat)) d M hM
  refine st_one (i := .aload_n 1) (n := 1) (ts := []) rfl ?_
  show qm_TT (qi_L sn f) (qm_Runs qm_P (d + 12)) K 334 _ _ _ _ _ _
  refine st_arg (k := 1) (pc2 := 339) rfl rfl rfl rfl rfl rfl rfl rfl rfl (by omega) (by omega) ?_
  refine st_arg (k := 2) (pc2 := 344) rfl rfl rfl rfl rfl rfl rfl rfl rfl (by omega) (by omega) ?_
  refine st_arg (k := 3) (pc2 := 349) rfl rfl rfl rfl rfl rfl rfl rfl rfl (by omega) (by omega) ?_
  refine st_callw (y := 102) (rc := 9) (pc2 := 352) rfl rfl rfl rfl rfl rfl rfl rfl rfl rfl rfl (lo_0 qLM) ?_
  refine h1 _ (fun r M1 hA => ?_)
  show qm_TT (qi_L sn f) (qm_Runs qm_P (d + 12)) K 352 _ _ _ _ _ _
  refine st_one (i := .aload_n 2) (n := 1) (ts := []) rfl ?_
  show qm_TT (qi_L sn f) (qm_Runs qm_P (d + 12)) K 353 _ _ _ _ _ _
  refine st_arg (k := 1) (pc2 := 358) rfl rfl rfl rfl rfl rfl rfl rfl rfl (by omega) (by omega) ?_
  refine st_arg (k := 2) (pc2 := 363) rfl rfl rfl rfl rfl rfl rfl rfl rfl (by omega) (by omega) ?_
  refine st_arg (k := 3) (pc2 := 368) rfl rfl rfl rfl rfl rfl rfl rfl rfl (by omega) (by omega) ?_
  refine st_callw (y := 163) (rc := 10) (pc2 := 371) rfl rfl rfl rfl rfl rfl rfl rfl rfl rfl rfl (lo_71 ()) ?_
  refine h2 _ _ hA _ (fun M2 hM2 => ?_)
  show qm_TT (qi_L sn f) (qm_Runs qm_P (d + 12)) K 371 _ _ _ _ _ _
  refine st_one (i := .if_icmp .eq 742) (n := 3) (ts := [1113]) rfl ?_
  refine And.intro (fun _ => ?_) (fun hne => absurd (show r = r from rfl) hne)
  exact hn M2 hM2
set_option maxRecDepth 40000 in
theorem lwc_6 {sn : Nat} {f : Nat → Int} {d : Nat} {K : qm_K} {M : qm_M} {i : Int} (hsn : sn < 2147483648) (hi : 0 ≤ i ∧ i + 3 < (sn : Int)) (hM : bI M) (hn : ∀ M2, bI M2 → qm_TT (qi_L sn f) (qm_Runs qm_P (d + 12)) K 1113 (lwLs i) [] (qL qLM) M2 96 118972) : qm_TT (qi_L sn f) (qm_Runs qm_P (d + 12)) K 376 (lwLs i) [] (qL qLM) M 96 118972 := by
  obtain ⟨A, h1, h2⟩ := (j_undo) d M hM
  refine st_one (i := .aload_n 1) (n := 1) (ts := []) rfl ?_
  show qm_TT (qi_L sn f) (qm_Runs qm_P (d + 12)) K 377 _ _ _ _ _ _
  refine st_callw (y := 103) (rc := 9) (pc2 := 380) rfl rfl rfl rfl rfl rfl rfl rfl rfl rfl rfl (lo_0 qLM) ?_
  refine h1 _ (fun r M1 hA => ?_)
  show qm_TT (qi_L sn f) (qm_Runs qm_P (d + 12)) K 380 _ _ _ _ _ _
  refine st_one (i := .aload_n 2) (n := 1) (ts := []) rfl ?_
  show qm_TT (qi_L sn f) (qm_Runs qm_P (d + 12)) K 381 _ _ _ _ _ _
  refine st_callw (y := 164) (rc := 10) (pc2 := 384) rfl rfl rfl rfl rfl rfl rfl rfl rfl rfl rfl (lo_71 ()) ?_
  refine h2 _ _ hA _ (fun M2 hM2 => ?_)
  show qm_TT (qi_L sn f) (qm_Runs qm_P (d + 12)) K 384 _ _ _ _ _ _
  refine st_one (i := .if_icmp .eq 729) (n := 3) (ts := [1113]) rfl ?_
  refine And.intro (fun _ => ?_) (fun hne => absurd (show r = r from rfl) hne)
  exact hn M2 hM2
set_option maxRecDepth 40000 in
theorem lwc_7 {sn : Nat} {f : Nat → Int} {d : Nat} {K : qm_K} {M : qm_M} {i : Int} (hsn : sn < 2147483648) (hi : 0 ≤ i ∧ i + 3 < (sn : Int)) (hM : bI M) (hn : ∀ M2, bI M2 → qm_TT (qi_L sn f) (qm_Runs qm_P (d + 12)) K 1113 (lwLs i) [] (qL qLM) M2 96 118972) : qm_TT (qi_L sn f) (qm_Runs qm_P (d + 12)) K 389 (lwLs i) [] (qL qLM) M 96 118972 := by
  obtain ⟨A, h1, h2⟩ := (j_redo) d M hM
  refine st_one (i := .aload_n 1) (n := 1) (ts := []) rfl ?_
  show qm_TT (qi_L sn f) (qm_Runs qm_P (d + 12)) K 390 _ _ _ _ _ _
  refine st_callw (y := 104) (rc := 9) (pc2 := 393) rfl rfl rfl rfl rfl rfl rfl rfl rfl rfl rfl (lo_0 qLM) ?_
  refine h1 _ (fun r M1 hA => ?_)
  show qm_TT (qi_L sn f) (qm_Runs qm_P (d + 12)) K 393 _ _ _ _ _ _
  refine st_one (i := .aload_n 2) (n := 1) (ts := []) rfl ?_
  show qm_TT (qi_L sn f) (qm_Runs qm_P (d + 12)) K 394 _ _ _ _ _ _
  refine st_callw (y := 165) (rc := 10) (pc2 := 397) rfl rfl rfl rfl rfl rfl rfl rfl rfl rfl rfl (lo_71 ()) ?_
  refine h2 _ _ hA _ (fun M2 hM2 => ?_)
  show qm_TT (qi_L sn f) (qm_Runs qm_P (d + 12)) K 397 _ _ _ _ _ _
  refine st_one (i := .if_icmp .eq 716) (n := 3) (ts := [1113]) rfl ?_
  refine And.intro (fun _ => ?_) (fun hne => absurd (show r = r from rfl) hne)
  exact hn M2 hM2
set_option maxRecDepth 40000 in
theorem lwc_8 {sn : Nat} {f : Nat → Int} {d : Nat} {K : qm_K} {M : qm_M} {i : Int} (hsn : sn < 2147483648) (hi : 0 ≤ i ∧ i + 3 < (sn : Int)) (hM : bI M) (hn : ∀ M2, bI M2 → qm_TT (qi_L sn f) (qm_Runs qm_P (d + 12)) K 1113 (lwLs i) [] (qL qLM) M2 96 118972) : qm_TT (qi_L sn f) (qm_Runs qm_P (d + 12)) K 402 (lwLs i) [] (qL qLM) M 96 118972 := by
  obtain ⟨A, h1, h2⟩ := (j_best (x := f (i + ((1 : Nat) : Int)).toNat) (y := f (i + ((2 : Nat) : Int)).toNat) (z := f (i + ((3 : Nat) : Int)).toNat)) d M hM
  refine st_one (i := .aload_n 1) (n := 1) (ts := []) rfl ?_
  show qm_TT (qi_L sn f) (qm_Runs qm_P (d + 12)) K 403 _ _ _ _ _ _
  refine st_arg (k := 1) (pc2 := 408) rfl rfl rfl rfl rfl rfl rfl rfl rfl (by omega) (by omega) ?_
  refine st_arg (k := 2) (pc2 := 413) rfl rfl rfl rfl rfl rfl rfl rfl rfl (by omega) (by omega) ?_
  refine st_arg (k := 3) (pc2 := 418) rfl rfl rfl rfl rfl rfl rfl rfl rfl (by omega) (by omega) ?_
  refine st_callw (y := 105) (rc := 9) (pc2 := 421) rfl rfl rfl rfl rfl rfl rfl rfl rfl rfl rfl (lo_0 qLM) ?_
  refine h1 _ (fun r M1 hA => ?_)
  show qm_TT (qi_L sn f) (qm_Runs qm_P (d + 12)) K 421 _ _ _ _ _ _
  refine st_one (i := .aload_n 2) (n := 1) (ts := []) rfl ?_
  show qm_TT (qi_L sn f) (qm_Runs qm_P (d + 12)) K 422 _ _ _ _ _ _
  refine st_arg (k := 1) (pc2 := 427) rfl rfl rfl rfl rfl rfl rfl rfl rfl (by omega) (by omega) ?_
  refine st_arg (k := 2) (pc2 := 432) rfl rfl rfl rfl rfl rfl rfl rfl rfl (by omega) (by omega) ?_
  refine st_arg (k := 3) (pc2 := 437) rfl rfl rfl rfl rfl rfl rfl rfl rfl (by omega) (by omega) ?_
  refine st_callw (y := 170) (rc := 10) (pc2 := 440) rfl rfl rfl rfl rfl rfl rfl rfl rfl rfl rfl (lo_71 ()) ?_
  refine h2 _ _ hA _ (fun M2 hM2 => ?_)
  show qm_TT (qi_L sn f) (qm_Runs qm_P (d + 12)) K 440 _ _ _ _ _ _
  refine st_one (i := .if_icmp .eq 673) (n := 3) (ts := [1113]) rfl ?_
  refine And.intro (fun _ => ?_) (fun hne => absurd (show r = r from rfl) hne)
  exact hn M2 hM2
set_option maxRecDepth 40000 in
theorem lwc_9 {sn : Nat} {f : Nat → Int} {d : Nat} {K : qm_K} {M : qm_M} {i : Int} (hsn : sn < 2147483648) (hi : 0 ≤ i ∧ i + 3 < (sn : Int)) (hM : bI M) (hn : ∀ M2, bI M2 → qm_TT (qi_L sn f) (qm_Runs qm_P (d + 12)) K 1113 (lwLs i) [] (qL qLM) M2 96 118972) : qm_TT (qi_L sn f) (qm_Runs qm_P (d + 12)) K 445 (lwLs i) [] (qL qLM) M 96 118972 := by
  obtain ⟨A, h1, h2⟩ := (j_asking (x := f (i + ((1 : Nat) : Int)).toNat) (y := f (i + ((2 : Nat) : Int)).toNat)) d M hM
  refine st_one (i := .aload_n 1) (n := 1) (ts := []) rfl ?_
  show qm_TT (qi_L sn f) (qm_Runs qm_P (d + 12)) K 446 _ _ _ _ _ _
  refine st_arg (k := 1) (pc2 := 451) rfl rfl rfl rfl rfl rfl rfl rfl rfl (by omega) (by omega) ?_
  refine st_arg (k := 2) (pc2 := 456) rfl rfl rfl rfl rfl rfl rfl rfl rfl (by omega) (by omega) ?_
  refine st_callw (y := 106) (rc := 9) (pc2 := 459) rfl rfl rfl rfl rfl rfl rfl rfl rfl rfl rfl (lo_0 qLM) ?_
  refine h1 _ (fun r M1 hA => ?_)
  show qm_TT (qi_L sn f) (qm_Runs qm_P (d + 12)) K 459 _ _ _ _ _ _
  refine st_one (i := .aload_n 2) (n := 1) (ts := []) rfl ?_
  show qm_TT (qi_L sn f) (qm_Runs qm_P (d + 12)) K 460 _ _ _ _ _ _
  refine st_arg (k := 1) (pc2 := 465) rfl rfl rfl rfl rfl rfl rfl rfl rfl (by omega) (by omega) ?_
  refine st_arg (k := 2) (pc2 := 470) rfl rfl rfl rfl rfl rfl rfl rfl rfl (by omega) (by omega) ?_
  refine st_callw (y := 171) (rc := 10) (pc2 := 473) rfl rfl rfl rfl rfl rfl rfl rfl rfl rfl rfl (lo_71 ()) ?_
  refine h2 _ _ hA _ (fun M2 hM2 => ?_)
  show qm_TT (qi_L sn f) (qm_Runs qm_P (d + 12)) K 473 _ _ _ _ _ _
  refine st_one (i := .if_icmp .eq 640) (n := 3) (ts := [1113]) rfl ?_
  refine And.intro (fun _ => ?_) (fun hne => absurd (show r = r from rfl) hne)
  exact hn M2 hM2
set_option maxRecDepth 40000 in
theorem lwc_10 {sn : Nat} {f : Nat → Int} {d : Nat} {K : qm_K} {M : qm_M} {i : Int} (hsn : sn < 2147483648) (hi : 0 ≤ i ∧ i + 3 < (sn : Int)) (hM : bI M) (hn : ∀ M2, bI M2 → qm_TT (qi_L sn f) (qm_Runs qm_P (d + 12)) K 1113 (lwLs i) [] (qL qLM) M2 96 118972) : qm_TT (qi_L sn f) (qm_Runs qm_P (d + 12)) K 478 (lwLs i) [] (qL qLM) M 96 118972 := by
  obtain ⟨A, h1, h2⟩ := (j_rounds (x := f (i + ((1 : Nat) : Int)).toNat)) d M hM
  refine st_one (i := .aload_n 1) (n := 1) (ts := []) rfl ?_
  show qm_TT (qi_L sn f) (qm_Runs qm_P (d + 12)) K 479 _ _ _ _ _ _
  refine st_arg (k := 1) (pc2 := 484) rfl rfl rfl rfl rfl rfl rfl rfl rfl (by omega) (by omega) ?_
  refine st_callw (y := 107) (rc := 9) (pc2 := 487) rfl rfl rfl rfl rfl rfl rfl rfl rfl rfl rfl (lo_0 qLM) ?_
  refine h1 _ (fun r M1 hA => ?_)
  show qm_TT (qi_L sn f) (qm_Runs qm_P (d + 12)) K 487 _ _ _ _ _ _
  refine st_one (i := .aload_n 2) (n := 1) (ts := []) rfl ?_
  show qm_TT (qi_L sn f) (qm_Runs qm_P (d + 12)) K 488 _ _ _ _ _ _
  refine st_arg (k := 1) (pc2 := 493) rfl rfl rfl rfl rfl rfl rfl rfl rfl (by omega) (by omega) ?_
  refine st_callw (y := 180) (rc := 10) (pc2 := 496) rfl rfl rfl rfl rfl rfl rfl rfl rfl rfl rfl (lo_71 ()) ?_
  refine h2 _ _ hA _ (fun M2 hM2 => ?_)
  show qm_TT (qi_L sn f) (qm_Runs qm_P (d + 12)) K 496 _ _ _ _ _ _
  refine st_one (i := .if_icmp .eq 617) (n := 3) (ts := [1113]) rfl ?_
  refine And.intro (fun _ => ?_) (fun hne => absurd (show r = r from rfl) hne)
  exact hn M2 hM2
set_option maxRecDepth 40000 in
theorem lwc_11 {sn : Nat} {f : Nat → Int} {d : Nat} {K : qm_K} {M : qm_M} {i : Int} (hsn : sn < 2147483648) (hi : 0 ≤ i ∧ i + 3 < (sn : Int)) (hM : bI M) (hn : ∀ M2, bI M2 → qm_TT (qi_L sn f) (qm_Runs qm_P (d + 12)) K 1113 (lwLs i) [] (qL qLM) M2 96 118972) : qm_TT (qi_L sn f) (qm_Runs qm_P (d + 12)) K 501 (lwLs i) [] (qL qLM) M 96 118972 := by
  obtain ⟨A, h1, h2⟩ := (j_pair (x := f (i + ((1 : Nat) : Int)).toNat) (y := f (i + ((2 : Nat) : Int)).toNat)) d M hM
  refine st_one (i := .aload_n 1) (n := 1) (ts := []) rfl ?_
  show qm_TT (qi_L sn f) (qm_Runs qm_P (d + 12)) K 502 _ _ _ _ _ _
  refine st_arg (k := 1) (pc2 := 507) rfl rfl rfl rfl rfl rfl rfl rfl rfl (by omega) (by omega) ?_
  refine st_arg (k := 2) (pc2 := 512) rfl rfl rfl rfl rfl rfl rfl rfl rfl (by omega) (by omega) ?_
  refine st_callw (y := 108) (rc := 9) (pc2 := 515) rfl rfl rfl rfl rfl rfl rfl rfl rfl rfl rfl (lo_0 qLM) ?_
  refine h1 _ (fun r M1 hA => ?_)
  show qm_TT (qi_L sn f) (qm_Runs qm_P (d + 12)) K 515 _ _ _ _ _ _
  refine st_one (i := .aload_n 2) (n := 1) (ts := []) rfl ?_
  show qm_TT (qi_L sn f) (qm_Runs qm_P (d + 12)) K 516 _ _ _ _ _ _
  refine st_arg (k := 1) (pc2 := 521) rfl rfl rfl rfl rfl rfl rfl rfl rfl (by omega) (by omega) ?_
  refine st_arg (k := 2) (pc2 := 526) rfl rfl rfl rfl rfl rfl rfl rfl rfl (by omega) (by omega) ?_
  refine st_callw (y := 181) (rc := 10) (pc2 := 529) rfl rfl rfl rfl rfl rfl rfl rfl rfl rfl rfl (lo_71 ()) ?_
  refine h2 _ _ hA _ (fun M2 hM2 => ?_)
  show qm_TT (qi_L sn f) (qm_Runs qm_P (d + 12)) K 529 _ _ _ _ _ _
  refine st_one (i := .if_icmp .eq 584) (n := 3) (ts := [1113]) rfl ?_
  refine And.intro (fun _ => ?_) (fun hne => absurd (show r = r from rfl) hne)
  exact hn M2 hM2
set_option maxRecDepth 40000 in
theorem lwc_12 {sn : Nat} {f : Nat → Int} {d : Nat} {K : qm_K} {M : qm_M} {i : Int} (hsn : sn < 2147483648) (hi : 0 ≤ i ∧ i + 3 < (sn : Int)) (hM : bI M) (hn : ∀ M2, bI M2 → qm_TT (qi_L sn f) (qm_Runs qm_P (d + 12)) K 1113 (lwLs i) [] (qL qLM) M2 96 118972) : qm_TT (qi_L sn f) (qm_Runs qm_P (d + 12)) K 534 (lwLs i) [] (qL qLM) M 96 118972 := by
  obtain ⟨A, h1, h2⟩ := (j_ahead (x := f (i + ((1 : Nat) : Int)).toNat)) d M hM
  refine st_one (i := .aload_n 1) (n := 1) (ts := []) rfl ?_
  show qm_TT (qi_L sn f) (qm_Runs qm_P (d + 12)) K 535 _ _ _ _ _ _
  refine st_arg (k := 1) (pc2 := 540) rfl rfl rfl rfl rfl rfl rfl rfl rfl (by omega) (by omega) ?_
  refine st_callw (y := 109) (rc := 9) (pc2 := 543) rfl rfl rfl rfl rfl rfl rfl rfl rfl rfl rfl (lo_0 qLM) ?_
  refine h1 _ (fun r M1 hA => ?_)
  show qm_TT (qi_L sn f) (qm_Runs qm_P (d + 12)) K 543 _ _ _ _ _ _
  refine st_one (i := .aload_n 2) (n := 1) (ts := []) rfl ?_
  show qm_TT (qi_L sn f) (qm_Runs qm_P (d + 12)) K 544 _ _ _ _ _ _
  refine st_arg (k := 1) (pc2 := 549) rfl rfl rfl rfl rfl rfl rfl rfl rfl (by omega) (by omega) ?_
  refine st_callw (y := 182) (rc := 10) (pc2 := 552) rfl rfl rfl rfl rfl rfl rfl rfl rfl rfl rfl (lo_71 ()) ?_
  refine h2 _ _ hA _ (fun M2 hM2 => ?_)
  show qm_TT (qi_L sn f) (qm_Runs qm_P (d + 12)) K 552 _ _ _ _ _ _
  refine st_one (i := .if_icmp .eq 561) (n := 3) (ts := [1113]) rfl ?_
  refine And.intro (fun _ => ?_) (fun hne => absurd (show r = r from rfl) hne)
  exact hn M2 hM2
set_option maxRecDepth 40000 in
theorem lwc_13 {sn : Nat} {f : Nat → Int} {d : Nat} {K : qm_K} {M : qm_M} {i : Int} (hsn : sn < 2147483648) (hi : 0 ≤ i ∧ i + 3 < (sn : Int)) (hM : bI M) (hn : ∀ M2, bI M2 → qm_TT (qi_L sn f) (qm_Runs qm_P (d + 12)) K 1113 (lwLs i) [] (qL qLM) M2 96 118972) : qm_TT (qi_L sn f) (qm_Runs qm_P (d + 12)) K 557 (lwLs i) [] (qL qLM) M 96 118972 := by
  obtain ⟨A, h1, h2⟩ := (j_of (x := f (i + ((1 : Nat) : Int)).toNat) (y := f (i + ((2 : Nat) : Int)).toNat)) d M hM
  refine st_one (i := .aload_n 1) (n := 1) (ts := []) rfl ?_
  show qm_TT (qi_L sn f) (qm_Runs qm_P (d + 12)) K 558 _ _ _ _ _ _
  refine st_arg (k := 1) (pc2 := 563) rfl rfl rfl rfl rfl rfl rfl rfl rfl (by omega) (by omega) ?_
  refine st_arg (k := 2) (pc2 := 568) rfl rfl rfl rfl rfl rfl rfl rfl rfl (by omega) (by omega) ?_
  refine st_callw (y := 110) (rc := 9) (pc2 := 571) rfl rfl rfl rfl rfl rfl rfl rfl rfl rfl rfl (lo_0 qLM) ?_
  refine h1 _ (fun r M1 hA => ?_)
  show qm_TT (qi_L sn f) (qm_Runs qm_P (d + 12)) K 571 _ _ _ _ _ _
  refine st_one (i := .aload_n 2) (n := 1) (ts := []) rfl ?_
  show qm_TT (qi_L sn f) (qm_Runs qm_P (d + 12)) K 572 _ _ _ _ _ _
  refine st_arg (k := 1) (pc2 := 577) rfl rfl rfl rfl rfl rfl rfl rfl rfl (by omega) (by omega) ?_
  refine st_arg (k := 2) (pc2 := 582) rfl rfl rfl rfl rfl rfl rfl rfl rfl (by omega) (by omega) ?_
  refine st_callw (y := 184) (rc := 10) (pc2 := 585) rfl rfl rfl rfl rfl rfl rfl rfl rfl rfl rfl (lo_71 ()) ?_
  refine h2 _ _ hA _ (fun M2 hM2 => ?_)
  show qm_TT (qi_L sn f) (qm_Runs qm_P (d + 12)) K 585 _ _ _ _ _ _
  refine st_one (i := .if_icmp .eq 528) (n := 3) (ts := [1113]) rfl ?_
  refine And.intro (fun _ => ?_) (fun hne => absurd (show r = r from rfl) hne)
  exact hn M2 hM2
set_option maxRecDepth 40000 in
theorem lwc_14 {sn : Nat} {f : Nat → Int} {d : Nat} {K : qm_K} {M : qm_M} {i : Int} (hsn : sn < 2147483648) (hi : 0 ≤ i ∧ i + 3 < (sn : Int)) (hM : bI M) (hn : ∀ M2, bI M2 → qm_TT (qi_L sn f) (qm_Runs qm_P (d + 12)) K 1113 (lwLs i) [] (qL qLM) M2 96 118972) : qm_TT (qi_L sn f) (qm_Runs qm_P (d + 12)) K 590 (lwLs i) [] (qL qLM) M 96 118972 := by
  obtain ⟨A, h1, h2⟩ := (j_exposed (x := f (i + ((1 : Nat) : Int)).toNat)) d M hM
  refine st_one (i := .aload_n 1) (n := 1) (ts := []) rfl ?_
  show qm_TT (qi_L sn f) (qm_Runs qm_P (d + 12)) K 591 _ _ _ _ _ _
  refine st_arg (k := 1) (pc2 := 596) rfl rfl rfl rfl rfl rfl rfl rfl rfl (by omega) (by omega) ?_
  refine st_callw (y := 111) (rc := 9) (pc2 := 599) rfl rfl rfl rfl rfl rfl rfl rfl rfl rfl rfl (lo_0 qLM) ?_
  refine h1 _ (fun r M1 hA => ?_)
  show qm_TT (qi_L sn f) (qm_Runs qm_P (d + 12)) K 599 _ _ _ _ _ _
  refine st_one (i := .aload_n 2) (n := 1) (ts := []) rfl ?_
  show qm_TT (qi_L sn f) (qm_Runs qm_P (d + 12)) K 600 _ _ _ _ _ _
  refine st_arg (k := 1) (pc2 := 605) rfl rfl rfl rfl rfl rfl rfl rfl rfl (by omega) (by omega) ?_
  refine st_callw (y := 189) (rc := 10) (pc2 := 608) rfl rfl rfl rfl rfl rfl rfl rfl rfl rfl rfl (lo_71 ()) ?_
  refine h2 _ _ hA _ (fun M2 hM2 => ?_)
  show qm_TT (qi_L sn f) (qm_Runs qm_P (d + 12)) K 608 _ _ _ _ _ _
  refine st_one (i := .if_icmp .eq 505) (n := 3) (ts := [1113]) rfl ?_
  refine And.intro (fun _ => ?_) (fun hne => absurd (show r = r from rfl) hne)
  exact hn M2 hM2
set_option maxRecDepth 40000 in
theorem lwc_15 {sn : Nat} {f : Nat → Int} {d : Nat} {K : qm_K} {M : qm_M} {i : Int} (hsn : sn < 2147483648) (hi : 0 ≤ i ∧ i + 3 < (sn : Int)) (hM : bI M) (hn : ∀ M2, bI M2 → qm_TT (qi_L sn f) (qm_Runs qm_P (d + 12)) K 1113 (lwLs i) [] (qL qLM) M2 96 118972) : qm_TT (qi_L sn f) (qm_Runs qm_P (d + 12)) K 613 (lwLs i) [] (qL qLM) M 96 118972 := by
  obtain ⟨A, h1, h2⟩ := (j_match (x := f (i + ((1 : Nat) : Int)).toNat)) d M hM
  refine st_one (i := .aload_n 1) (n := 1) (ts := []) rfl ?_
  show qm_TT (qi_L sn f) (qm_Runs qm_P (d + 12)) K 614 _ _ _ _ _ _
  refine st_arg (k := 1) (pc2 := 619) rfl rfl rfl rfl rfl rfl rfl rfl rfl (by omega) (by omega) ?_
  refine st_callw (y := 112) (rc := 9) (pc2 := 622) rfl rfl rfl rfl rfl rfl rfl rfl rfl rfl rfl (lo_0 qLM) ?_
  refine h1 _ (fun r M1 hA => ?_)
  show qm_TT (qi_L sn f) (qm_Runs qm_P (d + 12)) K 622 _ _ _ _ _ _
  refine st_one (i := .aload_n 2) (n := 1) (ts := []) rfl ?_
  show qm_TT (qi_L sn f) (qm_Runs qm_P (d + 12)) K 623 _ _ _ _ _ _
  refine st_arg (k := 1) (pc2 := 628) rfl rfl rfl rfl rfl rfl rfl rfl rfl (by omega) (by omega) ?_
  refine st_callw (y := 190) (rc := 10) (pc2 := 631) rfl rfl rfl rfl rfl rfl rfl rfl rfl rfl rfl (lo_71 ()) ?_
  refine h2 _ _ hA _ (fun M2 hM2 => ?_)
  show qm_TT (qi_L sn f) (qm_Runs qm_P (d + 12)) K 631 _ _ _ _ _ _
  refine st_one (i := .if_icmp .eq 482) (n := 3) (ts := [1113]) rfl ?_
  refine And.intro (fun _ => ?_) (fun hne => absurd (show r = r from rfl) hne)
  exact hn M2 hM2
set_option maxRecDepth 40000 in
theorem lwc_16 {sn : Nat} {f : Nat → Int} {d : Nat} {K : qm_K} {M : qm_M} {i : Int} (hsn : sn < 2147483648) (hi : 0 ≤ i ∧ i + 3 < (sn : Int)) (hM : bI M) (hn : ∀ M2, bI M2 → qm_TT (qi_L sn f) (qm_Runs qm_P (d + 12)) K 1113 (lwLs i) [] (qL qLM) M2 96 118972) : qm_TT (qi_L sn f) (qm_Runs qm_P (d + 12)) K 636 (lwLs i) [] (qL qLM) M 96 118972 := by
  obtain ⟨A, h1, h2⟩ := (j_has (x := f (i + ((1 : Nat) : Int)).toNat) (y := f (i + ((2 : Nat) : Int)).toNat) (z := f (i + ((3 : Nat) : Int)).toNat)) d M hM
  refine st_one (i := .aload_n 1) (n := 1) (ts := []) rfl ?_
  show qm_TT (qi_L sn f) (qm_Runs qm_P (d + 12)) K 637 _ _ _ _ _ _
  refine st_arg (k := 1) (pc2 := 642) rfl rfl rfl rfl rfl rfl rfl rfl rfl (by omega) (by omega) ?_
  refine st_arg (k := 2) (pc2 := 647) rfl rfl rfl rfl rfl rfl rfl rfl rfl (by omega) (by omega) ?_
  refine st_arg (k := 3) (pc2 := 652) rfl rfl rfl rfl rfl rfl rfl rfl rfl (by omega) (by omega) ?_
  refine st_callw (y := 113) (rc := 9) (pc2 := 655) rfl rfl rfl rfl rfl rfl rfl rfl rfl rfl rfl (lo_0 qLM) ?_
  refine h1 _ (fun r M1 hA => ?_)
  show qm_TT (qi_L sn f) (qm_Runs qm_P (d + 12)) K 655 _ _ _ _ _ _
  refine st_one (i := .aload_n 2) (n := 1) (ts := []) rfl ?_
  show qm_TT (qi_L sn f) (qm_Runs qm_P (d + 12)) K 656 _ _ _ _ _ _
  refine st_arg (k := 1) (pc2 := 661) rfl rfl rfl rfl rfl rfl rfl rfl rfl (by omega) (by omega) ?_
  refine st_arg (k := 2) (pc2 := 666) rfl rfl rfl rfl rfl rfl rfl rfl rfl (by omega) (by omega) ?_
  refine st_arg (k := 3) (pc2 := 671) rfl rfl rfl rfl rfl rfl rfl rfl rfl (by omega) (by omega) ?_
  refine st_callw (y := 191) (rc := 10) (pc2 := 674) rfl rfl rfl rfl rfl rfl rfl rfl rfl rfl rfl (lo_71 ()) ?_
  refine h2 _ _ hA _ (fun M2 hM2 => ?_)
  show qm_TT (qi_L sn f) (qm_Runs qm_P (d + 12)) K 674 _ _ _ _ _ _
  refine st_one (i := .if_icmp .eq 439) (n := 3) (ts := [1113]) rfl ?_
  refine And.intro (fun _ => ?_) (fun hne => absurd (show r = r from rfl) hne)
  exact hn M2 hM2
set_option maxRecDepth 40000 in
theorem lwc_17 {sn : Nat} {f : Nat → Int} {d : Nat} {K : qm_K} {M : qm_M} {i : Int} (hsn : sn < 2147483648) (hi : 0 ≤ i ∧ i + 3 < (sn : Int)) (hM : bI M) (hn : ∀ M2, bI M2 → qm_TT (qi_L sn f) (qm_Runs qm_P (d + 12)) K 1113 (lwLs i) [] (qL qLM) M2 96 118972) : qm_TT (qi_L sn f) (qm_Runs qm_P (d + 12)) K 679 (lwLs i) [] (qL qLM) M 96 118972 := by
  obtain ⟨A, h1, h2⟩ := (j_cost (x := f (i + ((1 : Nat) : Int)).toNat) (y := f (i + ((2 : Nat) : Int)).toNat)) d M hM
  refine st_one (i := .aload_n 1) (n := 1) (ts := []) rfl ?_
  show qm_TT (qi_L sn f) (qm_Runs qm_P (d + 12)) K 680 _ _ _ _ _ _
  refine st_arg (k := 1) (pc2 := 685) rfl rfl rfl rfl rfl rfl rfl rfl rfl (by omega) (by omega) ?_
  refine st_arg (k := 2) (pc2 := 690) rfl rfl rfl rfl rfl rfl rfl rfl rfl (by omega) (by omega) ?_
  refine st_callw (y := 114) (rc := 9) (pc2 := 693) rfl rfl rfl rfl rfl rfl rfl rfl rfl rfl rfl (lo_0 qLM) ?_
  refine h1 _ (fun r M1 hA => ?_)
  show qm_TT (qi_L sn f) (qm_Runs qm_P (d + 12)) K 693 _ _ _ _ _ _
  refine st_one (i := .aload_n 2) (n := 1) (ts := []) rfl ?_
  show qm_TT (qi_L sn f) (qm_Runs qm_P (d + 12)) K 694 _ _ _ _ _ _
  refine st_arg (k := 1) (pc2 := 699) rfl rfl rfl rfl rfl rfl rfl rfl rfl (by omega) (by omega) ?_
  refine st_arg (k := 2) (pc2 := 704) rfl rfl rfl rfl rfl rfl rfl rfl rfl (by omega) (by omega) ?_
  refine st_callw (y := 193) (rc := 10) (pc2 := 707) rfl rfl rfl rfl rfl rfl rfl rfl rfl rfl rfl (lo_71 ()) ?_
  refine h2 _ _ hA _ (fun M2 hM2 => ?_)
  show qm_TT (qi_L sn f) (qm_Runs qm_P (d + 12)) K 707 _ _ _ _ _ _
  refine st_one (i := .if_icmp .eq 406) (n := 3) (ts := [1113]) rfl ?_
  refine And.intro (fun _ => ?_) (fun hne => absurd (show r = r from rfl) hne)
  exact hn M2 hM2
set_option maxRecDepth 40000 in
theorem lwc_18 {sn : Nat} {f : Nat → Int} {d : Nat} {K : qm_K} {M : qm_M} {i : Int} (hsn : sn < 2147483648) (hi : 0 ≤ i ∧ i + 3 < (sn : Int)) (hM : bI M) (hn : ∀ M2, bI M2 → qm_TT (qi_L sn f) (qm_Runs qm_P (d + 12)) K 1113 (lwLs i) [] (qL qLM) M2 96 118972) : qm_TT (qi_L sn f) (qm_Runs qm_P (d + 12)) K 712 (lwLs i) [] (qL qLM) M 96 118972 := by
  obtain ⟨A, h1, h2⟩ := (j_pick (x := f (i + ((1 : Nat) : Int)).toNat)) d M hM
  refine st_one (i := .aload_n 1) (n := 1) (ts := []) rfl ?_
  show qm_TT (qi_L sn f) (qm_Runs qm_P (d + 12)) K 713 _ _ _ _ _ _
  refine st_arg (k := 1) (pc2 := 718) rfl rfl rfl rfl rfl rfl rfl rfl rfl (by omega) (by omega) ?_
  refine st_callw (y := 115) (rc := 9) (pc2 := 721) rfl rfl rfl rfl rfl rfl rfl rfl rfl rfl rfl (lo_0 qLM) ?_
  refine h1 _ (fun r M1 hA => ?_)
  show qm_TT (qi_L sn f) (qm_Runs qm_P (d + 12)) K 721 _ _ _ _ _ _
  refine st_one (i := .aload_n 2) (n := 1) (ts := []) rfl ?_
  show qm_TT (qi_L sn f) (qm_Runs qm_P (d + 12)) K 722 _ _ _ _ _ _
  refine st_arg (k := 1) (pc2 := 727) rfl rfl rfl rfl rfl rfl rfl rfl rfl (by omega) (by omega) ?_
  refine st_callw (y := 194) (rc := 10) (pc2 := 730) rfl rfl rfl rfl rfl rfl rfl rfl rfl rfl rfl (lo_71 ()) ?_
  refine h2 _ _ hA _ (fun M2 hM2 => ?_)
  show qm_TT (qi_L sn f) (qm_Runs qm_P (d + 12)) K 730 _ _ _ _ _ _
  refine st_one (i := .if_icmp .eq 383) (n := 3) (ts := [1113]) rfl ?_
  refine And.intro (fun _ => ?_) (fun hne => absurd (show r = r from rfl) hne)
  exact hn M2 hM2
set_option maxRecDepth 40000 in
theorem lwc_19 {sn : Nat} {f : Nat → Int} {d : Nat} {K : qm_K} {M : qm_M} {i : Int} (hsn : sn < 2147483648) (hi : 0 ≤ i ∧ i + 3 < (sn : Int)) (hM : bI M) (hn : ∀ M2, bI M2 → qm_TT (qi_L sn f) (qm_Runs qm_P (d + 12)) K 1113 (lwLs i) [] (qL qLM) M2 96 118972) : qm_TT (qi_L sn f) (qm_Runs qm_P (d + 12)) K 735 (lwLs i) [] (qL qLM) M 96 118972 := by
  obtain ⟨A, h1, h2⟩ := (j_most) d M hM
  refine st_one (i := .aload_n 1) (n := 1) (ts := []) rfl ?_
  show qm_TT (qi_L sn f) (qm_Runs qm_P (d + 12)) K 736 _ _ _ _ _ _
  refine st_callw (y := 116) (rc := 9) (pc2 := 739) rfl rfl rfl rfl rfl rfl rfl rfl rfl rfl rfl (lo_0 qLM) ?_
  refine h1 _ (fun r M1 hA => ?_)
  show qm_TT (qi_L sn f) (qm_Runs qm_P (d + 12)) K 739 _ _ _ _ _ _
  refine st_one (i := .aload_n 2) (n := 1) (ts := []) rfl ?_
  show qm_TT (qi_L sn f) (qm_Runs qm_P (d + 12)) K 740 _ _ _ _ _ _
  refine st_callw (y := 195) (rc := 10) (pc2 := 743) rfl rfl rfl rfl rfl rfl rfl rfl rfl rfl rfl (lo_71 ()) ?_
  refine h2 _ _ hA _ (fun M2 hM2 => ?_)
  show qm_TT (qi_L sn f) (qm_Runs qm_P (d + 12)) K 743 _ _ _ _ _ _
  refine st_one (i := .if_icmp .eq 370) (n := 3) (ts := [1113]) rfl ?_
  refine And.intro (fun _ => ?_) (fun hne => absurd (show r = r from rfl) hne)
  exact hn M2 hM2
set_option maxRecDepth 40000 in
theorem lwc_20 {sn : Nat} {f : Nat → Int} {d : Nat} {K : qm_K} {M : qm_M} {i : Int} (hsn : sn < 2147483648) (hi : 0 ≤ i ∧ i + 3 < (sn : Int)) (hM : bI M) (hn : ∀ M2, bI M2 → qm_TT (qi_L sn f) (qm_Runs qm_P (d + 12)) K 1113 (lwLs i) [] (qL qLM) M2 96 118972) : qm_TT (qi_L sn f) (qm_Runs qm_P (d + 12)) K 748 (lwLs i) [] (qL qLM) M 96 118972 := by
  obtain ⟨A, h1, h2⟩ := (j_either (x := f (i + ((1 : Nat) : Int)).toNat) (y := f (i + ((2 : Nat) : Int)).toNat) (z := f (i + ((3 : Nat) : Int)).toNat)) d M hM
  refine st_one (i := .aload_n 1) (n := 1) (ts := []) rfl ?_
  show qm_TT (qi_L sn f) (qm_Runs qm_P (d + 12)) K 749 _ _ _ _ _ _
  refine st_arg (k := 1) (pc2 := 754) rfl rfl rfl rfl rfl rfl rfl rfl rfl (by omega) (by omega) ?_
  refine st_arg (k := 2) (pc2 := 759) rfl rfl rfl rfl rfl rfl rfl rfl rfl (by omega) (by omega) ?_
  refine st_arg (k := 3) (pc2 := 764) rfl rfl rfl rfl rfl rfl rfl rfl rfl (by omega) (by omega) ?_
  refine st_callw (y := 117) (rc := 9) (pc2 := 767) rfl rfl rfl rfl rfl rfl rfl rfl rfl rfl rfl (lo_0 qLM) ?_
  refine h1 _ (fun r M1 hA => ?_)
  show qm_TT (qi_L sn f) (qm_Runs qm_P (d + 12)) K 767 _ _ _ _ _ _
  refine st_one (i := .aload_n 2) (n := 1) (ts := []) rfl ?_
  show qm_TT (qi_L sn f) (qm_Runs qm_P (d + 12)) K 768 _ _ _ _ _ _
  refine st_arg (k := 1) (pc2 := 773) rfl rfl rfl rfl rfl rfl rfl rfl rfl (by omega) (by omega) ?_
  refine st_arg (k := 2) (pc2 := 778) rfl rfl rfl rfl rfl rfl rfl rfl rfl (by omega) (by omega) ?_
  refine st_arg (k := 3) (pc2 := 783) rfl rfl rfl rfl rfl rfl rfl rfl rfl (by omega) (by omega) ?_
  refine st_callw (y := 196) (rc := 10) (pc2 := 786) rfl rfl rfl rfl rfl rfl rfl rfl rfl rfl rfl (lo_71 ()) ?_
  refine h2 _ _ hA _ (fun M2 hM2 => ?_)
  show qm_TT (qi_L sn f) (qm_Runs qm_P (d + 12)) K 786 _ _ _ _ _ _
  refine st_one (i := .if_icmp .eq 327) (n := 3) (ts := [1113]) rfl ?_
  refine And.intro (fun _ => ?_) (fun hne => absurd (show r = r from rfl) hne)
  exact hn M2 hM2
set_option maxRecDepth 40000 in
theorem lwc_21 {sn : Nat} {f : Nat → Int} {d : Nat} {K : qm_K} {M : qm_M} {i : Int} (hsn : sn < 2147483648) (hi : 0 ≤ i ∧ i + 3 < (sn : Int)) (hM : bI M) (hn : ∀ M2, bI M2 → qm_TT (qi_L sn f) (qm_Runs qm_P (d + 12)) K 1113 (lwLs i) [] (qL qLM) M2 96 118972) : qm_TT (qi_L sn f) (qm_Runs qm_P (d + 12)) K 791 (lwLs i) [] (qL qLM) M 96 118972 := by
  obtain ⟨A, h1, h2⟩ := (j_middle (x := f (i + ((1 : Nat) : Int)).toNat) (y := f (i + ((2 : Nat) : Int)).toNat) (z := f (i + ((3 : Nat) : Int)).toNat)) d M hM
  refine st_one (i := .aload_n 1) (n := 1) (ts := []) rfl ?_
  show qm_TT (qi_L sn f) (qm_Runs qm_P (d + 12)) K 792 _ _ _ _ _ _
  refine st_arg (k := 1) (pc2 := 797) rfl rfl rfl rfl rfl rfl rfl rfl rfl (by omega) (by omega) ?_
  refine st_arg (k := 2) (pc2 := 802) rfl rfl rfl rfl rfl rfl rfl rfl rfl (by omega) (by omega) ?_
  refine st_arg (k := 3) (pc2 := 807) rfl rfl rfl rfl rfl rfl rfl rfl rfl (by omega) (by omega) ?_
  refine st_callw (y := 118) (rc := 9) (pc2 := 810) rfl rfl rfl rfl rfl rfl rfl rfl rfl rfl rfl (lo_0 qLM) ?_
  refine h1 _ (fun r M1 hA => ?_)
  show qm_TT (qi_L sn f) (qm_Runs qm_P (d + 12)) K 810 _ _ _ _ _ _
  refine st_one (i := .aload_n 2) (n := 1) (ts := []) rfl ?_
  show qm_TT (qi_L sn f) (qm_Runs qm_P (d + 12)) K 811 _ _ _ _ _ _
  refine st_arg (k := 1) (pc2 := 816) rfl rfl rfl rfl rfl rfl rfl rfl rfl (by omega) (by omega) ?_
  refine st_arg (k := 2) (pc2 := 821) rfl rfl rfl rfl rfl rfl rfl rfl rfl (by omega) (by omega) ?_
  refine st_arg (k := 3) (pc2 := 826) rfl rfl rfl rfl rfl rfl rfl rfl rfl (by omega) (by omega) ?_
  refine st_callw (y := 197) (rc := 10) (pc2 := 829) rfl rfl rfl rfl rfl rfl rfl rfl rfl rfl rfl (lo_71 ()) ?_
  refine h2 _ _ hA _ (fun M2 hM2 => ?_)
  show qm_TT (qi_L sn f) (qm_Runs qm_P (d + 12)) K 829 _ _ _ _ _ _
  refine st_one (i := .if_icmp .eq 284) (n := 3) (ts := [1113]) rfl ?_
  refine And.intro (fun _ => ?_) (fun hne => absurd (show r = r from rfl) hne)
  exact hn M2 hM2
set_option maxRecDepth 40000 in
theorem lwc_22 {sn : Nat} {f : Nat → Int} {d : Nat} {K : qm_K} {M : qm_M} {i : Int} (hsn : sn < 2147483648) (hi : 0 ≤ i ∧ i + 3 < (sn : Int)) (hM : bI M) (hn : ∀ M2, bI M2 → qm_TT (qi_L sn f) (qm_Runs qm_P (d + 12)) K 1113 (lwLs i) [] (qL qLM) M2 96 118972) : qm_TT (qi_L sn f) (qm_Runs qm_P (d + 12)) K 834 (lwLs i) [] (qL qLM) M 96 118972 := by
  obtain ⟨A, h1, h2⟩ := (j_may (x := f (i + ((1 : Nat) : Int)).toNat) (y := f (i + ((2 : Nat) : Int)).toNat)) d M hM
  refine st_one (i := .aload_n 1) (n := 1) (ts := []) rfl ?_
  show qm_TT (qi_L sn f) (qm_Runs qm_P (d + 12)) K 835 _ _ _ _ _ _
  refine st_arg (k := 1) (pc2 := 840) rfl rfl rfl rfl rfl rfl rfl rfl rfl (by omega) (by omega) ?_
  refine st_arg (k := 2) (pc2 := 845) rfl rfl rfl rfl rfl rfl rfl rfl rfl (by omega) (by omega) ?_
  refine st_callw (y := 119) (rc := 9) (pc2 := 848) rfl rfl rfl rfl rfl rfl rfl rfl rfl rfl rfl (lo_0 qLM) ?_
  refine h1 _ (fun r M1 hA => ?_)
  show qm_TT (qi_L sn f) (qm_Runs qm_P (d + 12)) K 848 _ _ _ _ _ _
  refine st_one (i := .aload_n 2) (n := 1) (ts := []) rfl ?_
  show qm_TT (qi_L sn f) (qm_Runs qm_P (d + 12)) K 849 _ _ _ _ _ _
  refine st_arg (k := 1) (pc2 := 854) rfl rfl rfl rfl rfl rfl rfl rfl rfl (by omega) (by omega) ?_
  refine st_arg (k := 2) (pc2 := 859) rfl rfl rfl rfl rfl rfl rfl rfl rfl (by omega) (by omega) ?_
  refine st_callw (y := 198) (rc := 10) (pc2 := 862) rfl rfl rfl rfl rfl rfl rfl rfl rfl rfl rfl (lo_71 ()) ?_
  refine h2 _ _ hA _ (fun M2 hM2 => ?_)
  show qm_TT (qi_L sn f) (qm_Runs qm_P (d + 12)) K 862 _ _ _ _ _ _
  refine st_one (i := .if_icmp .eq 251) (n := 3) (ts := [1113]) rfl ?_
  refine And.intro (fun _ => ?_) (fun hne => absurd (show r = r from rfl) hne)
  exact hn M2 hM2
set_option maxRecDepth 40000 in
theorem lwc_23 {sn : Nat} {f : Nat → Int} {d : Nat} {K : qm_K} {M : qm_M} {i : Int} (hsn : sn < 2147483648) (hi : 0 ≤ i ∧ i + 3 < (sn : Int)) (hM : bI M) (hn : ∀ M2, bI M2 → qm_TT (qi_L sn f) (qm_Runs qm_P (d + 12)) K 1113 (lwLs i) [] (qL qLM) M2 96 118972) : qm_TT (qi_L sn f) (qm_Runs qm_P (d + 12)) K 867 (lwLs i) [] (qL qLM) M 96 118972 := by
  obtain ⟨A, h1, h2⟩ := (j_fixed) d M hM
  refine st_one (i := .aload_n 1) (n := 1) (ts := []) rfl ?_
  show qm_TT (qi_L sn f) (qm_Runs qm_P (d + 12)) K 868 _ _ _ _ _ _
  refine st_callw (y := 120) (rc := 9) (pc2 := 871) rfl rfl rfl rfl rfl rfl rfl rfl rfl rfl rfl (lo_0 qLM) ?_
  refine h1 _ (fun r M1 hA => ?_)
  show qm_TT (qi_L sn f) (qm_Runs qm_P (d + 12)) K 871 _ _ _ _ _ _
  refine st_one (i := .aload_n 2) (n := 1) (ts := []) rfl ?_
  show qm_TT (qi_L sn f) (qm_Runs qm_P (d + 12)) K 872 _ _ _ _ _ _
  refine st_callw (y := 199) (rc := 10) (pc2 := 875) rfl rfl rfl rfl rfl rfl rfl rfl rfl rfl rfl (lo_71 ()) ?_
  refine h2 _ _ hA _ (fun M2 hM2 => ?_)
  show qm_TT (qi_L sn f) (qm_Runs qm_P (d + 12)) K 875 _ _ _ _ _ _
  refine st_one (i := .if_icmp .eq 238) (n := 3) (ts := [1113]) rfl ?_
  refine And.intro (fun _ => ?_) (fun hne => absurd (show r = r from rfl) hne)
  exact hn M2 hM2
set_option maxRecDepth 40000 in
theorem lwc_24 {sn : Nat} {f : Nat → Int} {d : Nat} {K : qm_K} {M : qm_M} {i : Int} (hsn : sn < 2147483648) (hi : 0 ≤ i ∧ i + 3 < (sn : Int)) (hM : bI M) (hn : ∀ M2, bI M2 → qm_TT (qi_L sn f) (qm_Runs qm_P (d + 12)) K 1113 (lwLs i) [] (qL qLM) M2 96 118972) : qm_TT (qi_L sn f) (qm_Runs qm_P (d + 12)) K 880 (lwLs i) [] (qL qLM) M 96 118972 := by
  obtain ⟨A, h1, h2⟩ := (j_lie (x := f (i + ((1 : Nat) : Int)).toNat) (y := f (i + ((2 : Nat) : Int)).toNat)) d M hM
  refine st_one (i := .aload_n 1) (n := 1) (ts := []) rfl ?_
  show qm_TT (qi_L sn f) (qm_Runs qm_P (d + 12)) K 881 _ _ _ _ _ _
  refine st_arg (k := 1) (pc2 := 886) rfl rfl rfl rfl rfl rfl rfl rfl rfl (by omega) (by omega) ?_
  refine st_arg (k := 2) (pc2 := 891) rfl rfl rfl rfl rfl rfl rfl rfl rfl (by omega) (by omega) ?_
  refine st_callw (y := 121) (rc := 9) (pc2 := 894) rfl rfl rfl rfl rfl rfl rfl rfl rfl rfl rfl (lo_0 qLM) ?_
  refine h1 _ (fun r M1 hA => ?_)
  show qm_TT (qi_L sn f) (qm_Runs qm_P (d + 12)) K 894 _ _ _ _ _ _
  refine st_one (i := .aload_n 2) (n := 1) (ts := []) rfl ?_
  show qm_TT (qi_L sn f) (qm_Runs qm_P (d + 12)) K 895 _ _ _ _ _ _
  refine st_arg (k := 1) (pc2 := 900) rfl rfl rfl rfl rfl rfl rfl rfl rfl (by omega) (by omega) ?_
  refine st_arg (k := 2) (pc2 := 905) rfl rfl rfl rfl rfl rfl rfl rfl rfl (by omega) (by omega) ?_
  refine st_callw (y := 202) (rc := 10) (pc2 := 908) rfl rfl rfl rfl rfl rfl rfl rfl rfl rfl rfl (lo_71 ()) ?_
  refine h2 _ _ hA _ (fun M2 hM2 => ?_)
  show qm_TT (qi_L sn f) (qm_Runs qm_P (d + 12)) K 908 _ _ _ _ _ _
  refine st_one (i := .if_icmp .eq 205) (n := 3) (ts := [1113]) rfl ?_
  refine And.intro (fun _ => ?_) (fun hne => absurd (show r = r from rfl) hne)
  exact hn M2 hM2
set_option maxRecDepth 40000 in
theorem lwc_25 {sn : Nat} {f : Nat → Int} {d : Nat} {K : qm_K} {M : qm_M} {i : Int} (hsn : sn < 2147483648) (hi : 0 ≤ i ∧ i + 3 < (sn : Int)) (hM : bI M) (hn : ∀ M2, bI M2 → qm_TT (qi_L sn f) (qm_Runs qm_P (d + 12)) K 1113 (lwLs i) [] (qL qLM) M2 96 118972) : qm_TT (qi_L sn f) (qm_Runs qm_P (d + 12)) K 913 (lwLs i) [] (qL qLM) M 96 118972 := by
  obtain ⟨A, h1, h2⟩ := (j_text (x := f (i + ((1 : Nat) : Int)).toNat) (y := f (i + ((2 : Nat) : Int)).toNat)) d M hM
  refine st_one (i := .aload_n 1) (n := 1) (ts := []) rfl ?_
  show qm_TT (qi_L sn f) (qm_Runs qm_P (d + 12)) K 914 _ _ _ _ _ _
  refine st_arg (k := 1) (pc2 := 919) rfl rfl rfl rfl rfl rfl rfl rfl rfl (by omega) (by omega) ?_
  refine st_arg (k := 2) (pc2 := 924) rfl rfl rfl rfl rfl rfl rfl rfl rfl (by omega) (by omega) ?_
  refine st_callw (y := 122) (rc := 9) (pc2 := 927) rfl rfl rfl rfl rfl rfl rfl rfl rfl rfl rfl (lo_0 qLM) ?_
  refine h1 _ (fun r M1 hA => ?_)
  show qm_TT (qi_L sn f) (qm_Runs qm_P (d + 12)) K 927 _ _ _ _ _ _
  refine st_one (i := .aload_n 2) (n := 1) (ts := []) rfl ?_
  show qm_TT (qi_L sn f) (qm_Runs qm_P (d + 12)) K 928 _ _ _ _ _ _
  refine st_arg (k := 1) (pc2 := 933) rfl rfl rfl rfl rfl rfl rfl rfl rfl (by omega) (by omega) ?_
  refine st_arg (k := 2) (pc2 := 938) rfl rfl rfl rfl rfl rfl rfl rfl rfl (by omega) (by omega) ?_
  refine st_callw (y := 203) (rc := 10) (pc2 := 941) rfl rfl rfl rfl rfl rfl rfl rfl rfl rfl rfl (lo_71 ()) ?_
  refine h2 _ _ hA _ (fun M2 hM2 => ?_)
  show qm_TT (qi_L sn f) (qm_Runs qm_P (d + 12)) K 941 _ _ _ _ _ _
  refine st_one (i := .if_icmp .eq 172) (n := 3) (ts := [1113]) rfl ?_
  refine And.intro (fun _ => ?_) (fun hne => absurd (show r = r from rfl) hne)
  exact hn M2 hM2
set_option maxRecDepth 40000 in
theorem lwc_26 {sn : Nat} {f : Nat → Int} {d : Nat} {K : qm_K} {M : qm_M} {i : Int} (hsn : sn < 2147483648) (hi : 0 ≤ i ∧ i + 3 < (sn : Int)) (hM : bI M) (hn : ∀ M2, bI M2 → qm_TT (qi_L sn f) (qm_Runs qm_P (d + 12)) K 1113 (lwLs i) [] (qL qLM) M2 96 118972) : qm_TT (qi_L sn f) (qm_Runs qm_P (d + 12)) K 946 (lwLs i) [] (qL qLM) M 96 118972 := by
  obtain ⟨A, h1, h2⟩ := (j_hand (x := f (i + ((1 : Nat) : Int)).toNat) (y := f (i + ((2 : Nat) : Int)).toNat)) d M hM
  refine st_one (i := .aload_n 1) (n := 1) (ts := []) rfl ?_
  show qm_TT (qi_L sn f) (qm_Runs qm_P (d + 12)) K 947 _ _ _ _ _ _
  refine st_arg (k := 1) (pc2 := 952) rfl rfl rfl rfl rfl rfl rfl rfl rfl (by omega) (by omega) ?_
  refine st_arg (k := 2) (pc2 := 957) rfl rfl rfl rfl rfl rfl rfl rfl rfl (by omega) (by omega) ?_
  refine st_callw (y := 123) (rc := 9) (pc2 := 960) rfl rfl rfl rfl rfl rfl rfl rfl rfl rfl rfl (lo_0 qLM) ?_
  refine h1 _ (fun r M1 hA => ?_)
  show qm_TT (qi_L sn f) (qm_Runs qm_P (d + 12)) K 960 _ _ _ _ _ _
  refine st_one (i := .aload_n 2) (n := 1) (ts := []) rfl ?_
  show qm_TT (qi_L sn f) (qm_Runs qm_P (d + 12)) K 961 _ _ _ _ _ _
  refine st_arg (k := 1) (pc2 := 966) rfl rfl rfl rfl rfl rfl rfl rfl rfl (by omega) (by omega) ?_
  refine st_arg (k := 2) (pc2 := 971) rfl rfl rfl rfl rfl rfl rfl rfl rfl (by omega) (by omega) ?_
  refine st_callw (y := 206) (rc := 10) (pc2 := 974) rfl rfl rfl rfl rfl rfl rfl rfl rfl rfl rfl (lo_71 ()) ?_
  refine h2 _ _ hA _ (fun M2 hM2 => ?_)
  show qm_TT (qi_L sn f) (qm_Runs qm_P (d + 12)) K 974 _ _ _ _ _ _
  refine st_one (i := .if_icmp .eq 139) (n := 3) (ts := [1113]) rfl ?_
  refine And.intro (fun _ => ?_) (fun hne => absurd (show r = r from rfl) hne)
  exact hn M2 hM2
set_option maxRecDepth 40000 in
theorem lwc_27 {sn : Nat} {f : Nat → Int} {d : Nat} {K : qm_K} {M : qm_M} {i : Int} (hsn : sn < 2147483648) (hi : 0 ≤ i ∧ i + 3 < (sn : Int)) (hM : bI M) (hn : ∀ M2, bI M2 → qm_TT (qi_L sn f) (qm_Runs qm_P (d + 12)) K 1113 (lwLs i) [] (qL qLM) M2 96 118972) : qm_TT (qi_L sn f) (qm_Runs qm_P (d + 12)) K 979 (lwLs i) [] (qL qLM) M 96 118972 := by
  obtain ⟨A, h1, h2⟩ := (j_handed (x := f (i + ((1 : Nat) : Int)).toNat)) d M hM
  refine st_one (i := .aload_n 1) (n := 1) (ts := []) rfl ?_
  show qm_TT (qi_L sn f) (qm_Runs qm_P (d + 12)) K 980 _ _ _ _ _ _
  refine st_arg (k := 1) (pc2 := 985) rfl rfl rfl rfl rfl rfl rfl rfl rfl (by omega) (by omega) ?_
  refine st_callw (y := 124) (rc := 9) (pc2 := 988) rfl rfl rfl rfl rfl rfl rfl rfl rfl rfl rfl (lo_0 qLM) ?_
  refine h1 _ (fun r M1 hA => ?_)
  show qm_TT (qi_L sn f) (qm_Runs qm_P (d + 12)) K 988 _ _ _ _ _ _
  refine st_one (i := .aload_n 2) (n := 1) (ts := []) rfl ?_
  show qm_TT (qi_L sn f) (qm_Runs qm_P (d + 12)) K 989 _ _ _ _ _ _
  refine st_arg (k := 1) (pc2 := 994) rfl rfl rfl rfl rfl rfl rfl rfl rfl (by omega) (by omega) ?_
  refine st_callw (y := 207) (rc := 10) (pc2 := 997) rfl rfl rfl rfl rfl rfl rfl rfl rfl rfl rfl (lo_71 ()) ?_
  refine h2 _ _ hA _ (fun M2 hM2 => ?_)
  show qm_TT (qi_L sn f) (qm_Runs qm_P (d + 12)) K 997 _ _ _ _ _ _
  refine st_one (i := .if_icmp .eq 116) (n := 3) (ts := [1113]) rfl ?_
  refine And.intro (fun _ => ?_) (fun hne => absurd (show r = r from rfl) hne)
  exact hn M2 hM2
set_option maxRecDepth 40000 in
theorem lwc_28 {sn : Nat} {f : Nat → Int} {d : Nat} {K : qm_K} {M : qm_M} {i : Int} (hsn : sn < 2147483648) (hi : 0 ≤ i ∧ i + 3 < (sn : Int)) (hM : bI M) (hn : ∀ M2, bI M2 → qm_TT (qi_L sn f) (qm_Runs qm_P (d + 12)) K 1113 (lwLs i) [] (qL qLM) M2 96 118972) : qm_TT (qi_L sn f) (qm_Runs qm_P (d + 12)) K 1002 (lwLs i) [] (qL qLM) M 96 118972 := by
  obtain ⟨A, h1, h2⟩ := (j_blocks) d M hM
  refine st_one (i := .aload_n 1) (n := 1) (ts := []) rfl ?_
  show qm_TT (qi_L sn f) (qm_Runs qm_P (d + 12)) K 1003 _ _ _ _ _ _
  refine st_callw (y := 125) (rc := 9) (pc2 := 1006) rfl rfl rfl rfl rfl rfl rfl rfl rfl rfl rfl (lo_0 qLM) ?_
  refine h1 _ (fun r M1 hA => ?_)
  show qm_TT (qi_L sn f) (qm_Runs qm_P (d + 12)) K 1006 _ _ _ _ _ _
  refine st_one (i := .aload_n 2) (n := 1) (ts := []) rfl ?_
  show qm_TT (qi_L sn f) (qm_Runs qm_P (d + 12)) K 1007 _ _ _ _ _ _
  refine st_callw (y := 210) (rc := 10) (pc2 := 1010) rfl rfl rfl rfl rfl rfl rfl rfl rfl rfl rfl (lo_71 ()) ?_
  refine h2 _ _ hA _ (fun M2 hM2 => ?_)
  show qm_TT (qi_L sn f) (qm_Runs qm_P (d + 12)) K 1010 _ _ _ _ _ _
  refine st_one (i := .if_icmp .eq 103) (n := 3) (ts := [1113]) rfl ?_
  refine And.intro (fun _ => ?_) (fun hne => absurd (show r = r from rfl) hne)
  exact hn M2 hM2
set_option maxRecDepth 40000 in
theorem lwc_29 {sn : Nat} {f : Nat → Int} {d : Nat} {K : qm_K} {M : qm_M} {i : Int} (hsn : sn < 2147483648) (hi : 0 ≤ i ∧ i + 3 < (sn : Int)) (hM : bI M) (hn : ∀ M2, bI M2 → qm_TT (qi_L sn f) (qm_Runs qm_P (d + 12)) K 1113 (lwLs i) [] (qL qLM) M2 96 118972) : qm_TT (qi_L sn f) (qm_Runs qm_P (d + 12)) K 1015 (lwLs i) [] (qL qLM) M 96 118972 := by
  obtain ⟨A, h1, h2⟩ := (j_blocking) d M hM
  refine st_one (i := .aload_n 1) (n := 1) (ts := []) rfl ?_
  show qm_TT (qi_L sn f) (qm_Runs qm_P (d + 12)) K 1016 _ _ _ _ _ _
  refine st_callw (y := 126) (rc := 9) (pc2 := 1019) rfl rfl rfl rfl rfl rfl rfl rfl rfl rfl rfl (lo_0 qLM) ?_
  refine h1 _ (fun r M1 hA => ?_)
  show qm_TT (qi_L sn f) (qm_Runs qm_P (d + 12)) K 1019 _ _ _ _ _ _
  refine st_one (i := .aload_n 2) (n := 1) (ts := []) rfl ?_
  show qm_TT (qi_L sn f) (qm_Runs qm_P (d + 12)) K 1020 _ _ _ _ _ _
  refine st_callw (y := 211) (rc := 10) (pc2 := 1023) rfl rfl rfl rfl rfl rfl rfl rfl rfl rfl rfl (lo_71 ()) ?_
  refine h2 _ _ hA _ (fun M2 hM2 => ?_)
  show qm_TT (qi_L sn f) (qm_Runs qm_P (d + 12)) K 1023 _ _ _ _ _ _
  refine st_one (i := .if_icmp .eq 90) (n := 3) (ts := [1113]) rfl ?_
  refine And.intro (fun _ => ?_) (fun hne => absurd (show r = r from rfl) hne)
  exact hn M2 hM2
set_option maxRecDepth 40000 in
theorem lwc_30 {sn : Nat} {f : Nat → Int} {d : Nat} {K : qm_K} {M : qm_M} {i : Int} (hsn : sn < 2147483648) (hi : 0 ≤ i ∧ i + 3 < (sn : Int)) (hM : bI M) (hn : ∀ M2, bI M2 → qm_TT (qi_L sn f) (qm_Runs qm_P (d + 12)) K 1113 (lwLs i) [] (qL qLM) M2 96 118972) : qm_TT (qi_L sn f) (qm_Runs qm_P (d + 12)) K 1028 (lwLs i) [] (qL qLM) M 96 118972 := by
  obtain ⟨A, h1, h2⟩ := (j_mended (x := f (i + ((1 : Nat) : Int)).toNat)) d M hM
  refine st_one (i := .aload_n 1) (n := 1) (ts := []) rfl ?_
  show qm_TT (qi_L sn f) (qm_Runs qm_P (d + 12)) K 1029 _ _ _ _ _ _
  refine st_arg (k := 1) (pc2 := 1034) rfl rfl rfl rfl rfl rfl rfl rfl rfl (by omega) (by omega) ?_
  refine st_callw (y := 127) (rc := 9) (pc2 := 1037) rfl rfl rfl rfl rfl rfl rfl rfl rfl rfl rfl (lo_0 qLM) ?_
  refine h1 _ (fun r M1 hA => ?_)
  show qm_TT (qi_L sn f) (qm_Runs qm_P (d + 12)) K 1037 _ _ _ _ _ _
  refine st_one (i := .aload_n 2) (n := 1) (ts := []) rfl ?_
  show qm_TT (qi_L sn f) (qm_Runs qm_P (d + 12)) K 1038 _ _ _ _ _ _
  refine st_arg (k := 1) (pc2 := 1043) rfl rfl rfl rfl rfl rfl rfl rfl rfl (by omega) (by omega) ?_
  refine st_callw (y := 212) (rc := 10) (pc2 := 1046) rfl rfl rfl rfl rfl rfl rfl rfl rfl rfl rfl (lo_71 ()) ?_
  refine h2 _ _ hA _ (fun M2 hM2 => ?_)
  show qm_TT (qi_L sn f) (qm_Runs qm_P (d + 12)) K 1046 _ _ _ _ _ _
  refine st_one (i := .if_icmp .eq 67) (n := 3) (ts := [1113]) rfl ?_
  refine And.intro (fun _ => ?_) (fun hne => absurd (show r = r from rfl) hne)
  exact hn M2 hM2
set_option maxRecDepth 40000 in
theorem lwc_31 {sn : Nat} {f : Nat → Int} {d : Nat} {K : qm_K} {M : qm_M} {i : Int} (hsn : sn < 2147483648) (hi : 0 ≤ i ∧ i + 3 < (sn : Int)) (hM : bI M) (hn : ∀ M2, bI M2 → qm_TT (qi_L sn f) (qm_Runs qm_P (d + 12)) K 1113 (lwLs i) [] (qL qLM) M2 96 118972) : qm_TT (qi_L sn f) (qm_Runs qm_P (d + 12)) K 1051 (lwLs i) [] (qL qLM) M 96 118972 := by
  obtain ⟨A, h1, h2⟩ := (j_known) d M hM
  refine st_one (i := .aload_n 1) (n := 1) (ts := []) rfl ?_
  show qm_TT (qi_L sn f) (qm_Runs qm_P (d + 12)) K 1052 _ _ _ _ _ _
  refine st_callw (y := 128) (rc := 9) (pc2 := 1055) rfl rfl rfl rfl rfl rfl rfl rfl rfl rfl rfl (lo_0 qLM) ?_
  refine h1 _ (fun r M1 hA => ?_)
  show qm_TT (qi_L sn f) (qm_Runs qm_P (d + 12)) K 1055 _ _ _ _ _ _
  refine st_one (i := .aload_n 2) (n := 1) (ts := []) rfl ?_
  show qm_TT (qi_L sn f) (qm_Runs qm_P (d + 12)) K 1056 _ _ _ _ _ _
  refine st_callw (y := 213) (rc := 10) (pc2 := 1059) rfl rfl rfl rfl rfl rfl rfl rfl rfl rfl rfl (lo_71 ()) ?_
  refine h2 _ _ hA _ (fun M2 hM2 => ?_)
  show qm_TT (qi_L sn f) (qm_Runs qm_P (d + 12)) K 1059 _ _ _ _ _ _
  refine st_one (i := .if_icmp .eq 54) (n := 3) (ts := [1113]) rfl ?_
  refine And.intro (fun _ => ?_) (fun hne => absurd (show r = r from rfl) hne)
  exact hn M2 hM2
set_option maxRecDepth 40000 in
theorem lwc_32 {sn : Nat} {f : Nat → Int} {d : Nat} {K : qm_K} {M : qm_M} {i : Int} (hsn : sn < 2147483648) (hi : 0 ≤ i ∧ i + 3 < (sn : Int)) (hM : bI M) (hn : ∀ M2, bI M2 → qm_TT (qi_L sn f) (qm_Runs qm_P (d + 12)) K 1113 (lwLs i) [] (qL qLM) M2 96 118972) : qm_TT (qi_L sn f) (qm_Runs qm_P (d + 12)) K 1064 (lwLs i) [] (qL qLM) M 96 118972 := by
  obtain ⟨A, h1, h2⟩ := (j_image) d M hM
  refine st_one (i := .aload_n 1) (n := 1) (ts := []) rfl ?_
  show qm_TT (qi_L sn f) (qm_Runs qm_P (d + 12)) K 1065 _ _ _ _ _ _
  refine st_callw (y := 129) (rc := 9) (pc2 := 1068) rfl rfl rfl rfl rfl rfl rfl rfl rfl rfl rfl (lo_0 qLM) ?_
  refine h1 _ (fun r M1 hA => ?_)
  show qm_TT (qi_L sn f) (qm_Runs qm_P (d + 12)) K 1068 _ _ _ _ _ _
  refine st_one (i := .aload_n 2) (n := 1) (ts := []) rfl ?_
  show qm_TT (qi_L sn f) (qm_Runs qm_P (d + 12)) K 1069 _ _ _ _ _ _
  refine st_callw (y := 214) (rc := 10) (pc2 := 1072) rfl rfl rfl rfl rfl rfl rfl rfl rfl rfl rfl (lo_71 ()) ?_
  refine h2 _ _ hA _ (fun M2 hM2 => ?_)
  show qm_TT (qi_L sn f) (qm_Runs qm_P (d + 12)) K 1072 _ _ _ _ _ _
  refine st_one (i := .if_icmp .eq 41) (n := 3) (ts := [1113]) rfl ?_
  refine And.intro (fun _ => ?_) (fun hne => absurd (show r = r from rfl) hne)
  exact hn M2 hM2
set_option maxRecDepth 40000 in
theorem lwc_33 {sn : Nat} {f : Nat → Int} {d : Nat} {K : qm_K} {M : qm_M} {i : Int} (hsn : sn < 2147483648) (hi : 0 ≤ i ∧ i + 3 < (sn : Int)) (hM : bI M) (hn : ∀ M2, bI M2 → qm_TT (qi_L sn f) (qm_Runs qm_P (d + 12)) K 1113 (lwLs i) [] (qL qLM) M2 96 118972) : qm_TT (qi_L sn f) (qm_Runs qm_P (d + 12)) K 1077 (lwLs i) [] (qL qLM) M 96 118972 := by
  obtain ⟨A, h1, h2⟩ := (j_back) d M hM
  refine st_one (i := .aload_n 1) (n := 1) (ts := []) rfl ?_
  show qm_TT (qi_L sn f) (qm_Runs qm_P (d + 12)) K 1078 _ _ _ _ _ _
  refine st_callw (y := 130) (rc := 9) (pc2 := 1081) rfl rfl rfl rfl rfl rfl rfl rfl rfl rfl rfl (lo_0 qLM) ?_
  refine h1 _ (fun r M1 hA => ?_)
  show qm_TT (qi_L sn f) (qm_Runs qm_P (d + 12)) K 1081 _ _ _ _ _ _
  refine st_one (i := .aload_n 2) (n := 1) (ts := []) rfl ?_
  show qm_TT (qi_L sn f) (qm_Runs qm_P (d + 12)) K 1082 _ _ _ _ _ _
  refine st_callw (y := 215) (rc := 10) (pc2 := 1085) rfl rfl rfl rfl rfl rfl rfl rfl rfl rfl rfl (lo_71 ()) ?_
  refine h2 _ _ hA _ (fun M2 hM2 => ?_)
  show qm_TT (qi_L sn f) (qm_Runs qm_P (d + 12)) K 1085 _ _ _ _ _ _
  refine st_one (i := .if_icmp .eq 28) (n := 3) (ts := [1113]) rfl ?_
  refine And.intro (fun _ => ?_) (fun hne => absurd (show r = r from rfl) hne)
  exact hn M2 hM2
set_option maxRecDepth 40000 in
theorem lwc_34 {sn : Nat} {f : Nat → Int} {d : Nat} {K : qm_K} {M : qm_M} {i : Int} (hsn : sn < 2147483648) (hi : 0 ≤ i ∧ i + 3 < (sn : Int)) (hM : bI M) (hn : ∀ M2, bI M2 → qm_TT (qi_L sn f) (qm_Runs qm_P (d + 12)) K 1113 (lwLs i) [] (qL qLM) M2 96 118972) : qm_TT (qi_L sn f) (qm_Runs qm_P (d + 12)) K 1090 (lwLs i) [] (qL qLM) M 96 118972 := by
  obtain ⟨A, h1, h2⟩ := (j_count (x := f (i + ((1 : Nat) : Int)).toNat)) d M hM
  refine st_one (i := .aload_n 1) (n := 1) (ts := []) rfl ?_
  show qm_TT (qi_L sn f) (qm_Runs qm_P (d + 12)) K 1091 _ _ _ _ _ _
  refine st_arg (k := 1) (pc2 := 1096) rfl rfl rfl rfl rfl rfl rfl rfl rfl (by omega) (by omega) ?_
  refine st_callw (y := 131) (rc := 9) (pc2 := 1099) rfl rfl rfl rfl rfl rfl rfl rfl rfl rfl rfl (lo_0 qLM) ?_
  refine h1 _ (fun r M1 hA => ?_)
  show qm_TT (qi_L sn f) (qm_Runs qm_P (d + 12)) K 1099 _ _ _ _ _ _
  refine st_one (i := .aload_n 2) (n := 1) (ts := []) rfl ?_
  show qm_TT (qi_L sn f) (qm_Runs qm_P (d + 12)) K 1100 _ _ _ _ _ _
  refine st_arg (k := 1) (pc2 := 1105) rfl rfl rfl rfl rfl rfl rfl rfl rfl (by omega) (by omega) ?_
  refine st_callw (y := 216) (rc := 10) (pc2 := 1108) rfl rfl rfl rfl rfl rfl rfl rfl rfl rfl rfl (lo_71 ()) ?_
  refine h2 _ _ hA _ (fun M2 hM2 => ?_)
  show qm_TT (qi_L sn f) (qm_Runs qm_P (d + 12)) K 1108 _ _ _ _ _ _
  refine st_one (i := .if_icmp .eq 5) (n := 3) (ts := [1113]) rfl ?_
  refine And.intro (fun _ => ?_) (fun hne => absurd (show r = r from rfl) hne)
  exact hn M2 hM2
