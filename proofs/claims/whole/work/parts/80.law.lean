set_option maxRecDepth 20000 in
theorem law_start {sn : Nat} {f : Nat → Int} {d : Nat} {K : qm_K} (hsn : sn ≤ 2048) (hK : ∀ L M, K (.inl 1) L M) : qm_TT (qi_L sn f) (qm_Runs qm_P (d + 12)) K 0 [some (.inr none), none, none, none] [] [] (fun _ _ => 0) 0 0 := by
  refine st_new (pc2 := 3) (e := 9) (df := [some none, some none, some none, some none, some none, some none, some none, some none, some none, some none, none]) (c2 := 1) (s2 := 11) rfl rfl rfl rfl rfl rfl rfl rfl ?_
  rw [qz_id (M := fun _ _ => 0) (fun _ => rfl)]
  refine st_one (i := .dup) (n := 1) (ts := []) rfl ?_
  show qm_TT (qi_L sn f) (qm_Runs qm_P (d + 12)) K 4 _ _ _ _ _ _
  refine st_callp (y := 96) (pc2 := 7) (c2 := 71) (s2 := 110674) rfl rfl rfl rfl rfl rfl rfl rfl rfl rfl rfl rfl ?_
  refine s_init_Cls (A := []) (d := d + 8) rfl (fun _ _ _ => rfl) (fun M2 hc he => ?_)
  show qm_TT (qi_L sn f) (qm_Runs qm_P (d + 12)) K 7 _ _ _ _ _ _
  refine st_one (i := .astore_n 1) (n := 1) (ts := []) rfl ?_
  show qm_TT (qi_L sn f) (qm_Runs qm_P (d + 12)) K 8 [some (.inr none), some (.inr (some 0)), none, none] [] (qL []) M2 71 110674
  refine st_L (L2 := qLX) (List.append_nil _) ?_
  refine st_new (pc2 := 11) (e := 10) (df := (none :: none :: some none :: some none :: some none :: some none :: some none :: some none :: none :: none :: some none :: some none :: some none :: some none :: none :: none :: none :: some none :: some none :: some none :: some none :: some none :: some none :: some none :: none :: some none :: some none :: some none :: some none :: some none :: some none :: none :: none :: some none :: none :: none :: none :: none :: [])) (c2 := 72) (s2 := 110712) rfl rfl rfl rfl rfl rfl rfl rfl ?_
  have h71 : qLX.length = 71 := rfl
  have hz : ∀ c x, qLX.length ≤ c → M2 c x = 0 := fun c x h => by rw [he c (by rw [← h71]; exact h)]
  rw [qz_id (M := M2) (fun x => hz _ x (Nat.le_refl _))]
  refine st_one (i := .dup) (n := 1) (ts := []) rfl ?_
  show qm_TT (qi_L sn f) (qm_Runs qm_P (d + 12)) K 12 _ _ _ _ _ _
  refine st_callp (y := 141) (pc2 := 15) (c2 := 96) (s2 := 118972) rfl rfl rfl rfl rfl rfl rfl rfl rfl rfl rfl rfl ?_
  refine s_init_Ref (A := qLX) (d := d + 9) rfl hz (fun M3 hr he3 => ?_)
  show qm_TT (qi_L sn f) (qm_Runs qm_P (d + 12)) K 15 _ _ _ _ _ _
  refine st_one (i := .astore_n 2) (n := 1) (ts := []) rfl ?_
  show qm_TT (qi_L sn f) (qm_Runs qm_P (d + 12)) K 16 [some (.inr none), some (.inr (some 0)), some (.inr (some 71)), none] [] (qL qLM) M3 96 118972
  refine st_one (i := .iconst 0) (n := 1) (ts := []) rfl ?_
  show qm_TT (qi_L sn f) (qm_Runs qm_P (d + 12)) K 17 _ _ _ _ _ _
  refine st_one (i := .istore_n 3) (n := 1) (ts := []) rfl ?_
  show qm_TT (qi_L sn f) (qm_Runs qm_P (d + 12)) K 18 (lwLs 0) [] (qL qLM) M3 96 118972
  exact law_loop hsn (fun M => hK _ M) sn 0 M3 (Int.le_refl _) (by omega) (by omega) ⟨_, _, _, _, _, _, _, _, _, _, _, _, _, _, cI_r hc he3, hr⟩
