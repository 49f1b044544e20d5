theorem qm_sw_all {a : Int} {X : Nat → Prop} {d : Nat} (hd : X d) : ∀ l : List (Int × Nat), (∀ e ∈ l, X e.2) → qm_sw a X d l
  | [], _ => hd
  | e :: l, h => ⟨fun _ => h e List.mem_cons_self, fun _ => qm_sw_all hd l (fun e he => h e (List.mem_cons_of_mem _ he))⟩
set_option maxRecDepth 40000 in
theorem law_loop {sn : Nat} {f : Nat → Int} {d : Nat} {K : qm_K} (hsn : sn ≤ 2048) (hK : ∀ M, K (.inl 1) (qL qLM) M) : ∀ (j : Nat) (i : Int) (M : qm_M), 0 ≤ i → (sn : Int) - i ≤ (j : Int) → i ≤ 100000 → bI M → qm_TT (qi_L sn f) (qm_Runs qm_P (d + 12)) K 18 (lwLs i) [] (qL qLM) M 96 118972 := by
  intro j
  induction j with
  | zero =>
    intro i M h0 hj h1 hM
    refine st_one (i := .iload_n 3) (n := 1) (ts := []) rfl ?_
    show qm_TT (qi_L sn f) (qm_Runs qm_P (d + 12)) K 19 _ _ _ _ _ _
    refine st_one (i := .aload_n 0) (n := 1) (ts := []) rfl ?_
    show qm_TT (qi_L sn f) (qm_Runs qm_P (d + 12)) K 20 _ _ _ _ _ _
    refine st_one (i := .arraylength) (n := 1) (ts := []) rfl ?_
    show qm_TT (qi_L sn f) (qm_Runs qm_P (d + 12)) K 21 _ [.inl (sn : Int), .inl i] _ _ _ _
    refine st_one (i := .iconst 4) (n := 1) (ts := []) rfl ?_
    show qm_TT (qi_L sn f) (qm_Runs qm_P (d + 12)) K 22 _ _ _ _ _ _
    refine st_one (i := .isub) (n := 1) (ts := []) rfl ?_
    refine And.intro (show qm_R ((sn : Int) - 4) by unfold qm_R; omega) ?_
    show qm_TT (qi_L sn f) (qm_Runs qm_P (d + 12)) K 23 _ _ _ _ _ _
    refine st_one (i := .if_icmp .gt 1096) (n := 3) (ts := [1119]) rfl ?_
    refine And.intro (fun _ => ?_) (fun h => absurd (show (sn : Int) - 4 < i by omega) h)
    show qm_TT (qi_L sn f) (qm_Runs qm_P (d + 12)) K 1119 _ _ _ _ _ _
    refine st_one (i := .iconst 1) (n := 1) (ts := []) rfl ?_
    show qm_TT (qi_L sn f) (qm_Runs qm_P (d + 12)) K 1120 _ _ _ _ _ _
    refine st_one (i := .ireturn) (n := 1) (ts := []) rfl ?_
    exact And.intro (Or.inr rfl) (hK M)
  | succ j ih =>
    intro i M h0 hj h1 hM
    refine st_one (i := .iload_n 3) (n := 1) (ts := []) rfl ?_
    show qm_TT (qi_L sn f) (qm_Runs qm_P (d + 12)) K 19 _ _ _ _ _ _
    refine st_one (i := .aload_n 0) (n := 1) (ts := []) rfl ?_
    show qm_TT (qi_L sn f) (qm_Runs qm_P (d + 12)) K 20 _ _ _ _ _ _
    refine st_one (i := .arraylength) (n := 1) (ts := []) rfl ?_
    show qm_TT (qi_L sn f) (qm_Runs qm_P (d + 12)) K 21 _ [.inl (sn : Int), .inl i] _ _ _ _
    refine st_one (i := .iconst 4) (n := 1) (ts := []) rfl ?_
    show qm_TT (qi_L sn f) (qm_Runs qm_P (d + 12)) K 22 _ _ _ _ _ _
    refine st_one (i := .isub) (n := 1) (ts := []) rfl ?_
    refine And.intro (show qm_R ((sn : Int) - 4) by unfold qm_R; omega) ?_
    show qm_TT (qi_L sn f) (qm_Runs qm_P (d + 12)) K 23 _ _ _ _ _ _
    refine st_one (i := .if_icmp .gt 1096) (n := 3) (ts := [1119]) rfl ?_
    refine And.intro (fun _ => ?_) (fun h => ?_)
    · have _h := h0
      show qm_TT (qi_L sn f) (qm_Runs qm_P (d + 12)) K 1119 _ _ _ _ _ _
      refine st_one (i := .iconst 1) (n := 1) (ts := []) rfl ?_
      show qm_TT (qi_L sn f) (qm_Runs qm_P (d + 12)) K 1120 _ _ _ _ _ _
      refine st_one (i := .ireturn) (n := 1) (ts := []) rfl ?_
      exact And.intro (Or.inr rfl) (hK M)
    · have h : ¬ (sn : Int) - 4 < i := h
      have hsn : sn < 2147483648 := by omega
      have hb : 0 ≤ i ∧ i + 3 < (sn : Int) := by omega
      have hn : ∀ M2, bI M2 → qm_TT (qi_L sn f) (qm_Runs qm_P (d + 12)) K 1113 (lwLs i) [] (qL qLM) M2 96 118972 := fun M2 hM2 => by
        refine st_one (i := .iinc 3 4) (n := 3) (ts := []) rfl ?_
        refine And.intro (by unfold qm_R; omega) ?_
        show qm_TT (qi_L sn f) (qm_Runs qm_P (d + 12)) K 1116 (lwLs (i + 4)) [] (qL qLM) M2 96 118972
        refine st_one (i := .goto (-1098)) (n := 3) (ts := [18]) rfl ?_
        exact ih (i + 4) M2 (by omega) (by omega) (by omega) hM2
      show qm_TT (qi_L sn f) (qm_Runs qm_P (d + 12)) K 26 _ _ _ _ _ _
      refine st_one (i := .aload_n 0) (n := 1) (ts := []) rfl ?_
      show qm_TT (qi_L sn f) (qm_Runs qm_P (d + 12)) K 27 _ _ _ _ _ _
      refine st_one (i := .iload_n 3) (n := 1) (ts := []) rfl ?_
      show qm_TT (qi_L sn f) (qm_Runs qm_P (d + 12)) K 28 _ _ _ _ _ _
      refine st_one (i := .iaload) (n := 1) (ts := []) rfl ?_
      refine And.intro h0 (And.intro (show i < (sn : Int) by omega) ?_)
      show qm_TT (qi_L sn f) (qm_Runs qm_P (d + 12)) K 29 _ _ _ _ _ _
      refine st_one (i := .bipush 63) (n := 2) (ts := []) rfl ?_
      show qm_TT (qi_L sn f) (qm_Runs qm_P (d + 12)) K 31 _ _ _ _ _ _
      refine st_one (i := .iand) (n := 1) (ts := []) rfl ?_
      show qm_TT (qi_L sn f) (qm_Runs qm_P (d + 12)) K 32 _ _ _ _ _ _
      refine st_one (i := .tableswitch 1081 0 34 #[156, 179, 202, 215, 258, 301, 344, 357, 370, 413, 446, 469, 502, 525, 558, 581, 604, 647, 680, 703, 716, 759, 802, 835, 848, 881, 914, 947, 970, 983, 996, 1019, 1032, 1045, 1058]) (n := 156) (ts := [1113, 188, 211, 234, 247, 290, 333, 376, 389, 402, 445, 478, 501, 534, 557, 590, 613, 636, 679, 712, 735, 748, 791, 834, 867, 880, 913, 946, 979, 1002, 1015, 1028, 1051, 1064, 1077, 1090]) rfl ?_
      refine qm_sw_all (X := fun t => qm_TT (qi_L sn f) (qm_Runs qm_P (d + 12)) K t (lwLs i) [] (qL qLM) M 96 118972) (hn M hM) (qm_keys 0 [188, 211, 234, 247, 290, 333, 376, 389, 402, 445, 478, 501, 534, 557, 590, 613, 636, 679, 712, 735, 748, 791, 834, 867, 880, 913, 946, 979, 1002, 1015, 1028, 1051, 1064, 1077, 1090]) ?_
      exact List.forall_mem_cons.mpr ⟨lwc_0 hsn hb hM hn, List.forall_mem_cons.mpr ⟨lwc_1 hsn hb hM hn, List.forall_mem_cons.mpr ⟨lwc_2 hsn hb hM hn, List.forall_mem_cons.mpr ⟨lwc_3 hsn hb hM hn, List.forall_mem_cons.mpr ⟨lwc_4 hsn hb hM hn, List.forall_mem_cons.mpr ⟨lwc_5 hsn hb hM hn, List.forall_mem_cons.mpr ⟨lwc_6 hsn hb hM hn, List.forall_mem_cons.mpr ⟨lwc_7 hsn hb hM hn, List.forall_mem_cons.mpr ⟨lwc_8 hsn hb hM hn, List.forall_mem_cons.mpr ⟨lwc_9 hsn hb hM hn, List.forall_mem_cons.mpr ⟨lwc_10 hsn hb hM hn, List.forall_mem_cons.mpr ⟨lwc_11 hsn hb hM hn, List.forall_mem_cons.mpr ⟨lwc_12 hsn hb hM hn, List.forall_mem_cons.mpr ⟨lwc_13 hsn hb hM hn, List.forall_mem_cons.mpr ⟨lwc_14 hsn hb hM hn, List.forall_mem_cons.mpr ⟨lwc_15 hsn hb hM hn, List.forall_mem_cons.mpr ⟨lwc_16 hsn hb hM hn, List.forall_mem_cons.mpr ⟨lwc_17 hsn hb hM hn, List.forall_mem_cons.mpr ⟨lwc_18 hsn hb hM hn, List.forall_mem_cons.mpr ⟨lwc_19 hsn hb hM hn, List.forall_mem_cons.mpr ⟨lwc_20 hsn hb hM hn, List.forall_mem_cons.mpr ⟨lwc_21 hsn hb hM hn, List.forall_mem_cons.mpr ⟨lwc_22 hsn hb hM hn, List.forall_mem_cons.mpr ⟨lwc_23 hsn hb hM hn, List.forall_mem_cons.mpr ⟨lwc_24 hsn hb hM hn, List.forall_mem_cons.mpr ⟨lwc_25 hsn hb hM hn, List.forall_mem_cons.mpr ⟨lwc_26 hsn hb hM hn, List.forall_mem_cons.mpr ⟨lwc_27 hsn hb hM hn, List.forall_mem_cons.mpr ⟨lwc_28 hsn hb hM hn, List.forall_mem_cons.mpr ⟨lwc_29 hsn hb hM hn, List.forall_mem_cons.mpr ⟨lwc_30 hsn hb hM hn, List.forall_mem_cons.mpr ⟨lwc_31 hsn hb hM hn, List.forall_mem_cons.mpr ⟨lwc_32 hsn hb hM hn, List.forall_mem_cons.mpr ⟨lwc_33 hsn hb hM hn, List.forall_mem_cons.mpr ⟨lwc_34 hsn hb hM hn, fun _ h => absurd h List.not_mem_nil⟩⟩⟩⟩⟩⟩⟩⟩⟩⟩⟩⟩⟩⟩⟩⟩⟩⟩⟩⟩⟩⟩⟩⟩⟩⟩⟩⟩⟩⟩⟩⟩⟩⟩⟩
