theorem qd_0 : ∀ e ∈ qc_0, decode cX0_init e.1 = .ok (e.2.1, e.2.2.1) := by decide +kernel
theorem qo_0 : qm_MOk qm_It qm_P 0 := ⟨⟨qd_0, by decide +kernel, qf_0, qn_0, qk_0⟩, by decide +kernel, by decide +kernel, by decide +kernel, by decide +kernel, rfl⟩
theorem qd_1 : ∀ e ∈ qc_1, decode cX0_outcome e.1 = .ok (e.2.1, e.2.2.1) := by decide +kernel
theorem qo_1 : qm_MOk qm_It qm_P 1 := ⟨⟨qd_1, by decide +kernel, qf_0, qn_0, qk_0⟩, by decide +kernel, by decide +kernel, by decide +kernel, by decide +kernel, rfl⟩
theorem qd_2 : ∀ e ∈ qc_2, decode cX0_times e.1 = .ok (e.2.1, e.2.2.1) := by decide +kernel
theorem qo_2 : qm_MOk qm_It qm_P 2 := ⟨⟨qd_2, by decide +kernel, qf_0, qn_0, qk_0⟩, by decide +kernel, by decide +kernel, by decide +kernel, by decide +kernel, rfl⟩
theorem qd_3 : ∀ e ∈ qc_3, decode cX0_told e.1 = .ok (e.2.1, e.2.2.1) := by decide +kernel
theorem qo_3 : qm_MOk qm_It qm_P 3 := ⟨⟨qd_3, by decide +kernel, qf_0, qn_0, qk_0⟩, by decide +kernel, by decide +kernel, by decide +kernel, by decide +kernel, rfl⟩
theorem qd_4 : ∀ e ∈ qc_4, decode cX0_run e.1 = .ok (e.2.1, e.2.2.1) := by decide +kernel
theorem qo_4 : qm_MOk qm_It qm_P 4 := ⟨⟨qd_4, by decide +kernel, qf_0, qn_0, qk_0⟩, by decide +kernel, by decide +kernel, by decide +kernel, by decide +kernel, rfl⟩
theorem qd_5 : ∀ e ∈ qc_5, decode cX0_leastAlone e.1 = .ok (e.2.1, e.2.2.1) := by decide +kernel
theorem qo_5 : qm_MOk qm_It qm_P 5 := ⟨⟨qd_5, by decide +kernel, qf_0, qn_0, qk_0⟩, by decide +kernel, by decide +kernel, by decide +kernel, by decide +kernel, rfl⟩
theorem qd_6 : ∀ e ∈ qc_6, decode cX0_ask e.1 = .ok (e.2.1, e.2.2.1) := by decide +kernel
theorem qo_6 : qm_MOk qm_It qm_P 6 := ⟨⟨qd_6, by decide +kernel, qf_0, qn_0, qk_0⟩, by decide +kernel, by decide +kernel, by decide +kernel, by decide +kernel, rfl⟩
theorem qd_7 : ∀ e ∈ qc_7, decode cX1_init e.1 = .ok (e.2.1, e.2.2.1) := by decide +kernel
theorem qo_7 : qm_MOk qm_It qm_P 7 := ⟨⟨qd_7, by decide +kernel, qf_1, qn_1, qk_1⟩, by decide +kernel, by decide +kernel, by decide +kernel, by decide +kernel, rfl⟩
theorem qd_8 : ∀ e ∈ qc_8, decode cX1_behind e.1 = .ok (e.2.1, e.2.2.1) := by decide +kernel
theorem qo_8 : qm_MOk qm_It qm_P 8 := ⟨⟨qd_8, by decide +kernel, qf_1, qn_1, qk_1⟩, by decide +kernel, by decide +kernel, by decide +kernel, by decide +kernel, rfl⟩
theorem qd_9 : ∀ e ∈ qc_9, decode cX1_before e.1 = .ok (e.2.1, e.2.2.1) := by decide +kernel
theorem qo_9 : qm_MOk qm_It qm_P 9 := ⟨⟨qd_9, by decide +kernel, qf_1, qn_1, qk_1⟩, by decide +kernel, by decide +kernel, by decide +kernel, by decide +kernel, rfl⟩
theorem qd_10 : ∀ e ∈ qc_10, decode cX1_forget e.1 = .ok (e.2.1, e.2.2.1) := by decide +kernel
theorem qo_10 : qm_MOk qm_It qm_P 10 := ⟨⟨qd_10, by decide +kernel, qf_1, qn_1, qk_1⟩, by decide +kernel, by decide +kernel, by decide +kernel, by decide +kernel, rfl⟩
theorem qd_11 : ∀ e ∈ qc_11, decode cX1_note e.1 = .ok (e.2.1, e.2.2.1) := by decide +kernel
theorem qo_11 : qm_MOk qm_It qm_P 11 := ⟨⟨qd_11, by decide +kernel, qf_1, qn_1, qk_1⟩, by decide +kernel, by decide +kernel, by decide +kernel, by decide +kernel, rfl⟩
theorem qd_12 : ∀ e ∈ qc_12, decode cX1_stepBack e.1 = .ok (e.2.1, e.2.2.1) := by decide +kernel
theorem qo_12 : qm_MOk qm_It qm_P 12 := ⟨⟨qd_12, by decide +kernel, qf_1, qn_1, qk_1⟩, by decide +kernel, by decide +kernel, by decide +kernel, by decide +kernel, rfl⟩
theorem qd_13 : ∀ e ∈ qc_13, decode cX1_stepOn e.1 = .ok (e.2.1, e.2.2.1) := by decide +kernel
theorem qo_13 : qm_MOk qm_It qm_P 13 := ⟨⟨qd_13, by decide +kernel, qf_1, qn_1, qk_1⟩, by decide +kernel, by decide +kernel, by decide +kernel, by decide +kernel, rfl⟩
theorem qd_14 : ∀ e ∈ qc_14, decode cX1_start e.1 = .ok (e.2.1, e.2.2.1) := by decide +kernel
theorem qo_14 : qm_MOk qm_It qm_P 14 := ⟨⟨qd_14, by decide +kernel, qf_1, qn_1, qk_1⟩, by decide +kernel, by decide +kernel, by decide +kernel, by decide +kernel, rfl⟩
theorem qd_15 : ∀ e ∈ qc_15, decode cX2_init e.1 = .ok (e.2.1, e.2.2.1) := by decide +kernel
theorem qo_15 : qm_MOk qm_It qm_P 15 := ⟨⟨qd_15, by decide +kernel, qf_2, qn_2, qk_2⟩, by decide +kernel, by decide +kernel, by decide +kernel, by decide +kernel, rfl⟩
theorem qd_16 : ∀ e ∈ qc_16, decode cX2_isThere e.1 = .ok (e.2.1, e.2.2.1) := by decide +kernel
theorem qo_16 : qm_MOk qm_It qm_P 16 := ⟨⟨qd_16, by decide +kernel, qf_2, qn_2, qk_2⟩, by decide +kernel, by decide +kernel, by decide +kernel, by decide +kernel, rfl⟩
theorem qd_17 : ∀ e ∈ qc_17, decode cX2_take e.1 = .ok (e.2.1, e.2.2.1) := by decide +kernel
theorem qo_17 : qm_MOk qm_It qm_P 17 := ⟨⟨qd_17, by decide +kernel, qf_2, qn_2, qk_2⟩, by decide +kernel, by decide +kernel, by decide +kernel, by decide +kernel, rfl⟩
theorem qd_18 : ∀ e ∈ qc_18, decode cX2_layBack e.1 = .ok (e.2.1, e.2.2.1) := by decide +kernel
theorem qo_18 : qm_MOk qm_It qm_P 18 := ⟨⟨qd_18, by decide +kernel, qf_2, qn_2, qk_2⟩, by decide +kernel, by decide +kernel, by decide +kernel, by decide +kernel, rfl⟩
theorem qd_19 : ∀ e ∈ qc_19, decode cX3_init e.1 = .ok (e.2.1, e.2.2.1) := by decide +kernel
theorem qo_19 : qm_MOk qm_It qm_P 19 := ⟨⟨qd_19, by decide +kernel, qf_3, qn_3, qk_3⟩, by decide +kernel, by decide +kernel, by decide +kernel, by decide +kernel, rfl⟩
theorem qd_20 : ∀ e ∈ qc_20, decode cX3_each e.1 = .ok (e.2.1, e.2.2.1) := by decide +kernel
theorem qo_20 : qm_MOk qm_It qm_P 20 := ⟨⟨qd_20, by decide +kernel, qf_3, qn_3, qk_3⟩, by decide +kernel, by decide +kernel, by decide +kernel, by decide +kernel, rfl⟩
theorem qd_21 : ∀ e ∈ qc_21, decode cX3_begin e.1 = .ok (e.2.1, e.2.2.1) := by decide +kernel
theorem qo_21 : qm_MOk qm_It qm_P 21 := ⟨⟨qd_21, by decide +kernel, qf_3, qn_3, qk_3⟩, by decide +kernel, by decide +kernel, by decide +kernel, by decide +kernel, rfl⟩
theorem qd_22 : ∀ e ∈ qc_22, decode cX3_copyFrom e.1 = .ok (e.2.1, e.2.2.1) := by decide +kernel
theorem qo_22 : qm_MOk qm_It qm_P 22 := ⟨⟨qd_22, by decide +kernel, qf_3, qn_3, qk_3⟩, by decide +kernel, by decide +kernel, by decide +kernel, by decide +kernel, rfl⟩
theorem qd_23 : ∀ e ∈ qc_23, decode cX3_who e.1 = .ok (e.2.1, e.2.2.1) := by decide +kernel
theorem qo_23 : qm_MOk qm_It qm_P 23 := ⟨⟨qd_23, by decide +kernel, qf_3, qn_3, qk_3⟩, by decide +kernel, by decide +kernel, by decide +kernel, by decide +kernel, rfl⟩
theorem qd_24 : ∀ e ∈ qc_24, decode cX3_place e.1 = .ok (e.2.1, e.2.2.1) := by decide +kernel
theorem qo_24 : qm_MOk qm_It qm_P 24 := ⟨⟨qd_24, by decide +kernel, qf_3, qn_3, qk_3⟩, by decide +kernel, by decide +kernel, by decide +kernel, by decide +kernel, rfl⟩
theorem qd_25 : ∀ e ∈ qc_25, decode cX3_wouldRather e.1 = .ok (e.2.1, e.2.2.1) := by decide +kernel
theorem qo_25 : qm_MOk qm_It qm_P 25 := ⟨⟨qd_25, by decide +kernel, qf_3, qn_3, qk_3⟩, by decide +kernel, by decide +kernel, by decide +kernel, by decide +kernel, rfl⟩
theorem qd_26 : ∀ e ∈ qc_26, decode cX3_put e.1 = .ok (e.2.1, e.2.2.1) := by decide +kernel
theorem qo_26 : qm_MOk qm_It qm_P 26 := ⟨⟨qd_26, by decide +kernel, qf_3, qn_3, qk_3⟩, by decide +kernel, by decide +kernel, by decide +kernel, by decide +kernel, rfl⟩
theorem qd_27 : ∀ e ∈ qc_27, decode cX3_exchange e.1 = .ok (e.2.1, e.2.2.1) := by decide +kernel
theorem qo_27 : qm_MOk qm_It qm_P 27 := ⟨⟨qd_27, by decide +kernel, qf_3, qn_3, qk_3⟩, by decide +kernel, by decide +kernel, by decide +kernel, by decide +kernel, rfl⟩
theorem qd_28 : ∀ e ∈ qc_28, decode cX3_orders e.1 = .ok (e.2.1, e.2.2.1) := by decide +kernel
theorem qo_28 : qm_MOk qm_It qm_P 28 := ⟨⟨qd_28, by decide +kernel, qf_3, qn_3, qk_3⟩, by decide +kernel, by decide +kernel, by decide +kernel, by decide +kernel, rfl⟩
theorem qd_29 : ∀ e ∈ qc_29, decode cX3_arrange e.1 = .ok (e.2.1, e.2.2.1) := by decide +kernel
theorem qo_29 : qm_MOk qm_It qm_P 29 := ⟨⟨qd_29, by decide +kernel, qf_3, qn_3, qk_3⟩, by decide +kernel, by decide +kernel, by decide +kernel, by decide +kernel, rfl⟩
theorem qd_30 : ∀ e ∈ qc_30, decode cX3_unused e.1 = .ok (e.2.1, e.2.2.1) := by decide +kernel
theorem qo_30 : qm_MOk qm_It qm_P 30 := ⟨⟨qd_30, by decide +kernel, qf_3, qn_3, qk_3⟩, by decide +kernel, by decide +kernel, by decide +kernel, by decide +kernel, rfl⟩
theorem qd_31 : ∀ e ∈ qc_31, decode cX3_doBlock e.1 = .ok (e.2.1, e.2.2.1) := by decide +kernel
theorem qo_31 : qm_MOk qm_It qm_P 31 := ⟨⟨qd_31, by decide +kernel, qf_3, qn_3, qk_3⟩, by decide +kernel, by decide +kernel, by decide +kernel, by decide +kernel, rfl⟩
theorem qd_32 : ∀ e ∈ qc_32, decode cX3_firstBlock e.1 = .ok (e.2.1, e.2.2.1) := by decide +kernel
theorem qo_32 : qm_MOk qm_It qm_P 32 := ⟨⟨qd_32, by decide +kernel, qf_3, qn_3, qk_3⟩, by decide +kernel, by decide +kernel, by decide +kernel, by decide +kernel, rfl⟩
theorem qd_33 : ∀ e ∈ qc_33, decode cX3_howManyBlock e.1 = .ok (e.2.1, e.2.2.1) := by decide +kernel
theorem qo_33 : qm_MOk qm_It qm_P 33 := ⟨⟨qd_33, by decide +kernel, qf_3, qn_3, qk_3⟩, by decide +kernel, by decide +kernel, by decide +kernel, by decide +kernel, rfl⟩
theorem qd_34 : ∀ e ∈ qc_34, decode cX3_costOf e.1 = .ok (e.2.1, e.2.2.1) := by decide +kernel
theorem qo_34 : qm_MOk qm_It qm_P 34 := ⟨⟨qd_34, by decide +kernel, qf_3, qn_3, qk_3⟩, by decide +kernel, by decide +kernel, by decide +kernel, by decide +kernel, rfl⟩
theorem qd_35 : ∀ e ∈ qc_35, decode cX3_saveTo e.1 = .ok (e.2.1, e.2.2.1) := by decide +kernel
theorem qo_35 : qm_MOk qm_It qm_P 35 := ⟨⟨qd_35, by decide +kernel, qf_3, qn_3, qk_3⟩, by decide +kernel, by decide +kernel, by decide +kernel, by decide +kernel, rfl⟩
theorem qd_36 : ∀ e ∈ qc_36, decode cX3_loadFrom e.1 = .ok (e.2.1, e.2.2.1) := by decide +kernel
theorem qo_36 : qm_MOk qm_It qm_P 36 := ⟨⟨qd_36, by decide +kernel, qf_3, qn_3, qk_3⟩, by decide +kernel, by decide +kernel, by decide +kernel, by decide +kernel, rfl⟩
theorem qd_37 : ∀ e ∈ qc_37, decode cX3_cell e.1 = .ok (e.2.1, e.2.2.1) := by decide +kernel
theorem qo_37 : qm_MOk qm_It qm_P 37 := ⟨⟨qd_37, by decide +kernel, qf_3, qn_3, qk_3⟩, by decide +kernel, by decide +kernel, by decide +kernel, by decide +kernel, rfl⟩
theorem qd_38 : ∀ e ∈ qc_38, decode cX4_init e.1 = .ok (e.2.1, e.2.2.1) := by decide +kernel
theorem qo_38 : qm_MOk qm_It qm_P 38 := ⟨⟨qd_38, by decide +kernel, qf_4, qn_4, qk_4⟩, by decide +kernel, by decide +kernel, by decide +kernel, by decide +kernel, rfl⟩
theorem qd_39 : ∀ e ∈ qc_39, decode cX4_total e.1 = .ok (e.2.1, e.2.2.1) := by decide +kernel
theorem qo_39 : qm_MOk qm_It qm_P 39 := ⟨⟨qd_39, by decide +kernel, qf_4, qn_4, qk_4⟩, by decide +kernel, by decide +kernel, by decide +kernel, by decide +kernel, rfl⟩
theorem qd_40 : ∀ e ∈ qc_40, decode cX4_isMatch e.1 = .ok (e.2.1, e.2.2.1) := by decide +kernel
theorem qo_40 : qm_MOk qm_It qm_P 40 := ⟨⟨qd_40, by decide +kernel, qf_4, qn_4, qk_4⟩, by decide +kernel, by decide +kernel, by decide +kernel, by decide +kernel, rfl⟩
theorem qd_41 : ∀ e ∈ qc_41, decode cX4_bits e.1 = .ok (e.2.1, e.2.2.1) := by decide +kernel
theorem qo_41 : qm_MOk qm_It qm_P 41 := ⟨⟨qd_41, by decide +kernel, qf_4, qn_4, qk_4⟩, by decide +kernel, by decide +kernel, by decide +kernel, by decide +kernel, rfl⟩
theorem qd_42 : ∀ e ∈ qc_42, decode cX4_numberOf e.1 = .ok (e.2.1, e.2.2.1) := by decide +kernel
theorem qo_42 : qm_MOk qm_It qm_P 42 := ⟨⟨qd_42, by decide +kernel, qf_4, qn_4, qk_4⟩, by decide +kernel, by decide +kernel, by decide +kernel, by decide +kernel, rfl⟩
theorem qd_43 : ∀ e ∈ qc_43, decode cX4_find e.1 = .ok (e.2.1, e.2.2.1) := by decide +kernel
theorem qo_43 : qm_MOk qm_It qm_P 43 := ⟨⟨qd_43, by decide +kernel, qf_4, qn_4, qk_4⟩, by decide +kernel, by decide +kernel, by decide +kernel, by decide +kernel, rfl⟩
theorem qd_44 : ∀ e ∈ qc_44, decode cX4_load e.1 = .ok (e.2.1, e.2.2.1) := by decide +kernel
theorem qo_44 : qm_MOk qm_It qm_P 44 := ⟨⟨qd_44, by decide +kernel, qf_4, qn_4, qk_4⟩, by decide +kernel, by decide +kernel, by decide +kernel, by decide +kernel, rfl⟩
theorem qd_45 : ∀ e ∈ qc_45, decode cX5_init e.1 = .ok (e.2.1, e.2.2.1) := by decide +kernel
theorem qo_45 : qm_MOk qm_It qm_P 45 := ⟨⟨qd_45, by decide +kernel, qf_5, qn_5, qk_5⟩, by decide +kernel, by decide +kernel, by decide +kernel, by decide +kernel, rfl⟩
theorem qd_46 : ∀ e ∈ qc_46, decode cX5_clear e.1 = .ok (e.2.1, e.2.2.1) := by decide +kernel
theorem qo_46 : qm_MOk qm_It qm_P 46 := ⟨⟨qd_46, by decide +kernel, qf_5, qn_5, qk_5⟩, by decide +kernel, by decide +kernel, by decide +kernel, by decide +kernel, rfl⟩
theorem qd_47 : ∀ e ∈ qc_47, decode cX5_copyFrom e.1 = .ok (e.2.1, e.2.2.1) := by decide +kernel
theorem qo_47 : qm_MOk qm_It qm_P 47 := ⟨⟨qd_47, by decide +kernel, qf_5, qn_5, qk_5⟩, by decide +kernel, by decide +kernel, by decide +kernel, by decide +kernel, rfl⟩
theorem qd_48 : ∀ e ∈ qc_48, decode cX5_partner e.1 = .ok (e.2.1, e.2.2.1) := by decide +kernel
theorem qo_48 : qm_MOk qm_It qm_P 48 := ⟨⟨qd_48, by decide +kernel, qf_5, qn_5, qk_5⟩, by decide +kernel, by decide +kernel, by decide +kernel, by decide +kernel, rfl⟩
theorem qd_49 : ∀ e ∈ qc_49, decode cX5_part e.1 = .ok (e.2.1, e.2.2.1) := by decide +kernel
theorem qo_49 : qm_MOk qm_It qm_P 49 := ⟨⟨qd_49, by decide +kernel, qf_5, qn_5, qk_5⟩, by decide +kernel, by decide +kernel, by decide +kernel, by decide +kernel, rfl⟩
theorem qd_50 : ∀ e ∈ qc_50, decode cX5_join e.1 = .ok (e.2.1, e.2.2.1) := by decide +kernel
theorem qo_50 : qm_MOk qm_It qm_P 50 := ⟨⟨qd_50, by decide +kernel, qf_5, qn_5, qk_5⟩, by decide +kernel, by decide +kernel, by decide +kernel, by decide +kernel, rfl⟩
theorem qd_51 : ∀ e ∈ qc_51, decode cX5_tie e.1 = .ok (e.2.1, e.2.2.1) := by decide +kernel
theorem qo_51 : qm_MOk qm_It qm_P 51 := ⟨⟨qd_51, by decide +kernel, qf_5, qn_5, qk_5⟩, by decide +kernel, by decide +kernel, by decide +kernel, by decide +kernel, rfl⟩
theorem qd_52 : ∀ e ∈ qc_52, decode cX5_cell e.1 = .ok (e.2.1, e.2.2.1) := by decide +kernel
theorem qo_52 : qm_MOk qm_It qm_P 52 := ⟨⟨qd_52, by decide +kernel, qf_5, qn_5, qk_5⟩, by decide +kernel, by decide +kernel, by decide +kernel, by decide +kernel, rfl⟩
theorem qd_53 : ∀ e ∈ qc_53, decode cX6_init e.1 = .ok (e.2.1, e.2.2.1) := by decide +kernel
theorem qo_53 : qm_MOk qm_It qm_P 53 := ⟨⟨qd_53, by decide +kernel, qf_6, qn_6, qk_6⟩, by decide +kernel, by decide +kernel, by decide +kernel, by decide +kernel, rfl⟩
theorem qd_54 : ∀ e ∈ qc_54, decode cX6_get e.1 = .ok (e.2.1, e.2.2.1) := by decide +kernel
theorem qo_54 : qm_MOk qm_It qm_P 54 := ⟨⟨qd_54, by decide +kernel, qf_6, qn_6, qk_6⟩, by decide +kernel, by decide +kernel, by decide +kernel, by decide +kernel, rfl⟩
theorem qd_55 : ∀ e ∈ qc_55, decode cX6_set e.1 = .ok (e.2.1, e.2.2.1) := by decide +kernel
theorem qo_55 : qm_MOk qm_It qm_P 55 := ⟨⟨qd_55, by decide +kernel, qf_6, qn_6, qk_6⟩, by decide +kernel, by decide +kernel, by decide +kernel, by decide +kernel, rfl⟩
theorem qd_56 : ∀ e ∈ qc_56, decode cX6_fill e.1 = .ok (e.2.1, e.2.2.1) := by decide +kernel
theorem qo_56 : qm_MOk qm_It qm_P 56 := ⟨⟨qd_56, by decide +kernel, qf_6, qn_6, qk_6⟩, by decide +kernel, by decide +kernel, by decide +kernel, by decide +kernel, rfl⟩
theorem qd_57 : ∀ e ∈ qc_57, decode cX6_copyFrom e.1 = .ok (e.2.1, e.2.2.1) := by decide +kernel
theorem qo_57 : qm_MOk qm_It qm_P 57 := ⟨⟨qd_57, by decide +kernel, qf_6, qn_6, qk_6⟩, by decide +kernel, by decide +kernel, by decide +kernel, by decide +kernel, rfl⟩
theorem qd_58 : ∀ e ∈ qc_58, decode cX7_init e.1 = .ok (e.2.1, e.2.2.1) := by decide +kernel
theorem qo_58 : qm_MOk qm_It qm_P 58 := ⟨⟨qd_58, by decide +kernel, qf_7, qn_7, qk_7⟩, by decide +kernel, by decide +kernel, by decide +kernel, by decide +kernel, rfl⟩
theorem qd_59 : ∀ e ∈ qc_59, decode cX7_length e.1 = .ok (e.2.1, e.2.2.1) := by decide +kernel
theorem qo_59 : qm_MOk qm_It qm_P 59 := ⟨⟨qd_59, by decide +kernel, qf_7, qn_7, qk_7⟩, by decide +kernel, by decide +kernel, by decide +kernel, by decide +kernel, rfl⟩
theorem qd_60 : ∀ e ∈ qc_60, decode cX7_add e.1 = .ok (e.2.1, e.2.2.1) := by decide +kernel
theorem qo_60 : qm_MOk qm_It qm_P 60 := ⟨⟨qd_60, by decide +kernel, qf_7, qn_7, qk_7⟩, by decide +kernel, by decide +kernel, by decide +kernel, by decide +kernel, rfl⟩
theorem qd_61 : ∀ e ∈ qc_61, decode cX7_clear e.1 = .ok (e.2.1, e.2.2.1) := by decide +kernel
theorem qo_61 : qm_MOk qm_It qm_P 61 := ⟨⟨qd_61, by decide +kernel, qf_7, qn_7, qk_7⟩, by decide +kernel, by decide +kernel, by decide +kernel, by decide +kernel, rfl⟩
theorem qd_62 : ∀ e ∈ qc_62, decode cX7_readInto e.1 = .ok (e.2.1, e.2.2.1) := by decide +kernel
theorem qo_62 : qm_MOk qm_It qm_P 62 := ⟨⟨qd_62, by decide +kernel, qf_7, qn_7, qk_7⟩, by decide +kernel, by decide +kernel, by decide +kernel, by decide +kernel, rfl⟩
theorem qd_63 : ∀ e ∈ qc_63, decode cX7_readLine e.1 = .ok (e.2.1, e.2.2.1) := by decide +kernel
theorem qo_63 : qm_MOk qm_It qm_P 63 := ⟨⟨qd_63, by decide +kernel, qf_7, qn_7, qk_7⟩, by decide +kernel, by decide +kernel, by decide +kernel, by decide +kernel, rfl⟩
theorem qd_64 : ∀ e ∈ qc_64, decode cX7_readFigures e.1 = .ok (e.2.1, e.2.2.1) := by decide +kernel
theorem qo_64 : qm_MOk qm_It qm_P 64 := ⟨⟨qd_64, by decide +kernel, qf_7, qn_7, qk_7⟩, by decide +kernel, by decide +kernel, by decide +kernel, by decide +kernel, rfl⟩
theorem qd_65 : ∀ e ∈ qc_65, decode cX7_sideAt e.1 = .ok (e.2.1, e.2.2.1) := by decide +kernel
theorem qo_65 : qm_MOk qm_It qm_P 65 := ⟨⟨qd_65, by decide +kernel, qf_7, qn_7, qk_7⟩, by decide +kernel, by decide +kernel, by decide +kernel, by decide +kernel, rfl⟩
theorem qd_66 : ∀ e ∈ qc_66, decode cX7_figureAt e.1 = .ok (e.2.1, e.2.2.1) := by decide +kernel
theorem qo_66 : qm_MOk qm_It qm_P 66 := ⟨⟨qd_66, by decide +kernel, qf_7, qn_7, qk_7⟩, by decide +kernel, by decide +kernel, by decide +kernel, by decide +kernel, rfl⟩
theorem qd_67 : ∀ e ∈ qc_67, decode cX7_byteAt e.1 = .ok (e.2.1, e.2.2.1) := by decide +kernel
theorem qo_67 : qm_MOk qm_It qm_P 67 := ⟨⟨qd_67, by decide +kernel, qf_7, qn_7, qk_7⟩, by decide +kernel, by decide +kernel, by decide +kernel, by decide +kernel, rfl⟩
theorem qd_68 : ∀ e ∈ qc_68, decode cX7_faultAt e.1 = .ok (e.2.1, e.2.2.1) := by decide +kernel
theorem qo_68 : qm_MOk qm_It qm_P 68 := ⟨⟨qd_68, by decide +kernel, qf_7, qn_7, qk_7⟩, by decide +kernel, by decide +kernel, by decide +kernel, by decide +kernel, rfl⟩
theorem qd_69 : ∀ e ∈ qc_69, decode cX8_init e.1 = .ok (e.2.1, e.2.2.1) := by decide +kernel
theorem qo_69 : qm_MOk qm_It qm_P 69 := ⟨⟨qd_69, by decide +kernel, qf_8, qn_8, qk_8⟩, by decide +kernel, by decide +kernel, by decide +kernel, by decide +kernel, rfl⟩
theorem qd_70 : ∀ e ∈ qc_70, decode cX8_total e.1 = .ok (e.2.1, e.2.2.1) := by decide +kernel
theorem qo_70 : qm_MOk qm_It qm_P 70 := ⟨⟨qd_70, by decide +kernel, qf_8, qn_8, qk_8⟩, by decide +kernel, by decide +kernel, by decide +kernel, by decide +kernel, rfl⟩
theorem qd_71 : ∀ e ∈ qc_71, decode cX8_isTurn e.1 = .ok (e.2.1, e.2.2.1) := by decide +kernel
theorem qo_71 : qm_MOk qm_It qm_P 71 := ⟨⟨qd_71, by decide +kernel, qf_8, qn_8, qk_8⟩, by decide +kernel, by decide +kernel, by decide +kernel, by decide +kernel, rfl⟩
theorem qd_72 : ∀ e ∈ qc_72, decode cX8_length e.1 = .ok (e.2.1, e.2.2.1) := by decide +kernel
theorem qo_72 : qm_MOk qm_It qm_P 72 := ⟨⟨qd_72, by decide +kernel, qf_8, qn_8, qk_8⟩, by decide +kernel, by decide +kernel, by decide +kernel, by decide +kernel, rfl⟩
theorem qd_73 : ∀ e ∈ qc_73, decode cX8_left e.1 = .ok (e.2.1, e.2.2.1) := by decide +kernel
theorem qo_73 : qm_MOk qm_It qm_P 73 := ⟨⟨qd_73, by decide +kernel, qf_8, qn_8, qk_8⟩, by decide +kernel, by decide +kernel, by decide +kernel, by decide +kernel, rfl⟩
theorem qd_74 : ∀ e ∈ qc_74, decode cX8_right e.1 = .ok (e.2.1, e.2.2.1) := by decide +kernel
theorem qo_74 : qm_MOk qm_It qm_P 74 := ⟨⟨qd_74, by decide +kernel, qf_8, qn_8, qk_8⟩, by decide +kernel, by decide +kernel, by decide +kernel, by decide +kernel, rfl⟩
theorem qd_75 : ∀ e ∈ qc_75, decode cX8_gain e.1 = .ok (e.2.1, e.2.2.1) := by decide +kernel
theorem qo_75 : qm_MOk qm_It qm_P 75 := ⟨⟨qd_75, by decide +kernel, qf_8, qn_8, qk_8⟩, by decide +kernel, by decide +kernel, by decide +kernel, by decide +kernel, rfl⟩
theorem qd_76 : ∀ e ∈ qc_76, decode cX8_needs e.1 = .ok (e.2.1, e.2.2.1) := by decide +kernel
theorem qo_76 : qm_MOk qm_It qm_P 76 := ⟨⟨qd_76, by decide +kernel, qf_8, qn_8, qk_8⟩, by decide +kernel, by decide +kernel, by decide +kernel, by decide +kernel, rfl⟩
theorem qd_77 : ∀ e ∈ qc_77, decode cX8_depth e.1 = .ok (e.2.1, e.2.2.1) := by decide +kernel
theorem qo_77 : qm_MOk qm_It qm_P 77 := ⟨⟨qd_77, by decide +kernel, qf_8, qn_8, qk_8⟩, by decide +kernel, by decide +kernel, by decide +kernel, by decide +kernel, rfl⟩
theorem qd_78 : ∀ e ∈ qc_78, decode cX8_openTo e.1 = .ok (e.2.1, e.2.2.1) := by decide +kernel
theorem qo_78 : qm_MOk qm_It qm_P 78 := ⟨⟨qd_78, by decide +kernel, qf_8, qn_8, qk_8⟩, by decide +kernel, by decide +kernel, by decide +kernel, by decide +kernel, rfl⟩
theorem qd_79 : ∀ e ∈ qc_79, decode cX8_isReady e.1 = .ok (e.2.1, e.2.2.1) := by decide +kernel
theorem qo_79 : qm_MOk qm_It qm_P 79 := ⟨⟨qd_79, by decide +kernel, qf_8, qn_8, qk_8⟩, by decide +kernel, by decide +kernel, by decide +kernel, by decide +kernel, rfl⟩
theorem qd_80 : ∀ e ∈ qc_80, decode cX8_gainOfAll e.1 = .ok (e.2.1, e.2.2.1) := by decide +kernel
theorem qo_80 : qm_MOk qm_It qm_P 80 := ⟨⟨qd_80, by decide +kernel, qf_8, qn_8, qk_8⟩, by decide +kernel, by decide +kernel, by decide +kernel, by decide +kernel, rfl⟩
theorem qd_81 : ∀ e ∈ qc_81, decode cX8_partnersLeft e.1 = .ok (e.2.1, e.2.2.1) := by decide +kernel
theorem qo_81 : qm_MOk qm_It qm_P 81 := ⟨⟨qd_81, by decide +kernel, qf_8, qn_8, qk_8⟩, by decide +kernel, by decide +kernel, by decide +kernel, by decide +kernel, rfl⟩
theorem qd_82 : ∀ e ∈ qc_82, decode cX8_movers e.1 = .ok (e.2.1, e.2.2.1) := by decide +kernel
theorem qo_82 : qm_MOk qm_It qm_P 82 := ⟨⟨qd_82, by decide +kernel, qf_8, qn_8, qk_8⟩, by decide +kernel, by decide +kernel, by decide +kernel, by decide +kernel, rfl⟩
theorem qd_83 : ∀ e ∈ qc_83, decode cX8_behind e.1 = .ok (e.2.1, e.2.2.1) := by decide +kernel
theorem qo_83 : qm_MOk qm_It qm_P 83 := ⟨⟨qd_83, by decide +kernel, qf_8, qn_8, qk_8⟩, by decide +kernel, by decide +kernel, by decide +kernel, by decide +kernel, rfl⟩
theorem qd_84 : ∀ e ∈ qc_84, decode cX8_perform e.1 = .ok (e.2.1, e.2.2.1) := by decide +kernel
theorem qo_84 : qm_MOk qm_It qm_P 84 := ⟨⟨qd_84, by decide +kernel, qf_8, qn_8, qk_8⟩, by decide +kernel, by decide +kernel, by decide +kernel, by decide +kernel, rfl⟩
theorem qd_85 : ∀ e ∈ qc_85, decode cX8_find e.1 = .ok (e.2.1, e.2.2.1) := by decide +kernel
theorem qo_85 : qm_MOk qm_It qm_P 85 := ⟨⟨qd_85, by decide +kernel, qf_8, qn_8, qk_8⟩, by decide +kernel, by decide +kernel, by decide +kernel, by decide +kernel, rfl⟩
theorem qd_86 : ∀ e ∈ qc_86, decode cX8_nextOf e.1 = .ok (e.2.1, e.2.2.1) := by decide +kernel
theorem qo_86 : qm_MOk qm_It qm_P 86 := ⟨⟨qd_86, by decide +kernel, qf_8, qn_8, qk_8⟩, by decide +kernel, by decide +kernel, by decide +kernel, by decide +kernel, rfl⟩
theorem qd_87 : ∀ e ∈ qc_87, decode cX8_firstLeader e.1 = .ok (e.2.1, e.2.2.1) := by decide +kernel
theorem qo_87 : qm_MOk qm_It qm_P 87 := ⟨⟨qd_87, by decide +kernel, qf_8, qn_8, qk_8⟩, by decide +kernel, by decide +kernel, by decide +kernel, by decide +kernel, rfl⟩
theorem qd_88 : ∀ e ∈ qc_88, decode cX8_comesBack e.1 = .ok (e.2.1, e.2.2.1) := by decide +kernel
theorem qo_88 : qm_MOk qm_It qm_P 88 := ⟨⟨qd_88, by decide +kernel, qf_8, qn_8, qk_8⟩, by decide +kernel, by decide +kernel, by decide +kernel, by decide +kernel, rfl⟩
theorem qd_89 : ∀ e ∈ qc_89, decode cX8_keepPairs e.1 = .ok (e.2.1, e.2.2.1) := by decide +kernel
theorem qo_89 : qm_MOk qm_It qm_P 89 := ⟨⟨qd_89, by decide +kernel, qf_8, qn_8, qk_8⟩, by decide +kernel, by decide +kernel, by decide +kernel, by decide +kernel, rfl⟩
theorem qd_90 : ∀ e ∈ qc_90, decode cX8_following e.1 = .ok (e.2.1, e.2.2.1) := by decide +kernel
theorem qo_90 : qm_MOk qm_It qm_P 90 := ⟨⟨qd_90, by decide +kernel, qf_8, qn_8, qk_8⟩, by decide +kernel, by decide +kernel, by decide +kernel, by decide +kernel, rfl⟩
theorem qd_91 : ∀ e ∈ qc_91, decode cX8_keepNeeds e.1 = .ok (e.2.1, e.2.2.1) := by decide +kernel
theorem qo_91 : qm_MOk qm_It qm_P 91 := ⟨⟨qd_91, by decide +kernel, qf_8, qn_8, qk_8⟩, by decide +kernel, by decide +kernel, by decide +kernel, by decide +kernel, rfl⟩
theorem qd_92 : ∀ e ∈ qc_92, decode cX8_withNeeds e.1 = .ok (e.2.1, e.2.2.1) := by decide +kernel
theorem qo_92 : qm_MOk qm_It qm_P 92 := ⟨⟨qd_92, by decide +kernel, qf_8, qn_8, qk_8⟩, by decide +kernel, by decide +kernel, by decide +kernel, by decide +kernel, rfl⟩
theorem qd_93 : ∀ e ∈ qc_93, decode cX8_depthBehind e.1 = .ok (e.2.1, e.2.2.1) := by decide +kernel
theorem qo_93 : qm_MOk qm_It qm_P 93 := ⟨⟨qd_93, by decide +kernel, qf_8, qn_8, qk_8⟩, by decide +kernel, by decide +kernel, by decide +kernel, by decide +kernel, rfl⟩
theorem qd_94 : ∀ e ∈ qc_94, decode cX8_weigh e.1 = .ok (e.2.1, e.2.2.1) := by decide +kernel
theorem qo_94 : qm_MOk qm_It qm_P 94 := ⟨⟨qd_94, by decide +kernel, qf_8, qn_8, qk_8⟩, by decide +kernel, by decide +kernel, by decide +kernel, by decide +kernel, rfl⟩
theorem qd_95 : ∀ e ∈ qc_95, decode cX8_markPassed e.1 = .ok (e.2.1, e.2.2.1) := by decide +kernel
theorem qo_95 : qm_MOk qm_It qm_P 95 := ⟨⟨qd_95, by decide +kernel, qf_8, qn_8, qk_8⟩, by decide +kernel, by decide +kernel, by decide +kernel, by decide +kernel, rfl⟩
theorem qd_96 : ∀ e ∈ qc_96, decode cX9_init e.1 = .ok (e.2.1, e.2.2.1) := by decide +kernel
theorem qo_96 : qm_MOk qm_It qm_P 96 := ⟨⟨qd_96, by decide +kernel, qf_9, qn_9, qk_9⟩, by decide +kernel, by decide +kernel, by decide +kernel, by decide +kernel, rfl⟩
theorem qd_97 : ∀ e ∈ qc_97, decode cX9_size e.1 = .ok (e.2.1, e.2.2.1) := by decide +kernel
theorem qo_97 : qm_MOk qm_It qm_P 97 := ⟨⟨qd_97, by decide +kernel, qf_9, qn_9, qk_9⟩, by decide +kernel, by decide +kernel, by decide +kernel, by decide +kernel, rfl⟩
theorem qd_98 : ∀ e ∈ qc_98, decode cX9_feed e.1 = .ok (e.2.1, e.2.2.1) := by decide +kernel
theorem qo_98 : qm_MOk qm_It qm_P 98 := ⟨⟨qd_98, by decide +kernel, qf_9, qn_9, qk_9⟩, by decide +kernel, by decide +kernel, by decide +kernel, by decide +kernel, rfl⟩
theorem qd_99 : ∀ e ∈ qc_99, decode cX9_lists e.1 = .ok (e.2.1, e.2.2.1) := by decide +kernel
theorem qo_99 : qm_MOk qm_It qm_P 99 := ⟨⟨qd_99, by decide +kernel, qf_9, qn_9, qk_9⟩, by decide +kernel, by decide +kernel, by decide +kernel, by decide +kernel, rfl⟩
theorem qd_100 : ∀ e ∈ qc_100, decode cX9_list e.1 = .ok (e.2.1, e.2.2.1) := by decide +kernel
theorem qo_100 : qm_MOk qm_It qm_P 100 := ⟨⟨qd_100, by decide +kernel, qf_9, qn_9, qk_9⟩, by decide +kernel, by decide +kernel, by decide +kernel, by decide +kernel, rfl⟩
theorem qd_101 : ∀ e ∈ qc_101, decode cX9_stir e.1 = .ok (e.2.1, e.2.2.1) := by decide +kernel
theorem qo_101 : qm_MOk qm_It qm_P 101 := ⟨⟨qd_101, by decide +kernel, qf_9, qn_9, qk_9⟩, by decide +kernel, by decide +kernel, by decide +kernel, by decide +kernel, rfl⟩
theorem qd_102 : ∀ e ∈ qc_102, decode cX9_stirred e.1 = .ok (e.2.1, e.2.2.1) := by decide +kernel
theorem qo_102 : qm_MOk qm_It qm_P 102 := ⟨⟨qd_102, by decide +kernel, qf_9, qn_9, qk_9⟩, by decide +kernel, by decide +kernel, by decide +kernel, by decide +kernel, rfl⟩
theorem qd_103 : ∀ e ∈ qc_103, decode cX9_undo e.1 = .ok (e.2.1, e.2.2.1) := by decide +kernel
theorem qo_103 : qm_MOk qm_It qm_P 103 := ⟨⟨qd_103, by decide +kernel, qf_9, qn_9, qk_9⟩, by decide +kernel, by decide +kernel, by decide +kernel, by decide +kernel, rfl⟩
theorem qd_104 : ∀ e ∈ qc_104, decode cX9_redo e.1 = .ok (e.2.1, e.2.2.1) := by decide +kernel
theorem qo_104 : qm_MOk qm_It qm_P 104 := ⟨⟨qd_104, by decide +kernel, qf_9, qn_9, qk_9⟩, by decide +kernel, by decide +kernel, by decide +kernel, by decide +kernel, rfl⟩
theorem qd_105 : ∀ e ∈ qc_105, decode cX9_best e.1 = .ok (e.2.1, e.2.2.1) := by decide +kernel
theorem qo_105 : qm_MOk qm_It qm_P 105 := ⟨⟨qd_105, by decide +kernel, qf_9, qn_9, qk_9⟩, by decide +kernel, by decide +kernel, by decide +kernel, by decide +kernel, rfl⟩
theorem qd_106 : ∀ e ∈ qc_106, decode cX9_asking e.1 = .ok (e.2.1, e.2.2.1) := by decide +kernel
theorem qo_106 : qm_MOk qm_It qm_P 106 := ⟨⟨qd_106, by decide +kernel, qf_9, qn_9, qk_9⟩, by decide +kernel, by decide +kernel, by decide +kernel, by decide +kernel, rfl⟩
theorem qd_107 : ∀ e ∈ qc_107, decode cX9_rounds e.1 = .ok (e.2.1, e.2.2.1) := by decide +kernel
theorem qo_107 : qm_MOk qm_It qm_P 107 := ⟨⟨qd_107, by decide +kernel, qf_9, qn_9, qk_9⟩, by decide +kernel, by decide +kernel, by decide +kernel, by decide +kernel, rfl⟩
theorem qd_108 : ∀ e ∈ qc_108, decode cX9_pair e.1 = .ok (e.2.1, e.2.2.1) := by decide +kernel
theorem qo_108 : qm_MOk qm_It qm_P 108 := ⟨⟨qd_108, by decide +kernel, qf_9, qn_9, qk_9⟩, by decide +kernel, by decide +kernel, by decide +kernel, by decide +kernel, rfl⟩
theorem qd_109 : ∀ e ∈ qc_109, decode cX9_ahead e.1 = .ok (e.2.1, e.2.2.1) := by decide +kernel
theorem qo_109 : qm_MOk qm_It qm_P 109 := ⟨⟨qd_109, by decide +kernel, qf_9, qn_9, qk_9⟩, by decide +kernel, by decide +kernel, by decide +kernel, by decide +kernel, rfl⟩
theorem qd_110 : ∀ e ∈ qc_110, decode cX9_of e.1 = .ok (e.2.1, e.2.2.1) := by decide +kernel
theorem qo_110 : qm_MOk qm_It qm_P 110 := ⟨⟨qd_110, by decide +kernel, qf_9, qn_9, qk_9⟩, by decide +kernel, by decide +kernel, by decide +kernel, by decide +kernel, rfl⟩
theorem qd_111 : ∀ e ∈ qc_111, decode cX9_exposed e.1 = .ok (e.2.1, e.2.2.1) := by decide +kernel
theorem qo_111 : qm_MOk qm_It qm_P 111 := ⟨⟨qd_111, by decide +kernel, qf_9, qn_9, qk_9⟩, by decide +kernel, by decide +kernel, by decide +kernel, by decide +kernel, rfl⟩
theorem qd_112 : ∀ e ∈ qc_112, decode cX9_match e.1 = .ok (e.2.1, e.2.2.1) := by decide +kernel
theorem qo_112 : qm_MOk qm_It qm_P 112 := ⟨⟨qd_112, by decide +kernel, qf_9, qn_9, qk_9⟩, by decide +kernel, by decide +kernel, by decide +kernel, by decide +kernel, rfl⟩
theorem qd_113 : ∀ e ∈ qc_113, decode cX9_has e.1 = .ok (e.2.1, e.2.2.1) := by decide +kernel
theorem qo_113 : qm_MOk qm_It qm_P 113 := ⟨⟨qd_113, by decide +kernel, qf_9, qn_9, qk_9⟩, by decide +kernel, by decide +kernel, by decide +kernel, by decide +kernel, rfl⟩
theorem qd_114 : ∀ e ∈ qc_114, decode cX9_cost e.1 = .ok (e.2.1, e.2.2.1) := by decide +kernel
theorem qo_114 : qm_MOk qm_It qm_P 114 := ⟨⟨qd_114, by decide +kernel, qf_9, qn_9, qk_9⟩, by decide +kernel, by decide +kernel, by decide +kernel, by decide +kernel, rfl⟩
theorem qd_115 : ∀ e ∈ qc_115, decode cX9_pick e.1 = .ok (e.2.1, e.2.2.1) := by decide +kernel
theorem qo_115 : qm_MOk qm_It qm_P 115 := ⟨⟨qd_115, by decide +kernel, qf_9, qn_9, qk_9⟩, by decide +kernel, by decide +kernel, by decide +kernel, by decide +kernel, rfl⟩
theorem qd_116 : ∀ e ∈ qc_116, decode cX9_most e.1 = .ok (e.2.1, e.2.2.1) := by decide +kernel
theorem qo_116 : qm_MOk qm_It qm_P 116 := ⟨⟨qd_116, by decide +kernel, qf_9, qn_9, qk_9⟩, by decide +kernel, by decide +kernel, by decide +kernel, by decide +kernel, rfl⟩
theorem qd_117 : ∀ e ∈ qc_117, decode cX9_either e.1 = .ok (e.2.1, e.2.2.1) := by decide +kernel
theorem qo_117 : qm_MOk qm_It qm_P 117 := ⟨⟨qd_117, by decide +kernel, qf_9, qn_9, qk_9⟩, by decide +kernel, by decide +kernel, by decide +kernel, by decide +kernel, rfl⟩
theorem qd_118 : ∀ e ∈ qc_118, decode cX9_middle e.1 = .ok (e.2.1, e.2.2.1) := by decide +kernel
theorem qo_118 : qm_MOk qm_It qm_P 118 := ⟨⟨qd_118, by decide +kernel, qf_9, qn_9, qk_9⟩, by decide +kernel, by decide +kernel, by decide +kernel, by decide +kernel, rfl⟩
theorem qd_119 : ∀ e ∈ qc_119, decode cX9_may e.1 = .ok (e.2.1, e.2.2.1) := by decide +kernel
theorem qo_119 : qm_MOk qm_It qm_P 119 := ⟨⟨qd_119, by decide +kernel, qf_9, qn_9, qk_9⟩, by decide +kernel, by decide +kernel, by decide +kernel, by decide +kernel, rfl⟩
theorem qd_120 : ∀ e ∈ qc_120, decode cX9_fixed e.1 = .ok (e.2.1, e.2.2.1) := by decide +kernel
theorem qo_120 : qm_MOk qm_It qm_P 120 := ⟨⟨qd_120, by decide +kernel, qf_9, qn_9, qk_9⟩, by decide +kernel, by decide +kernel, by decide +kernel, by decide +kernel, rfl⟩
theorem qd_121 : ∀ e ∈ qc_121, decode cX9_lie e.1 = .ok (e.2.1, e.2.2.1) := by decide +kernel
theorem qo_121 : qm_MOk qm_It qm_P 121 := ⟨⟨qd_121, by decide +kernel, qf_9, qn_9, qk_9⟩, by decide +kernel, by decide +kernel, by decide +kernel, by decide +kernel, rfl⟩
theorem qd_122 : ∀ e ∈ qc_122, decode cX9_text e.1 = .ok (e.2.1, e.2.2.1) := by decide +kernel
theorem qo_122 : qm_MOk qm_It qm_P 122 := ⟨⟨qd_122, by decide +kernel, qf_9, qn_9, qk_9⟩, by decide +kernel, by decide +kernel, by decide +kernel, by decide +kernel, rfl⟩
theorem qd_123 : ∀ e ∈ qc_123, decode cX9_hand e.1 = .ok (e.2.1, e.2.2.1) := by decide +kernel
theorem qo_123 : qm_MOk qm_It qm_P 123 := ⟨⟨qd_123, by decide +kernel, qf_9, qn_9, qk_9⟩, by decide +kernel, by decide +kernel, by decide +kernel, by decide +kernel, rfl⟩
theorem qd_124 : ∀ e ∈ qc_124, decode cX9_handed e.1 = .ok (e.2.1, e.2.2.1) := by decide +kernel
theorem qo_124 : qm_MOk qm_It qm_P 124 := ⟨⟨qd_124, by decide +kernel, qf_9, qn_9, qk_9⟩, by decide +kernel, by decide +kernel, by decide +kernel, by decide +kernel, rfl⟩
theorem qd_125 : ∀ e ∈ qc_125, decode cX9_blocks e.1 = .ok (e.2.1, e.2.2.1) := by decide +kernel
theorem qo_125 : qm_MOk qm_It qm_P 125 := ⟨⟨qd_125, by decide +kernel, qf_9, qn_9, qk_9⟩, by decide +kernel, by decide +kernel, by decide +kernel, by decide +kernel, rfl⟩
theorem qd_126 : ∀ e ∈ qc_126, decode cX9_blocking e.1 = .ok (e.2.1, e.2.2.1) := by decide +kernel
theorem qo_126 : qm_MOk qm_It qm_P 126 := ⟨⟨qd_126, by decide +kernel, qf_9, qn_9, qk_9⟩, by decide +kernel, by decide +kernel, by decide +kernel, by decide +kernel, rfl⟩
theorem qd_127 : ∀ e ∈ qc_127, decode cX9_mended e.1 = .ok (e.2.1, e.2.2.1) := by decide +kernel
theorem qo_127 : qm_MOk qm_It qm_P 127 := ⟨⟨qd_127, by decide +kernel, qf_9, qn_9, qk_9⟩, by decide +kernel, by decide +kernel, by decide +kernel, by decide +kernel, rfl⟩
theorem qd_128 : ∀ e ∈ qc_128, decode cX9_known e.1 = .ok (e.2.1, e.2.2.1) := by decide +kernel
theorem qo_128 : qm_MOk qm_It qm_P 128 := ⟨⟨qd_128, by decide +kernel, qf_9, qn_9, qk_9⟩, by decide +kernel, by decide +kernel, by decide +kernel, by decide +kernel, rfl⟩
theorem qd_129 : ∀ e ∈ qc_129, decode cX9_image e.1 = .ok (e.2.1, e.2.2.1) := by decide +kernel
theorem qo_129 : qm_MOk qm_It qm_P 129 := ⟨⟨qd_129, by decide +kernel, qf_9, qn_9, qk_9⟩, by decide +kernel, by decide +kernel, by decide +kernel, by decide +kernel, rfl⟩
theorem qd_130 : ∀ e ∈ qc_130, decode cX9_back e.1 = .ok (e.2.1, e.2.2.1) := by decide +kernel
theorem qo_130 : qm_MOk qm_It qm_P 130 := ⟨⟨qd_130, by decide +kernel, qf_9, qn_9, qk_9⟩, by decide +kernel, by decide +kernel, by decide +kernel, by decide +kernel, rfl⟩
theorem qd_131 : ∀ e ∈ qc_131, decode cX9_count e.1 = .ok (e.2.1, e.2.2.1) := by decide +kernel
theorem qo_131 : qm_MOk qm_It qm_P 131 := ⟨⟨qd_131, by decide +kernel, qf_9, qn_9, qk_9⟩, by decide +kernel, by decide +kernel, by decide +kernel, by decide +kernel, rfl⟩
theorem qd_132 : ∀ e ∈ qc_132, decode cX9_isSide e.1 = .ok (e.2.1, e.2.2.1) := by decide +kernel
theorem qo_132 : qm_MOk qm_It qm_P 132 := ⟨⟨qd_132, by decide +kernel, qf_9, qn_9, qk_9⟩, by decide +kernel, by decide +kernel, by decide +kernel, by decide +kernel, rfl⟩
theorem qd_133 : ∀ e ∈ qc_133, decode cX9_isCost e.1 = .ok (e.2.1, e.2.2.1) := by decide +kernel
theorem qo_133 : qm_MOk qm_It qm_P 133 := ⟨⟨qd_133, by decide +kernel, qf_9, qn_9, qk_9⟩, by decide +kernel, by decide +kernel, by decide +kernel, by decide +kernel, rfl⟩
theorem qd_134 : ∀ e ∈ qc_134, decode cX9_isOne e.1 = .ok (e.2.1, e.2.2.1) := by decide +kernel
theorem qo_134 : qm_MOk qm_It qm_P 134 := ⟨⟨qd_134, by decide +kernel, qf_9, qn_9, qk_9⟩, by decide +kernel, by decide +kernel, by decide +kernel, by decide +kernel, rfl⟩
theorem qd_135 : ∀ e ∈ qc_135, decode cX9_canStir e.1 = .ok (e.2.1, e.2.2.1) := by decide +kernel
theorem qo_135 : qm_MOk qm_It qm_P 135 := ⟨⟨qd_135, by decide +kernel, qf_9, qn_9, qk_9⟩, by decide +kernel, by decide +kernel, by decide +kernel, by decide +kernel, rfl⟩
theorem qd_136 : ∀ e ∈ qc_136, decode cX9_orNot e.1 = .ok (e.2.1, e.2.2.1) := by decide +kernel
theorem qo_136 : qm_MOk qm_It qm_P 136 := ⟨⟨qd_136, by decide +kernel, qf_9, qn_9, qk_9⟩, by decide +kernel, by decide +kernel, by decide +kernel, by decide +kernel, rfl⟩
theorem qd_137 : ∀ e ∈ qc_137, decode cX9_settle e.1 = .ok (e.2.1, e.2.2.1) := by decide +kernel
theorem qo_137 : qm_MOk qm_It qm_P 137 := ⟨⟨qd_137, by decide +kernel, qf_9, qn_9, qk_9⟩, by decide +kernel, by decide +kernel, by decide +kernel, by decide +kernel, rfl⟩
theorem qd_138 : ∀ e ∈ qc_138, decode cX9_printed e.1 = .ok (e.2.1, e.2.2.1) := by decide +kernel
theorem qo_138 : qm_MOk qm_It qm_P 138 := ⟨⟨qd_138, by decide +kernel, qf_9, qn_9, qk_9⟩, by decide +kernel, by decide +kernel, by decide +kernel, by decide +kernel, rfl⟩
theorem qd_139 : ∀ e ∈ qc_139, decode cX9_mend e.1 = .ok (e.2.1, e.2.2.1) := by decide +kernel
theorem qo_139 : qm_MOk qm_It qm_P 139 := ⟨⟨qd_139, by decide +kernel, qf_9, qn_9, qk_9⟩, by decide +kernel, by decide +kernel, by decide +kernel, by decide +kernel, rfl⟩
theorem qd_140 : ∀ e ∈ qc_140, decode cX9_leftsAlone e.1 = .ok (e.2.1, e.2.2.1) := by decide +kernel
theorem qo_140 : qm_MOk qm_It qm_P 140 := ⟨⟨qd_140, by decide +kernel, qf_9, qn_9, qk_9⟩, by decide +kernel, by decide +kernel, by decide +kernel, by decide +kernel, rfl⟩
theorem qd_141 : ∀ e ∈ qc_141, decode cX10_init e.1 = .ok (e.2.1, e.2.2.1) := by decide +kernel
theorem qo_141 : qm_MOk qm_It qm_P 141 := ⟨⟨qd_141, by decide +kernel, qf_10, qn_10, qk_10⟩, by decide +kernel, by decide +kernel, by decide +kernel, by decide +kernel, rfl⟩
theorem qd_142 : ∀ e ∈ qc_142, decode cX10_isIn e.1 = .ok (e.2.1, e.2.2.1) := by decide +kernel
theorem qo_142 : qm_MOk qm_It qm_P 142 := ⟨⟨qd_142, by decide +kernel, qf_10, qn_10, qk_10⟩, by decide +kernel, by decide +kernel, by decide +kernel, by decide +kernel, rfl⟩
theorem qd_143 : ∀ e ∈ qc_143, decode cX10_isOne e.1 = .ok (e.2.1, e.2.2.1) := by decide +kernel
theorem qo_143 : qm_MOk qm_It qm_P 143 := ⟨⟨qd_143, by decide +kernel, qf_10, qn_10, qk_10⟩, by decide +kernel, by decide +kernel, by decide +kernel, by decide +kernel, rfl⟩
theorem qd_144 : ∀ e ∈ qc_144, decode cX10_has e.1 = .ok (e.2.1, e.2.2.1) := by decide +kernel
theorem qo_144 : qm_MOk qm_It qm_P 144 := ⟨⟨qd_144, by decide +kernel, qf_10, qn_10, qk_10⟩, by decide +kernel, by decide +kernel, by decide +kernel, by decide +kernel, rfl⟩
theorem qd_145 : ∀ e ∈ qc_145, decode cX10_at e.1 = .ok (e.2.1, e.2.2.1) := by decide +kernel
theorem qo_145 : qm_MOk qm_It qm_P 145 := ⟨⟨qd_145, by decide +kernel, qf_10, qn_10, qk_10⟩, by decide +kernel, by decide +kernel, by decide +kernel, by decide +kernel, rfl⟩
theorem qd_146 : ∀ e ∈ qc_146, decode cX10_copies e.1 = .ok (e.2.1, e.2.2.1) := by decide +kernel
theorem qo_146 : qm_MOk qm_It qm_P 146 := ⟨⟨qd_146, by decide +kernel, qf_10, qn_10, qk_10⟩, by decide +kernel, by decide +kernel, by decide +kernel, by decide +kernel, rfl⟩
theorem qd_147 : ∀ e ∈ qc_147, decode cX10_begins e.1 = .ok (e.2.1, e.2.2.1) := by decide +kernel
theorem qo_147 : qm_MOk qm_It qm_P 147 := ⟨⟨qd_147, by decide +kernel, qf_10, qn_10, qk_10⟩, by decide +kernel, by decide +kernel, by decide +kernel, by decide +kernel, rfl⟩
theorem qd_148 : ∀ e ∈ qc_148, decode cX10_places e.1 = .ok (e.2.1, e.2.2.1) := by decide +kernel
theorem qo_148 : qm_MOk qm_It qm_P 148 := ⟨⟨qd_148, by decide +kernel, qf_10, qn_10, qk_10⟩, by decide +kernel, by decide +kernel, by decide +kernel, by decide +kernel, rfl⟩
theorem qd_149 : ∀ e ∈ qc_149, decode cX10_placeOf e.1 = .ok (e.2.1, e.2.2.1) := by decide +kernel
theorem qo_149 : qm_MOk qm_It qm_P 149 := ⟨⟨qd_149, by decide +kernel, qf_10, qn_10, qk_10⟩, by decide +kernel, by decide +kernel, by decide +kernel, by decide +kernel, rfl⟩
theorem qd_150 : ∀ e ∈ qc_150, decode cX10_rather e.1 = .ok (e.2.1, e.2.2.1) := by decide +kernel
theorem qo_150 : qm_MOk qm_It qm_P 150 := ⟨⟨qd_150, by decide +kernel, qf_10, qn_10, qk_10⟩, by decide +kernel, by decide +kernel, by decide +kernel, by decide +kernel, rfl⟩
theorem qd_151 : ∀ e ∈ qc_151, decode cX10_size e.1 = .ok (e.2.1, e.2.2.1) := by decide +kernel
theorem qo_151 : qm_MOk qm_It qm_P 151 := ⟨⟨qd_151, by decide +kernel, qf_10, qn_10, qk_10⟩, by decide +kernel, by decide +kernel, by decide +kernel, by decide +kernel, rfl⟩
theorem qd_152 : ∀ e ∈ qc_152, decode cX10_feed e.1 = .ok (e.2.1, e.2.2.1) := by decide +kernel
theorem qo_152 : qm_MOk qm_It qm_P 152 := ⟨⟨qd_152, by decide +kernel, qf_10, qn_10, qk_10⟩, by decide +kernel, by decide +kernel, by decide +kernel, by decide +kernel, rfl⟩
theorem qd_153 : ∀ e ∈ qc_153, decode cX10_sees e.1 = .ok (e.2.1, e.2.2.1) := by decide +kernel
theorem qo_153 : qm_MOk qm_It qm_P 153 := ⟨⟨qd_153, by decide +kernel, qf_10, qn_10, qk_10⟩, by decide +kernel, by decide +kernel, by decide +kernel, by decide +kernel, rfl⟩
theorem qd_154 : ∀ e ∈ qc_154, decode cX10_takes e.1 = .ok (e.2.1, e.2.2.1) := by decide +kernel
theorem qo_154 : qm_MOk qm_It qm_P 154 := ⟨⟨qd_154, by decide +kernel, qf_10, qn_10, qk_10⟩, by decide +kernel, by decide +kernel, by decide +kernel, by decide +kernel, rfl⟩
theorem qd_155 : ∀ e ∈ qc_155, decode cX10_figure e.1 = .ok (e.2.1, e.2.2.1) := by decide +kernel
theorem qo_155 : qm_MOk qm_It qm_P 155 := ⟨⟨qd_155, by decide +kernel, qf_10, qn_10, qk_10⟩, by decide +kernel, by decide +kernel, by decide +kernel, by decide +kernel, rfl⟩
theorem qd_156 : ∀ e ∈ qc_156, decode cX10_line e.1 = .ok (e.2.1, e.2.2.1) := by decide +kernel
theorem qo_156 : qm_MOk qm_It qm_P 156 := ⟨⟨qd_156, by decide +kernel, qf_10, qn_10, qk_10⟩, by decide +kernel, by decide +kernel, by decide +kernel, by decide +kernel, rfl⟩
theorem qd_157 : ∀ e ∈ qc_157, decode cX10_changes e.1 = .ok (e.2.1, e.2.2.1) := by decide +kernel
theorem qo_157 : qm_MOk qm_It qm_P 157 := ⟨⟨qd_157, by decide +kernel, qf_10, qn_10, qk_10⟩, by decide +kernel, by decide +kernel, by decide +kernel, by decide +kernel, rfl⟩
theorem qd_158 : ∀ e ∈ qc_158, decode cX10_lists e.1 = .ok (e.2.1, e.2.2.1) := by decide +kernel
theorem qo_158 : qm_MOk qm_It qm_P 158 := ⟨⟨qd_158, by decide +kernel, qf_10, qn_10, qk_10⟩, by decide +kernel, by decide +kernel, by decide +kernel, by decide +kernel, rfl⟩
theorem qd_159 : ∀ e ∈ qc_159, decode cX10_list e.1 = .ok (e.2.1, e.2.2.1) := by decide +kernel
theorem qo_159 : qm_MOk qm_It qm_P 159 := ⟨⟨qd_159, by decide +kernel, qf_10, qn_10, qk_10⟩, by decide +kernel, by decide +kernel, by decide +kernel, by decide +kernel, rfl⟩
theorem qd_160 : ∀ e ∈ qc_160, decode cX10_mayStir e.1 = .ok (e.2.1, e.2.2.1) := by decide +kernel
theorem qo_160 : qm_MOk qm_It qm_P 160 := ⟨⟨qd_160, by decide +kernel, qf_10, qn_10, qk_10⟩, by decide +kernel, by decide +kernel, by decide +kernel, by decide +kernel, rfl⟩
theorem qd_161 : ∀ e ∈ qc_161, decode cX10_stirs e.1 = .ok (e.2.1, e.2.2.1) := by decide +kernel
theorem qo_161 : qm_MOk qm_It qm_P 161 := ⟨⟨qd_161, by decide +kernel, qf_10, qn_10, qk_10⟩, by decide +kernel, by decide +kernel, by decide +kernel, by decide +kernel, rfl⟩
theorem qd_162 : ∀ e ∈ qc_162, decode cX10_stir e.1 = .ok (e.2.1, e.2.2.1) := by decide +kernel
theorem qo_162 : qm_MOk qm_It qm_P 162 := ⟨⟨qd_162, by decide +kernel, qf_10, qn_10, qk_10⟩, by decide +kernel, by decide +kernel, by decide +kernel, by decide +kernel, rfl⟩
theorem qd_163 : ∀ e ∈ qc_163, decode cX10_stirred e.1 = .ok (e.2.1, e.2.2.1) := by decide +kernel
theorem qo_163 : qm_MOk qm_It qm_P 163 := ⟨⟨qd_163, by decide +kernel, qf_10, qn_10, qk_10⟩, by decide +kernel, by decide +kernel, by decide +kernel, by decide +kernel, rfl⟩
theorem qd_164 : ∀ e ∈ qc_164, decode cX10_undo e.1 = .ok (e.2.1, e.2.2.1) := by decide +kernel
theorem qo_164 : qm_MOk qm_It qm_P 164 := ⟨⟨qd_164, by decide +kernel, qf_10, qn_10, qk_10⟩, by decide +kernel, by decide +kernel, by decide +kernel, by decide +kernel, rfl⟩
theorem qd_165 : ∀ e ∈ qc_165, decode cX10_redo e.1 = .ok (e.2.1, e.2.2.1) := by decide +kernel
theorem qo_165 : qm_MOk qm_It qm_P 165 := ⟨⟨qd_165, by decide +kernel, qf_10, qn_10, qk_10⟩, by decide +kernel, by decide +kernel, by decide +kernel, by decide +kernel, rfl⟩
theorem qd_166 : ∀ e ∈ qc_166, decode cX10_asks e.1 = .ok (e.2.1, e.2.2.1) := by decide +kernel
theorem qo_166 : qm_MOk qm_It qm_P 166 := ⟨⟨qd_166, by decide +kernel, qf_10, qn_10, qk_10⟩, by decide +kernel, by decide +kernel, by decide +kernel, by decide +kernel, rfl⟩
theorem qd_167 : ∀ e ∈ qc_167, decode cX10_firstAlone e.1 = .ok (e.2.1, e.2.2.1) := by decide +kernel
theorem qo_167 : qm_MOk qm_It qm_P 167 := ⟨⟨qd_167, by decide +kernel, qf_10, qn_10, qk_10⟩, by decide +kernel, by decide +kernel, by decide +kernel, by decide +kernel, rfl⟩
theorem qd_168 : ∀ e ∈ qc_168, decode cX10_bests e.1 = .ok (e.2.1, e.2.2.1) := by decide +kernel
theorem qo_168 : qm_MOk qm_It qm_P 168 := ⟨⟨qd_168, by decide +kernel, qf_10, qn_10, qk_10⟩, by decide +kernel, by decide +kernel, by decide +kernel, by decide +kernel, rfl⟩
theorem qd_169 : ∀ e ∈ qc_169, decode cX10_leftOf e.1 = .ok (e.2.1, e.2.2.1) := by decide +kernel
theorem qo_169 : qm_MOk qm_It qm_P 169 := ⟨⟨qd_169, by decide +kernel, qf_10, qn_10, qk_10⟩, by decide +kernel, by decide +kernel, by decide +kernel, by decide +kernel, rfl⟩
theorem qd_170 : ∀ e ∈ qc_170, decode cX10_best e.1 = .ok (e.2.1, e.2.2.1) := by decide +kernel
theorem qo_170 : qm_MOk qm_It qm_P 170 := ⟨⟨qd_170, by decide +kernel, qf_10, qn_10, qk_10⟩, by decide +kernel, by decide +kernel, by decide +kernel, by decide +kernel, rfl⟩
theorem qd_171 : ∀ e ∈ qc_171, decode cX10_asking e.1 = .ok (e.2.1, e.2.2.1) := by decide +kernel
theorem qo_171 : qm_MOk qm_It qm_P 171 := ⟨⟨qd_171, by decide +kernel, qf_10, qn_10, qk_10⟩, by decide +kernel, by decide +kernel, by decide +kernel, by decide +kernel, rfl⟩
theorem qd_172 : ∀ e ∈ qc_172, decode cX10_nexts e.1 = .ok (e.2.1, e.2.2.1) := by decide +kernel
theorem qo_172 : qm_MOk qm_It qm_P 172 := ⟨⟨qd_172, by decide +kernel, qf_10, qn_10, qk_10⟩, by decide +kernel, by decide +kernel, by decide +kernel, by decide +kernel, rfl⟩
theorem qd_173 : ∀ e ∈ qc_173, decode cX10_isFirst e.1 = .ok (e.2.1, e.2.2.1) := by decide +kernel
theorem qo_173 : qm_MOk qm_It qm_P 173 := ⟨⟨qd_173, by decide +kernel, qf_10, qn_10, qk_10⟩, by decide +kernel, by decide +kernel, by decide +kernel, by decide +kernel, rfl⟩
theorem qd_174 : ∀ e ∈ qc_174, decode cX10_numberOf e.1 = .ok (e.2.1, e.2.2.1) := by decide +kernel
theorem qo_174 : qm_MOk qm_It qm_P 174 := ⟨⟨qd_174, by decide +kernel, qf_10, qn_10, qk_10⟩, by decide +kernel, by decide +kernel, by decide +kernel, by decide +kernel, rfl⟩
theorem qd_175 : ∀ e ∈ qc_175, decode cX10_does e.1 = .ok (e.2.1, e.2.2.1) := by decide +kernel
theorem qo_175 : qm_MOk qm_It qm_P 175 := ⟨⟨qd_175, by decide +kernel, qf_10, qn_10, qk_10⟩, by decide +kernel, by decide +kernel, by decide +kernel, by decide +kernel, rfl⟩
theorem qd_176 : ∀ e ∈ qc_176, decode cX10_firstExposed e.1 = .ok (e.2.1, e.2.2.1) := by decide +kernel
theorem qo_176 : qm_MOk qm_It qm_P 176 := ⟨⟨qd_176, by decide +kernel, qf_10, qn_10, qk_10⟩, by decide +kernel, by decide +kernel, by decide +kernel, by decide +kernel, rfl⟩
theorem qd_177 : ∀ e ∈ qc_177, decode cX10_finds e.1 = .ok (e.2.1, e.2.2.1) := by decide +kernel
theorem qo_177 : qm_MOk qm_It qm_P 177 := ⟨⟨qd_177, by decide +kernel, qf_10, qn_10, qk_10⟩, by decide +kernel, by decide +kernel, by decide +kernel, by decide +kernel, rfl⟩
theorem qd_178 : ∀ e ∈ qc_178, decode cX10_without e.1 = .ok (e.2.1, e.2.2.1) := by decide +kernel
theorem qo_178 : qm_MOk qm_It qm_P 178 := ⟨⟨qd_178, by decide +kernel, qf_10, qn_10, qk_10⟩, by decide +kernel, by decide +kernel, by decide +kernel, by decide +kernel, rfl⟩
theorem qd_179 : ∀ e ∈ qc_179, decode cX10_knows e.1 = .ok (e.2.1, e.2.2.1) := by decide +kernel
theorem qo_179 : qm_MOk qm_It qm_P 179 := ⟨⟨qd_179, by decide +kernel, qf_10, qn_10, qk_10⟩, by decide +kernel, by decide +kernel, by decide +kernel, by decide +kernel, rfl⟩
theorem qd_180 : ∀ e ∈ qc_180, decode cX10_rounds e.1 = .ok (e.2.1, e.2.2.1) := by decide +kernel
theorem qo_180 : qm_MOk qm_It qm_P 180 := ⟨⟨qd_180, by decide +kernel, qf_10, qn_10, qk_10⟩, by decide +kernel, by decide +kernel, by decide +kernel, by decide +kernel, rfl⟩
theorem qd_181 : ∀ e ∈ qc_181, decode cX10_pair e.1 = .ok (e.2.1, e.2.2.1) := by decide +kernel
theorem qo_181 : qm_MOk qm_It qm_P 181 := ⟨⟨qd_181, by decide +kernel, qf_10, qn_10, qk_10⟩, by decide +kernel, by decide +kernel, by decide +kernel, by decide +kernel, rfl⟩
theorem qd_182 : ∀ e ∈ qc_182, decode cX10_ahead e.1 = .ok (e.2.1, e.2.2.1) := by decide +kernel
theorem qo_182 : qm_MOk qm_It qm_P 182 := ⟨⟨qd_182, by decide +kernel, qf_10, qn_10, qk_10⟩, by decide +kernel, by decide +kernel, by decide +kernel, by decide +kernel, rfl⟩
theorem qd_183 : ∀ e ∈ qc_183, decode cX10_gain e.1 = .ok (e.2.1, e.2.2.1) := by decide +kernel
theorem qo_183 : qm_MOk qm_It qm_P 183 := ⟨⟨qd_183, by decide +kernel, qf_10, qn_10, qk_10⟩, by decide +kernel, by decide +kernel, by decide +kernel, by decide +kernel, rfl⟩
theorem qd_184 : ∀ e ∈ qc_184, decode cX10_of e.1 = .ok (e.2.1, e.2.2.1) := by decide +kernel
theorem qo_184 : qm_MOk qm_It qm_P 184 := ⟨⟨qd_184, by decide +kernel, qf_10, qn_10, qk_10⟩, by decide +kernel, by decide +kernel, by decide +kernel, by decide +kernel, rfl⟩
theorem qd_185 : ∀ e ∈ qc_185, decode cX10_isMatch e.1 = .ok (e.2.1, e.2.2.1) := by decide +kernel
theorem qo_185 : qm_MOk qm_It qm_P 185 := ⟨⟨qd_185, by decide +kernel, qf_10, qn_10, qk_10⟩, by decide +kernel, by decide +kernel, by decide +kernel, by decide +kernel, rfl⟩
theorem qd_186 : ∀ e ∈ qc_186, decode cX10_makes e.1 = .ok (e.2.1, e.2.2.1) := by decide +kernel
theorem qo_186 : qm_MOk qm_It qm_P 186 := ⟨⟨qd_186, by decide +kernel, qf_10, qn_10, qk_10⟩, by decide +kernel, by decide +kernel, by decide +kernel, by decide +kernel, rfl⟩
theorem qd_187 : ∀ e ∈ qc_187, decode cX10_isLike e.1 = .ok (e.2.1, e.2.2.1) := by decide +kernel
theorem qo_187 : qm_MOk qm_It qm_P 187 := ⟨⟨qd_187, by decide +kernel, qf_10, qn_10, qk_10⟩, by decide +kernel, by decide +kernel, by decide +kernel, by decide +kernel, rfl⟩
theorem qd_188 : ∀ e ∈ qc_188, decode cX10_numberOf_ e.1 = .ok (e.2.1, e.2.2.1) := by decide +kernel
theorem qo_188 : qm_MOk qm_It qm_P 188 := ⟨⟨qd_188, by decide +kernel, qf_10, qn_10, qk_10⟩, by decide +kernel, by decide +kernel, by decide +kernel, by decide +kernel, rfl⟩
theorem qd_189 : ∀ e ∈ qc_189, decode cX10_exposed e.1 = .ok (e.2.1, e.2.2.1) := by decide +kernel
theorem qo_189 : qm_MOk qm_It qm_P 189 := ⟨⟨qd_189, by decide +kernel, qf_10, qn_10, qk_10⟩, by decide +kernel, by decide +kernel, by decide +kernel, by decide +kernel, rfl⟩
theorem qd_190 : ∀ e ∈ qc_190, decode cX10_match e.1 = .ok (e.2.1, e.2.2.1) := by decide +kernel
theorem qo_190 : qm_MOk qm_It qm_P 190 := ⟨⟨qd_190, by decide +kernel, qf_10, qn_10, qk_10⟩, by decide +kernel, by decide +kernel, by decide +kernel, by decide +kernel, rfl⟩
theorem qd_191 : ∀ e ∈ qc_191, decode cX10_has_ e.1 = .ok (e.2.1, e.2.2.1) := by decide +kernel
theorem qo_191 : qm_MOk qm_It qm_P 191 := ⟨⟨qd_191, by decide +kernel, qf_10, qn_10, qk_10⟩, by decide +kernel, by decide +kernel, by decide +kernel, by decide +kernel, rfl⟩
theorem qd_192 : ∀ e ∈ qc_192, decode cX10_costOf e.1 = .ok (e.2.1, e.2.2.1) := by decide +kernel
theorem qo_192 : qm_MOk qm_It qm_P 192 := ⟨⟨qd_192, by decide +kernel, qf_10, qn_10, qk_10⟩, by decide +kernel, by decide +kernel, by decide +kernel, by decide +kernel, rfl⟩
theorem qd_193 : ∀ e ∈ qc_193, decode cX10_cost e.1 = .ok (e.2.1, e.2.2.1) := by decide +kernel
theorem qo_193 : qm_MOk qm_It qm_P 193 := ⟨⟨qd_193, by decide +kernel, qf_10, qn_10, qk_10⟩, by decide +kernel, by decide +kernel, by decide +kernel, by decide +kernel, rfl⟩
theorem qd_194 : ∀ e ∈ qc_194, decode cX10_pick e.1 = .ok (e.2.1, e.2.2.1) := by decide +kernel
theorem qo_194 : qm_MOk qm_It qm_P 194 := ⟨⟨qd_194, by decide +kernel, qf_10, qn_10, qk_10⟩, by decide +kernel, by decide +kernel, by decide +kernel, by decide +kernel, rfl⟩
theorem qd_195 : ∀ e ∈ qc_195, decode cX10_most e.1 = .ok (e.2.1, e.2.2.1) := by decide +kernel
theorem qo_195 : qm_MOk qm_It qm_P 195 := ⟨⟨qd_195, by decide +kernel, qf_10, qn_10, qk_10⟩, by decide +kernel, by decide +kernel, by decide +kernel, by decide +kernel, rfl⟩
theorem qd_196 : ∀ e ∈ qc_196, decode cX10_either e.1 = .ok (e.2.1, e.2.2.1) := by decide +kernel
theorem qo_196 : qm_MOk qm_It qm_P 196 := ⟨⟨qd_196, by decide +kernel, qf_10, qn_10, qk_10⟩, by decide +kernel, by decide +kernel, by decide +kernel, by decide +kernel, rfl⟩
theorem qd_197 : ∀ e ∈ qc_197, decode cX10_middle e.1 = .ok (e.2.1, e.2.2.1) := by decide +kernel
theorem qo_197 : qm_MOk qm_It qm_P 197 := ⟨⟨qd_197, by decide +kernel, qf_10, qn_10, qk_10⟩, by decide +kernel, by decide +kernel, by decide +kernel, by decide +kernel, rfl⟩
theorem qd_198 : ∀ e ∈ qc_198, decode cX10_may e.1 = .ok (e.2.1, e.2.2.1) := by decide +kernel
theorem qo_198 : qm_MOk qm_It qm_P 198 := ⟨⟨qd_198, by decide +kernel, qf_10, qn_10, qk_10⟩, by decide +kernel, by decide +kernel, by decide +kernel, by decide +kernel, rfl⟩
theorem qd_199 : ∀ e ∈ qc_199, decode cX10_fixed e.1 = .ok (e.2.1, e.2.2.1) := by decide +kernel
theorem qo_199 : qm_MOk qm_It qm_P 199 := ⟨⟨qd_199, by decide +kernel, qf_10, qn_10, qk_10⟩, by decide +kernel, by decide +kernel, by decide +kernel, by decide +kernel, rfl⟩
theorem qd_200 : ∀ e ∈ qc_200, decode cX10_lies e.1 = .ok (e.2.1, e.2.2.1) := by decide +kernel
theorem qo_200 : qm_MOk qm_It qm_P 200 := ⟨⟨qd_200, by decide +kernel, qf_10, qn_10, qk_10⟩, by decide +kernel, by decide +kernel, by decide +kernel, by decide +kernel, rfl⟩
theorem qd_201 : ∀ e ∈ qc_201, decode cX10_swaps e.1 = .ok (e.2.1, e.2.2.1) := by decide +kernel
theorem qo_201 : qm_MOk qm_It qm_P 201 := ⟨⟨qd_201, by decide +kernel, qf_10, qn_10, qk_10⟩, by decide +kernel, by decide +kernel, by decide +kernel, by decide +kernel, rfl⟩
theorem qd_202 : ∀ e ∈ qc_202, decode cX10_lie e.1 = .ok (e.2.1, e.2.2.1) := by decide +kernel
theorem qo_202 : qm_MOk qm_It qm_P 202 := ⟨⟨qd_202, by decide +kernel, qf_10, qn_10, qk_10⟩, by decide +kernel, by decide +kernel, by decide +kernel, by decide +kernel, rfl⟩
theorem qd_203 : ∀ e ∈ qc_203, decode cX10_text e.1 = .ok (e.2.1, e.2.2.1) := by decide +kernel
theorem qo_203 : qm_MOk qm_It qm_P 203 := ⟨⟨qd_203, by decide +kernel, qf_10, qn_10, qk_10⟩, by decide +kernel, by decide +kernel, by decide +kernel, by decide +kernel, rfl⟩
theorem qd_204 : ∀ e ∈ qc_204, decode cX10_handLeft e.1 = .ok (e.2.1, e.2.2.1) := by decide +kernel
theorem qo_204 : qm_MOk qm_It qm_P 204 := ⟨⟨qd_204, by decide +kernel, qf_10, qn_10, qk_10⟩, by decide +kernel, by decide +kernel, by decide +kernel, by decide +kernel, rfl⟩
theorem qd_205 : ∀ e ∈ qc_205, decode cX10_gives e.1 = .ok (e.2.1, e.2.2.1) := by decide +kernel
theorem qo_205 : qm_MOk qm_It qm_P 205 := ⟨⟨qd_205, by decide +kernel, qf_10, qn_10, qk_10⟩, by decide +kernel, by decide +kernel, by decide +kernel, by decide +kernel, rfl⟩
theorem qd_206 : ∀ e ∈ qc_206, decode cX10_hand e.1 = .ok (e.2.1, e.2.2.1) := by decide +kernel
theorem qo_206 : qm_MOk qm_It qm_P 206 := ⟨⟨qd_206, by decide +kernel, qf_10, qn_10, qk_10⟩, by decide +kernel, by decide +kernel, by decide +kernel, by decide +kernel, rfl⟩
theorem qd_207 : ∀ e ∈ qc_207, decode cX10_handed e.1 = .ok (e.2.1, e.2.2.1) := by decide +kernel
theorem qo_207 : qm_MOk qm_It qm_P 207 := ⟨⟨qd_207, by decide +kernel, qf_10, qn_10, qk_10⟩, by decide +kernel, by decide +kernel, by decide +kernel, by decide +kernel, rfl⟩
theorem qd_208 : ∀ e ∈ qc_208, decode cX10_blocks e.1 = .ok (e.2.1, e.2.2.1) := by decide +kernel
theorem qo_208 : qm_MOk qm_It qm_P 208 := ⟨⟨qd_208, by decide +kernel, qf_10, qn_10, qk_10⟩, by decide +kernel, by decide +kernel, by decide +kernel, by decide +kernel, rfl⟩
theorem qd_209 : ∀ e ∈ qc_209, decode cX10_firstBlocking e.1 = .ok (e.2.1, e.2.2.1) := by decide +kernel
theorem qo_209 : qm_MOk qm_It qm_P 209 := ⟨⟨qd_209, by decide +kernel, qf_10, qn_10, qk_10⟩, by decide +kernel, by decide +kernel, by decide +kernel, by decide +kernel, rfl⟩
theorem qd_210 : ∀ e ∈ qc_210, decode cX10_blocks_ e.1 = .ok (e.2.1, e.2.2.1) := by decide +kernel
theorem qo_210 : qm_MOk qm_It qm_P 210 := ⟨⟨qd_210, by decide +kernel, qf_10, qn_10, qk_10⟩, by decide +kernel, by decide +kernel, by decide +kernel, by decide +kernel, rfl⟩
theorem qd_211 : ∀ e ∈ qc_211, decode cX10_blocking e.1 = .ok (e.2.1, e.2.2.1) := by decide +kernel
theorem qo_211 : qm_MOk qm_It qm_P 211 := ⟨⟨qd_211, by decide +kernel, qf_10, qn_10, qk_10⟩, by decide +kernel, by decide +kernel, by decide +kernel, by decide +kernel, rfl⟩
theorem qd_212 : ∀ e ∈ qc_212, decode cX10_mended e.1 = .ok (e.2.1, e.2.2.1) := by decide +kernel
theorem qo_212 : qm_MOk qm_It qm_P 212 := ⟨⟨qd_212, by decide +kernel, qf_10, qn_10, qk_10⟩, by decide +kernel, by decide +kernel, by decide +kernel, by decide +kernel, rfl⟩
theorem qd_213 : ∀ e ∈ qc_213, decode cX10_known e.1 = .ok (e.2.1, e.2.2.1) := by decide +kernel
theorem qo_213 : qm_MOk qm_It qm_P 213 := ⟨⟨qd_213, by decide +kernel, qf_10, qn_10, qk_10⟩, by decide +kernel, by decide +kernel, by decide +kernel, by decide +kernel, rfl⟩
theorem qd_214 : ∀ e ∈ qc_214, decode cX10_image e.1 = .ok (e.2.1, e.2.2.1) := by decide +kernel
theorem qo_214 : qm_MOk qm_It qm_P 214 := ⟨⟨qd_214, by decide +kernel, qf_10, qn_10, qk_10⟩, by decide +kernel, by decide +kernel, by decide +kernel, by decide +kernel, rfl⟩
theorem qd_215 : ∀ e ∈ qc_215, decode cX10_back e.1 = .ok (e.2.1, e.2.2.1) := by decide +kernel
theorem qo_215 : qm_MOk qm_It qm_P 215 := ⟨⟨qd_215, by decide +kernel, qf_10, qn_10, qk_10⟩, by decide +kernel, by decide +kernel, by decide +kernel, by decide +kernel, rfl⟩
theorem qd_216 : ∀ e ∈ qc_216, decode cX10_count e.1 = .ok (e.2.1, e.2.2.1) := by decide +kernel
theorem qo_216 : qm_MOk qm_It qm_P 216 := ⟨⟨qd_216, by decide +kernel, qf_10, qn_10, qk_10⟩, by decide +kernel, by decide +kernel, by decide +kernel, by decide +kernel, rfl⟩
