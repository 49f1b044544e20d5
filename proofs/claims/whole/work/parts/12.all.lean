def qm_rg (p : Nat → Prop) : Nat → Nat → Prop
  | _, 0 => True
  | s, n + 1 => p s ∧ qm_rg p (s + 1) n
theorem qm_rg_at {p : Nat → Prop} : ∀ (n s : Nat), qm_rg p s n → ∀ y, s ≤ y → y < s + n → p y
  | 0, s, _, y, h1, h2 => absurd h2 (by omega)
  | n + 1, s, h, y, h1, h2 => by
    by_cases hy : y = s
    · rw [hy]; exact h.1
    · exact qm_rg_at n (s + 1) h.2 y (by omega) (by omega)
theorem qo_c0 : qm_rg (qm_MOk qm_It qm_P) 0 28 := And.intro qo_0 (And.intro qo_1 (And.intro qo_2 (And.intro qo_3 (And.intro qo_4 (And.intro qo_5 (And.intro qo_6 (And.intro qo_7 (And.intro qo_8 (And.intro qo_9 (And.intro qo_10 (And.intro qo_11 (And.intro qo_12 (And.intro qo_13 (And.intro qo_14 (And.intro qo_15 (And.intro qo_16 (And.intro qo_17 (And.intro qo_18 (And.intro qo_19 (And.intro qo_20 (And.intro qo_21 (And.intro qo_22 (And.intro qo_23 (And.intro qo_24 (And.intro qo_25 (And.intro qo_26 (And.intro qo_27 (True.intro))))))))))))))))))))))))))))
theorem qo_c28 : qm_rg (qm_MOk qm_It qm_P) 28 28 := And.intro qo_28 (And.intro qo_29 (And.intro qo_30 (And.intro qo_31 (And.intro qo_32 (And.intro qo_33 (And.intro qo_34 (And.intro qo_35 (And.intro qo_36 (And.intro qo_37 (And.intro qo_38 (And.intro qo_39 (And.intro qo_40 (And.intro qo_41 (And.intro qo_42 (And.intro qo_43 (And.intro qo_44 (And.intro qo_45 (And.intro qo_46 (And.intro qo_47 (And.intro qo_48 (And.intro qo_49 (And.intro qo_50 (And.intro qo_51 (And.intro qo_52 (And.intro qo_53 (And.intro qo_54 (And.intro qo_55 (True.intro))))))))))))))))))))))))))))
theorem qo_c56 : qm_rg (qm_MOk qm_It qm_P) 56 28 := And.intro qo_56 (And.intro qo_57 (And.intro qo_58 (And.intro qo_59 (And.intro qo_60 (And.intro qo_61 (And.intro qo_62 (And.intro qo_63 (And.intro qo_64 (And.intro qo_65 (And.intro qo_66 (And.intro qo_67 (And.intro qo_68 (And.intro qo_69 (And.intro qo_70 (And.intro qo_71 (And.intro qo_72 (And.intro qo_73 (And.intro qo_74 (And.intro qo_75 (And.intro qo_76 (And.intro qo_77 (And.intro qo_78 (And.intro qo_79 (And.intro qo_80 (And.intro qo_81 (And.intro qo_82 (And.intro qo_83 (True.intro))))))))))))))))))))))))))))
theorem qo_c84 : qm_rg (qm_MOk qm_It qm_P) 84 28 := And.intro qo_84 (And.intro qo_85 (And.intro qo_86 (And.intro qo_87 (And.intro qo_88 (And.intro qo_89 (And.intro qo_90 (And.intro qo_91 (And.intro qo_92 (And.intro qo_93 (And.intro qo_94 (And.intro qo_95 (And.intro qo_96 (And.intro qo_97 (And.intro qo_98 (And.intro qo_99 (And.intro qo_100 (And.intro qo_101 (And.intro qo_102 (And.intro qo_103 (And.intro qo_104 (And.intro qo_105 (And.intro qo_106 (And.intro qo_107 (And.intro qo_108 (And.intro qo_109 (And.intro qo_110 (And.intro qo_111 (True.intro))))))))))))))))))))))))))))
theorem qo_c112 : qm_rg (qm_MOk qm_It qm_P) 112 28 := And.intro qo_112 (And.intro qo_113 (And.intro qo_114 (And.intro qo_115 (And.intro qo_116 (And.intro qo_117 (And.intro qo_118 (And.intro qo_119 (And.intro qo_120 (And.intro qo_121 (And.intro qo_122 (And.intro qo_123 (And.intro qo_124 (And.intro qo_125 (And.intro qo_126 (And.intro qo_127 (And.intro qo_128 (And.intro qo_129 (And.intro qo_130 (And.intro qo_131 (And.intro qo_132 (And.intro qo_133 (And.intro qo_134 (And.intro qo_135 (And.intro qo_136 (And.intro qo_137 (And.intro qo_138 (And.intro qo_139 (True.intro))))))))))))))))))))))))))))
theorem qo_c140 : qm_rg (qm_MOk qm_It qm_P) 140 28 := And.intro qo_140 (And.intro qo_141 (And.intro qo_142 (And.intro qo_143 (And.intro qo_144 (And.intro qo_145 (And.intro qo_146 (And.intro qo_147 (And.intro qo_148 (And.intro qo_149 (And.intro qo_150 (And.intro qo_151 (And.intro qo_152 (And.intro qo_153 (And.intro qo_154 (And.intro qo_155 (And.intro qo_156 (And.intro qo_157 (And.intro qo_158 (And.intro qo_159 (And.intro qo_160 (And.intro qo_161 (And.intro qo_162 (And.intro qo_163 (And.intro qo_164 (And.intro qo_165 (And.intro qo_166 (And.intro qo_167 (True.intro))))))))))))))))))))))))))))
theorem qo_c168 : qm_rg (qm_MOk qm_It qm_P) 168 28 := And.intro qo_168 (And.intro qo_169 (And.intro qo_170 (And.intro qo_171 (And.intro qo_172 (And.intro qo_173 (And.intro qo_174 (And.intro qo_175 (And.intro qo_176 (And.intro qo_177 (And.intro qo_178 (And.intro qo_179 (And.intro qo_180 (And.intro qo_181 (And.intro qo_182 (And.intro qo_183 (And.intro qo_184 (And.intro qo_185 (And.intro qo_186 (And.intro qo_187 (And.intro qo_188 (And.intro qo_189 (And.intro qo_190 (And.intro qo_191 (And.intro qo_192 (And.intro qo_193 (And.intro qo_194 (And.intro qo_195 (True.intro))))))))))))))))))))))))))))
theorem qo_c196 : qm_rg (qm_MOk qm_It qm_P) 196 21 := And.intro qo_196 (And.intro qo_197 (And.intro qo_198 (And.intro qo_199 (And.intro qo_200 (And.intro qo_201 (And.intro qo_202 (And.intro qo_203 (And.intro qo_204 (And.intro qo_205 (And.intro qo_206 (And.intro qo_207 (And.intro qo_208 (And.intro qo_209 (And.intro qo_210 (And.intro qo_211 (And.intro qo_212 (And.intro qo_213 (And.intro qo_214 (And.intro qo_215 (And.intro qo_216 (True.intro)))))))))))))))))))))
theorem qm_all (y : Nat) : qm_MOk qm_It qm_P y := by
  by_cases h0 : y < 28
  · exact qm_rg_at _ _ qo_c0 y (by omega) (by omega)
  by_cases h28 : y < 56
  · exact qm_rg_at _ _ qo_c28 y (by omega) (by omega)
  by_cases h56 : y < 84
  · exact qm_rg_at _ _ qo_c56 y (by omega) (by omega)
  by_cases h84 : y < 112
  · exact qm_rg_at _ _ qo_c84 y (by omega) (by omega)
  by_cases h112 : y < 140
  · exact qm_rg_at _ _ qo_c112 y (by omega) (by omega)
  by_cases h140 : y < 168
  · exact qm_rg_at _ _ qo_c140 y (by omega) (by omega)
  by_cases h168 : y < 196
  · exact qm_rg_at _ _ qo_c168 y (by omega) (by omega)
  by_cases h196 : y < 217
  · exact qm_rg_at _ _ qo_c196 y (by omega) (by omega)
  have hb : ∀ k, k ≤ 217 → Nat.blt y k = false := fun k hk => by
    cases q : Nat.blt y k with
    | false => rfl
    | true => have := Nat.le_of_ble_eq_true q; omega
  have hn : ∀ {α : Type} (d : α) (l : List α) (k : Nat), l.length ≤ k → qm_nth d k l = d := by
    intro α d l
    induction l with
    | nil => intro k _; cases k <;> rfl
    | cons a l ih =>
      intro k hk
      cases k with
      | zero => simp at hk
      | succ k => exact ih k (by simpa using hk)
  have e1 : qm_It y = qm_Id := by
    unfold qm_It
    rw [hb 28 (by omega), hb 56 (by omega), hb 84 (by omega), hb 112 (by omega), hb 140 (by omega), hb 168 (by omega), hb 196 (by omega)]
    have hl : qm_Il7.length = 21 := by decide +kernel
    simp only [cond_false]
    exact hn qm_Id qm_Il7 (y - 196) (hl ▸ (by omega : 21 ≤ y - 196))
  have e2 : qm_P y = qm_Pd := by
    unfold qm_P
    rw [hb 28 (by omega), hb 56 (by omega), hb 84 (by omega), hb 112 (by omega), hb 140 (by omega), hb 168 (by omega), hb 196 (by omega)]
    have hl : qm_Pl7.length = 21 := rfl
    simp only [cond_false]
    exact hn qm_Pd qm_Pl7 (y - 196) (hl ▸ (by omega : 21 ≤ y - 196))
  unfold qm_MOk
  rw [e1, e2]
  exact ⟨⟨fun e h => absurd h List.not_mem_nil, fun e h => absurd h List.not_mem_nil, fun e h => absurd h List.not_mem_nil, fun e h => absurd h List.not_mem_nil, fun e h => absurd h List.not_mem_nil⟩, rfl, by decide +kernel, rfl, rfl, rfl⟩
theorem qm_soundness (l : Launch) : ∀ (d y : Nat) (a : List qm_V) (L : qm_L) (M : qm_M) (K : qm_K), qm_Runs qm_P d y a L M K → qm_Met l qm_It qm_P d y a L M K := qm_sound qm_all
noncomputable def qm_b (p : Prop) : Int := @ite Int p (Classical.propDecidable p) 1 0
theorem qm_bt {p : Prop} (h : p) : qm_b p = 1 := by unfold qm_b; exact if_pos h
theorem qm_bff {p : Prop} (h : ¬ p) : qm_b p = 0 := by unfold qm_b; exact if_neg h
theorem qm_b0 {p : Prop} (h : qm_b p = 0) : ¬ p := fun q => by rw [qm_bt q] at h; cases h
theorem qm_b1 {p : Prop} (h : ¬ qm_b p = 0) : p := Classical.byContradiction fun q => h (qm_bff q)
theorem qm_b2 {p : Prop} (h : ¬ qm_b p ≠ 0) : ¬ p := qm_b0 (Classical.byContradiction h)
theorem qm_b01 (p : Prop) : qm_b p = 0 ∨ qm_b p = 1 := by
  by_cases h : p
  · exact Or.inr (qm_bt h)
  · exact Or.inl (qm_bff h)
theorem qm_bc {p q : Prop} (h : p ↔ q) : qm_b p = qm_b q := by rw [propext h]
