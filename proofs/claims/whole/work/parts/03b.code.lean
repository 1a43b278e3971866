/-! ===== what the tables say, by computing ===== -/
abbrev fW (ci : Nat) : u_T := fTb.getD ci TX0
def bigW : List Cond := lw_tbl.filter goodWord
theorem big_at {p : Nat} {w : Cond} (h : lw_tbl[p]? = some w) (hg : goodWord w = true) : w ∈ bigW := List.mem_filter.mpr ⟨List.mem_of_getElem? h, hg⟩
theorem tb_fld : ∀ t ∈ fldL, lw_tbl[t.2.2.2.2]? = some (Cond.fieldLink (nmO t.1) t.2.1 (nmO t.2.2.1) (fW t.2.2.1 t.2.2.2.1).2.1 (fW t.2.2.1 t.2.2.2.1).2.2.1) ∧ t.2.2.2.1 < nF t.2.2.1 ∧ t.2.2.1 < 11 ∧ t.2.2.2.1 < 1000 := by decide +kernel
theorem tb_own : ∀ ci, ci < 11 → ∀ k, k < nF ci → (fW ci k).1 = nmO ci := by decide +kernel
theorem tb_cl (ci : Nat) (h : ci < 11) : vwCl[ci]? = some (nmO ci, fW ci, nF ci) := by
  match ci, h with
  | 0, _ => rfl
  | 1, _ => rfl
  | 2, _ => rfl
  | 3, _ => rfl
  | 4, _ => rfl
  | 5, _ => rfl
  | 6, _ => rfl
  | 7, _ => rfl
  | 8, _ => rfl
  | 9, _ => rfl
  | 10, _ => rfl
theorem tb_lay : ∀ ci, ci < 11 → ∀ k, k < nF ci → lw_tbl[(layL.getD ci []).getD k 0]? = some (u_lay (nmO ci) (fW ci) k) := by decide +kernel
theorem tb_ty : ∀ ci, ci < 11 → ∀ k, k < nF ci → parseFieldDescriptor (fW ci k).2.2.1 = some (fTy ci k) := by decide +kernel
theorem tb_nm : ∀ ci, ci < 11 → ∀ a, a < nF ci → ∀ b, b < nF ci → a ≠ b → (fW ci a).2.1 ≠ (fW ci b).2.1 := by decide +kernel
def mP (c : Nat) : Nat × Nat × Nat × Nat := mPl.getD c (0, 0, 0, 0)
def codeOk (c : Nat) : Prop := lw_tbl[(mP c).1]? = some (Cond.code (mY c) (mB c) (mL c) (mR c))
set_option maxRecDepth 100000 in
theorem tc_1 : codeOk 1 := rfl
set_option maxRecDepth 100000 in
theorem tc_2 : codeOk 2 := rfl
set_option maxRecDepth 100000 in
theorem tc_3 : codeOk 3 := rfl
set_option maxRecDepth 100000 in
theorem tc_4 : codeOk 4 := rfl
set_option maxRecDepth 100000 in
theorem tc_5 : codeOk 5 := rfl
set_option maxRecDepth 100000 in
theorem tc_6 : codeOk 6 := rfl
set_option maxRecDepth 100000 in
theorem tc_7 : codeOk 7 := rfl
set_option maxRecDepth 100000 in
theorem tc_8 : codeOk 8 := rfl
set_option maxRecDepth 100000 in
theorem tc_9 : codeOk 9 := rfl
set_option maxRecDepth 100000 in
theorem tc_10 : codeOk 10 := rfl
set_option maxRecDepth 100000 in
theorem tc_11 : codeOk 11 := rfl
set_option maxRecDepth 100000 in
theorem tc_12 : codeOk 12 := rfl
set_option maxRecDepth 100000 in
theorem tc_13 : codeOk 13 := rfl
set_option maxRecDepth 100000 in
theorem tc_14 : codeOk 14 := rfl
set_option maxRecDepth 100000 in
theorem tc_15 : codeOk 15 := rfl
set_option maxRecDepth 100000 in
theorem tc_16 : codeOk 16 := rfl
set_option maxRecDepth 100000 in
theorem tc_17 : codeOk 17 := rfl
set_option maxRecDepth 100000 in
theorem tc_18 : codeOk 18 := rfl
set_option maxRecDepth 100000 in
theorem tc_19 : codeOk 19 := rfl
set_option maxRecDepth 100000 in
theorem tc_20 : codeOk 20 := rfl
set_option maxRecDepth 100000 in
theorem tc_21 : codeOk 21 := rfl
set_option maxRecDepth 100000 in
theorem tc_22 : codeOk 22 := rfl
set_option maxRecDepth 100000 in
theorem tc_23 : codeOk 23 := rfl
set_option maxRecDepth 100000 in
theorem tc_24 : codeOk 24 := rfl
set_option maxRecDepth 100000 in
theorem tc_25 : codeOk 25 := rfl
set_option maxRecDepth 100000 in
theorem tc_26 : codeOk 26 := rfl
set_option maxRecDepth 100000 in
theorem tc_27 : codeOk 27 := rfl
set_option maxRecDepth 100000 in
theorem tc_28 : codeOk 28 := rfl
set_option maxRecDepth 100000 in
theorem tc_29 : codeOk 29 := rfl
set_option maxRecDepth 100000 in
theorem tc_30 : codeOk 30 := rfl
set_option maxRecDepth 100000 in
theorem tc_31 : codeOk 31 := rfl
set_option maxRecDepth 100000 in
theorem tc_32 : codeOk 32 := rfl
set_option maxRecDepth 100000 in
theorem tc_33 : codeOk 33 := rfl
set_option maxRecDepth 100000 in
theorem tc_34 : codeOk 34 := rfl
set_option maxRecDepth 100000 in
theorem tc_35 : codeOk 35 := rfl
set_option maxRecDepth 100000 in
theorem tc_36 : codeOk 36 := rfl
set_option maxRecDepth 100000 in
theorem tc_37 : codeOk 37 := rfl
set_option maxRecDepth 100000 in
theorem tc_38 : codeOk 38 := rfl
set_option maxRecDepth 100000 in
theorem tc_39 : codeOk 39 := rfl
set_option maxRecDepth 100000 in
theorem tc_40 : codeOk 40 := rfl
set_option maxRecDepth 100000 in
theorem tc_41 : codeOk 41 := rfl
set_option maxRecDepth 100000 in
theorem tc_42 : codeOk 42 := rfl
set_option maxRecDepth 100000 in
theorem tc_43 : codeOk 43 := rfl
set_option maxRecDepth 100000 in
theorem tc_44 : codeOk 44 := rfl
set_option maxRecDepth 100000 in
theorem tc_45 : codeOk 45 := rfl
set_option maxRecDepth 100000 in
theorem tc_46 : codeOk 46 := rfl
set_option maxRecDepth 100000 in
theorem tc_47 : codeOk 47 := rfl
set_option maxRecDepth 100000 in
theorem tc_48 : codeOk 48 := rfl
set_option maxRecDepth 100000 in
theorem tc_49 : codeOk 49 := rfl
set_option maxRecDepth 100000 in
theorem tc_50 : codeOk 50 := rfl
set_option maxRecDepth 100000 in
theorem tc_51 : codeOk 51 := rfl
set_option maxRecDepth 100000 in
theorem tc_52 : codeOk 52 := rfl
set_option maxRecDepth 100000 in
theorem tc_53 : codeOk 53 := rfl
set_option maxRecDepth 100000 in
theorem tc_54 : codeOk 54 := rfl
set_option maxRecDepth 100000 in
theorem tc_55 : codeOk 55 := rfl
set_option maxRecDepth 100000 in
theorem tc_56 : codeOk 56 := rfl
set_option maxRecDepth 100000 in
theorem tc_57 : codeOk 57 := rfl
set_option maxRecDepth 100000 in
theorem tc_58 : codeOk 58 := rfl
set_option maxRecDepth 100000 in
theorem tc_59 : codeOk 59 := rfl
set_option maxRecDepth 100000 in
theorem tc_60 : codeOk 60 := rfl
set_option maxRecDepth 100000 in
theorem tc_61 : codeOk 61 := rfl
set_option maxRecDepth 100000 in
theorem tc_62 : codeOk 62 := rfl
set_option maxRecDepth 100000 in
theorem tc_63 : codeOk 63 := rfl
set_option maxRecDepth 100000 in
theorem tc_64 : codeOk 64 := rfl
set_option maxRecDepth 100000 in
theorem tc_65 : codeOk 65 := rfl
set_option maxRecDepth 100000 in
theorem tc_66 : codeOk 66 := rfl
set_option maxRecDepth 100000 in
theorem tc_67 : codeOk 67 := rfl
set_option maxRecDepth 100000 in
theorem tc_68 : codeOk 68 := rfl
set_option maxRecDepth 100000 in
theorem tc_69 : codeOk 69 := rfl
set_option maxRecDepth 100000 in
theorem tc_70 : codeOk 70 := rfl
set_option maxRecDepth 100000 in
theorem tc_71 : codeOk 71 := rfl
set_option maxRecDepth 100000 in
theorem tc_72 : codeOk 72 := rfl
set_option maxRecDepth 100000 in
theorem tc_73 : codeOk 73 := rfl
set_option maxRecDepth 100000 in
theorem tc_74 : codeOk 74 := rfl
set_option maxRecDepth 100000 in
theorem tc_75 : codeOk 75 := rfl
set_option maxRecDepth 100000 in
theorem tc_76 : codeOk 76 := rfl
set_option maxRecDepth 100000 in
theorem tc_77 : codeOk 77 := rfl
set_option maxRecDepth 100000 in
theorem tc_78 : codeOk 78 := rfl
set_option maxRecDepth 100000 in
theorem tc_79 : codeOk 79 := rfl
set_option maxRecDepth 100000 in
theorem tc_80 : codeOk 80 := rfl
set_option maxRecDepth 100000 in
theorem tc_81 : codeOk 81 := rfl
set_option maxRecDepth 100000 in
theorem tc_82 : codeOk 82 := rfl
set_option maxRecDepth 100000 in
theorem tc_83 : codeOk 83 := rfl
set_option maxRecDepth 100000 in
theorem tc_84 : codeOk 84 := rfl
set_option maxRecDepth 100000 in
theorem tc_85 : codeOk 85 := rfl
set_option maxRecDepth 100000 in
theorem tc_86 : codeOk 86 := rfl
set_option maxRecDepth 100000 in
theorem tc_87 : codeOk 87 := rfl
set_option maxRecDepth 100000 in
theorem tc_88 : codeOk 88 := rfl
set_option maxRecDepth 100000 in
theorem tc_89 : codeOk 89 := rfl
set_option maxRecDepth 100000 in
theorem tc_90 : codeOk 90 := rfl
set_option maxRecDepth 100000 in
theorem tc_91 : codeOk 91 := rfl
set_option maxRecDepth 100000 in
theorem tc_92 : codeOk 92 := rfl
set_option maxRecDepth 100000 in
theorem tc_93 : codeOk 93 := rfl
set_option maxRecDepth 100000 in
theorem tc_94 : codeOk 94 := rfl
set_option maxRecDepth 100000 in
theorem tc_95 : codeOk 95 := rfl
set_option maxRecDepth 100000 in
theorem tc_96 : codeOk 96 := rfl
set_option maxRecDepth 100000 in
theorem tc_97 : codeOk 97 := rfl
set_option maxRecDepth 100000 in
theorem tc_98 : codeOk 98 := rfl
set_option maxRecDepth 100000 in
theorem tc_99 : codeOk 99 := rfl
set_option maxRecDepth 100000 in
theorem tc_100 : codeOk 100 := rfl
set_option maxRecDepth 100000 in
theorem tc_101 : codeOk 101 := rfl
set_option maxRecDepth 100000 in
theorem tc_102 : codeOk 102 := rfl
set_option maxRecDepth 100000 in
theorem tc_103 : codeOk 103 := rfl
set_option maxRecDepth 100000 in
theorem tc_104 : codeOk 104 := rfl
set_option maxRecDepth 100000 in
theorem tc_105 : codeOk 105 := rfl
set_option maxRecDepth 100000 in
theorem tc_106 : codeOk 106 := rfl
set_option maxRecDepth 100000 in
theorem tc_107 : codeOk 107 := rfl
set_option maxRecDepth 100000 in
theorem tc_108 : codeOk 108 := rfl
set_option maxRecDepth 100000 in
theorem tc_109 : codeOk 109 := rfl
set_option maxRecDepth 100000 in
theorem tc_110 : codeOk 110 := rfl
set_option maxRecDepth 100000 in
theorem tc_111 : codeOk 111 := rfl
set_option maxRecDepth 100000 in
theorem tc_112 : codeOk 112 := rfl
set_option maxRecDepth 100000 in
theorem tc_113 : codeOk 113 := rfl
set_option maxRecDepth 100000 in
theorem tc_114 : codeOk 114 := rfl
set_option maxRecDepth 100000 in
theorem tc_115 : codeOk 115 := rfl
set_option maxRecDepth 100000 in
theorem tc_116 : codeOk 116 := rfl
set_option maxRecDepth 100000 in
theorem tc_117 : codeOk 117 := rfl
set_option maxRecDepth 100000 in
theorem tc_118 : codeOk 118 := rfl
set_option maxRecDepth 100000 in
theorem tc_119 : codeOk 119 := rfl
set_option maxRecDepth 100000 in
theorem tc_120 : codeOk 120 := rfl
set_option maxRecDepth 100000 in
theorem tc_121 : codeOk 121 := rfl
set_option maxRecDepth 100000 in
theorem tc_122 : codeOk 122 := rfl
set_option maxRecDepth 100000 in
theorem tc_123 : codeOk 123 := rfl
set_option maxRecDepth 100000 in
theorem tc_124 : codeOk 124 := rfl
set_option maxRecDepth 100000 in
theorem tc_125 : codeOk 125 := rfl
set_option maxRecDepth 100000 in
theorem tc_126 : codeOk 126 := rfl
set_option maxRecDepth 100000 in
theorem tc_127 : codeOk 127 := rfl
set_option maxRecDepth 100000 in
theorem tc_128 : codeOk 128 := rfl
set_option maxRecDepth 100000 in
theorem tc_129 : codeOk 129 := rfl
set_option maxRecDepth 100000 in
theorem tc_130 : codeOk 130 := rfl
set_option maxRecDepth 100000 in
theorem tc_131 : codeOk 131 := rfl
set_option maxRecDepth 100000 in
theorem tc_132 : codeOk 132 := rfl
set_option maxRecDepth 100000 in
theorem tc_133 : codeOk 133 := rfl
set_option maxRecDepth 100000 in
theorem tc_134 : codeOk 134 := rfl
set_option maxRecDepth 100000 in
theorem tc_135 : codeOk 135 := rfl
set_option maxRecDepth 100000 in
theorem tc_136 : codeOk 136 := rfl
set_option maxRecDepth 100000 in
theorem tc_137 : codeOk 137 := rfl
set_option maxRecDepth 100000 in
theorem tc_138 : codeOk 138 := rfl
set_option maxRecDepth 100000 in
theorem tc_139 : codeOk 139 := rfl
set_option maxRecDepth 100000 in
theorem tc_140 : codeOk 140 := rfl
set_option maxRecDepth 100000 in
theorem tc_141 : codeOk 141 := rfl
set_option maxRecDepth 100000 in
theorem tc_142 : codeOk 142 := rfl
set_option maxRecDepth 100000 in
theorem tc_143 : codeOk 143 := rfl
set_option maxRecDepth 100000 in
theorem tc_144 : codeOk 144 := rfl
set_option maxRecDepth 100000 in
theorem tc_145 : codeOk 145 := rfl
set_option maxRecDepth 100000 in
theorem tc_146 : codeOk 146 := rfl
set_option maxRecDepth 100000 in
theorem tc_147 : codeOk 147 := rfl
set_option maxRecDepth 100000 in
theorem tc_148 : codeOk 148 := rfl
set_option maxRecDepth 100000 in
theorem tc_149 : codeOk 149 := rfl
set_option maxRecDepth 100000 in
theorem tc_150 : codeOk 150 := rfl
set_option maxRecDepth 100000 in
theorem tc_151 : codeOk 151 := rfl
set_option maxRecDepth 100000 in
theorem tc_152 : codeOk 152 := rfl
set_option maxRecDepth 100000 in
theorem tc_153 : codeOk 153 := rfl
set_option maxRecDepth 100000 in
theorem tc_154 : codeOk 154 := rfl
set_option maxRecDepth 100000 in
theorem tc_155 : codeOk 155 := rfl
set_option maxRecDepth 100000 in
theorem tc_156 : codeOk 156 := rfl
set_option maxRecDepth 100000 in
theorem tc_157 : codeOk 157 := rfl
set_option maxRecDepth 100000 in
theorem tc_158 : codeOk 158 := rfl
set_option maxRecDepth 100000 in
theorem tc_159 : codeOk 159 := rfl
set_option maxRecDepth 100000 in
theorem tc_160 : codeOk 160 := rfl
set_option maxRecDepth 100000 in
theorem tc_161 : codeOk 161 := rfl
set_option maxRecDepth 100000 in
theorem tc_162 : codeOk 162 := rfl
set_option maxRecDepth 100000 in
theorem tc_163 : codeOk 163 := rfl
set_option maxRecDepth 100000 in
theorem tc_164 : codeOk 164 := rfl
set_option maxRecDepth 100000 in
theorem tc_165 : codeOk 165 := rfl
set_option maxRecDepth 100000 in
theorem tc_166 : codeOk 166 := rfl
set_option maxRecDepth 100000 in
theorem tc_167 : codeOk 167 := rfl
set_option maxRecDepth 100000 in
theorem tc_168 : codeOk 168 := rfl
set_option maxRecDepth 100000 in
theorem tc_169 : codeOk 169 := rfl
set_option maxRecDepth 100000 in
theorem tc_170 : codeOk 170 := rfl
set_option maxRecDepth 100000 in
theorem tc_171 : codeOk 171 := rfl
set_option maxRecDepth 100000 in
theorem tc_172 : codeOk 172 := rfl
set_option maxRecDepth 100000 in
theorem tc_173 : codeOk 173 := rfl
set_option maxRecDepth 100000 in
theorem tc_174 : codeOk 174 := rfl
set_option maxRecDepth 100000 in
theorem tc_175 : codeOk 175 := rfl
set_option maxRecDepth 100000 in
theorem tc_176 : codeOk 176 := rfl
set_option maxRecDepth 100000 in
theorem tc_177 : codeOk 177 := rfl
set_option maxRecDepth 100000 in
theorem tc_178 : codeOk 178 := rfl
set_option maxRecDepth 100000 in
theorem tc_179 : codeOk 179 := rfl
set_option maxRecDepth 100000 in
theorem tc_180 : codeOk 180 := rfl
set_option maxRecDepth 100000 in
theorem tc_181 : codeOk 181 := rfl
set_option maxRecDepth 100000 in
theorem tc_182 : codeOk 182 := rfl
set_option maxRecDepth 100000 in
theorem tc_183 : codeOk 183 := rfl
set_option maxRecDepth 100000 in
theorem tc_184 : codeOk 184 := rfl
set_option maxRecDepth 100000 in
theorem tc_185 : codeOk 185 := rfl
set_option maxRecDepth 100000 in
theorem tc_186 : codeOk 186 := rfl
set_option maxRecDepth 100000 in
theorem tc_187 : codeOk 187 := rfl
set_option maxRecDepth 100000 in
theorem tc_188 : codeOk 188 := rfl
set_option maxRecDepth 100000 in
theorem tc_189 : codeOk 189 := rfl
set_option maxRecDepth 100000 in
theorem tc_190 : codeOk 190 := rfl
set_option maxRecDepth 100000 in
theorem tc_191 : codeOk 191 := rfl
set_option maxRecDepth 100000 in
theorem tc_192 : codeOk 192 := rfl
set_option maxRecDepth 100000 in
theorem tc_193 : codeOk 193 := rfl
set_option maxRecDepth 100000 in
theorem tc_194 : codeOk 194 := rfl
set_option maxRecDepth 100000 in
theorem tc_195 : codeOk 195 := rfl
set_option maxRecDepth 100000 in
theorem tc_196 : codeOk 196 := rfl
set_option maxRecDepth 100000 in
theorem tc_197 : codeOk 197 := rfl
set_option maxRecDepth 100000 in
theorem tc_198 : codeOk 198 := rfl
set_option maxRecDepth 100000 in
theorem tc_199 : codeOk 199 := rfl
theorem tq_1 : ∀ a, a < 1 → 0 < a → codeOk a := fun a h h0 => by omega
theorem tq_2 : ∀ a, a < 2 → 0 < a → codeOk a := lt_s (p := fun a => 0 < a → codeOk a) tq_1 (fun _ => tc_1)
theorem tq_3 : ∀ a, a < 3 → 0 < a → codeOk a := lt_s (p := fun a => 0 < a → codeOk a) tq_2 (fun _ => tc_2)
theorem tq_4 : ∀ a, a < 4 → 0 < a → codeOk a := lt_s (p := fun a => 0 < a → codeOk a) tq_3 (fun _ => tc_3)
theorem tq_5 : ∀ a, a < 5 → 0 < a → codeOk a := lt_s (p := fun a => 0 < a → codeOk a) tq_4 (fun _ => tc_4)
theorem tq_6 : ∀ a, a < 6 → 0 < a → codeOk a := lt_s (p := fun a => 0 < a → codeOk a) tq_5 (fun _ => tc_5)
theorem tq_7 : ∀ a, a < 7 → 0 < a → codeOk a := lt_s (p := fun a => 0 < a → codeOk a) tq_6 (fun _ => tc_6)
theorem tq_8 : ∀ a, a < 8 → 0 < a → codeOk a := lt_s (p := fun a => 0 < a → codeOk a) tq_7 (fun _ => tc_7)
theorem tq_9 : ∀ a, a < 9 → 0 < a → codeOk a := lt_s (p := fun a => 0 < a → codeOk a) tq_8 (fun _ => tc_8)
theorem tq_10 : ∀ a, a < 10 → 0 < a → codeOk a := lt_s (p := fun a => 0 < a → codeOk a) tq_9 (fun _ => tc_9)
theorem tq_11 : ∀ a, a < 11 → 0 < a → codeOk a := lt_s (p := fun a => 0 < a → codeOk a) tq_10 (fun _ => tc_10)
theorem tq_12 : ∀ a, a < 12 → 0 < a → codeOk a := lt_s (p := fun a => 0 < a → codeOk a) tq_11 (fun _ => tc_11)
theorem tq_13 : ∀ a, a < 13 → 0 < a → codeOk a := lt_s (p := fun a => 0 < a → codeOk a) tq_12 (fun _ => tc_12)
theorem tq_14 : ∀ a, a < 14 → 0 < a → codeOk a := lt_s (p := fun a => 0 < a → codeOk a) tq_13 (fun _ => tc_13)
theorem tq_15 : ∀ a, a < 15 → 0 < a → codeOk a := lt_s (p := fun a => 0 < a → codeOk a) tq_14 (fun _ => tc_14)
theorem tq_16 : ∀ a, a < 16 → 0 < a → codeOk a := lt_s (p := fun a => 0 < a → codeOk a) tq_15 (fun _ => tc_15)
theorem tq_17 : ∀ a, a < 17 → 0 < a → codeOk a := lt_s (p := fun a => 0 < a → codeOk a) tq_16 (fun _ => tc_16)
theorem tq_18 : ∀ a, a < 18 → 0 < a → codeOk a := lt_s (p := fun a => 0 < a → codeOk a) tq_17 (fun _ => tc_17)
theorem tq_19 : ∀ a, a < 19 → 0 < a → codeOk a := lt_s (p := fun a => 0 < a → codeOk a) tq_18 (fun _ => tc_18)
theorem tq_20 : ∀ a, a < 20 → 0 < a → codeOk a := lt_s (p := fun a => 0 < a → codeOk a) tq_19 (fun _ => tc_19)
theorem tq_21 : ∀ a, a < 21 → 0 < a → codeOk a := lt_s (p := fun a => 0 < a → codeOk a) tq_20 (fun _ => tc_20)
theorem tq_22 : ∀ a, a < 22 → 0 < a → codeOk a := lt_s (p := fun a => 0 < a → codeOk a) tq_21 (fun _ => tc_21)
theorem tq_23 : ∀ a, a < 23 → 0 < a → codeOk a := lt_s (p := fun a => 0 < a → codeOk a) tq_22 (fun _ => tc_22)
theorem tq_24 : ∀ a, a < 24 → 0 < a → codeOk a := lt_s (p := fun a => 0 < a → codeOk a) tq_23 (fun _ => tc_23)
theorem tq_25 : ∀ a, a < 25 → 0 < a → codeOk a := lt_s (p := fun a => 0 < a → codeOk a) tq_24 (fun _ => tc_24)
theorem tq_26 : ∀ a, a < 26 → 0 < a → codeOk a := lt_s (p := fun a => 0 < a → codeOk a) tq_25 (fun _ => tc_25)
theorem tq_27 : ∀ a, a < 27 → 0 < a → codeOk a := lt_s (p := fun a => 0 < a → codeOk a) tq_26 (fun _ => tc_26)
theorem tq_28 : ∀ a, a < 28 → 0 < a → codeOk a := lt_s (p := fun a => 0 < a → codeOk a) tq_27 (fun _ => tc_27)
theorem tq_29 : ∀ a, a < 29 → 0 < a → codeOk a := lt_s (p := fun a => 0 < a → codeOk a) tq_28 (fun _ => tc_28)
theorem tq_30 : ∀ a, a < 30 → 0 < a → codeOk a := lt_s (p := fun a => 0 < a → codeOk a) tq_29 (fun _ => tc_29)
theorem tq_31 : ∀ a, a < 31 → 0 < a → codeOk a := lt_s (p := fun a => 0 < a → codeOk a) tq_30 (fun _ => tc_30)
theorem tq_32 : ∀ a, a < 32 → 0 < a → codeOk a := lt_s (p := fun a => 0 < a → codeOk a) tq_31 (fun _ => tc_31)
theorem tq_33 : ∀ a, a < 33 → 0 < a → codeOk a := lt_s (p := fun a => 0 < a → codeOk a) tq_32 (fun _ => tc_32)
theorem tq_34 : ∀ a, a < 34 → 0 < a → codeOk a := lt_s (p := fun a => 0 < a → codeOk a) tq_33 (fun _ => tc_33)
theorem tq_35 : ∀ a, a < 35 → 0 < a → codeOk a := lt_s (p := fun a => 0 < a → codeOk a) tq_34 (fun _ => tc_34)
theorem tq_36 : ∀ a, a < 36 → 0 < a → codeOk a := lt_s (p := fun a => 0 < a → codeOk a) tq_35 (fun _ => tc_35)
theorem tq_37 : ∀ a, a < 37 → 0 < a → codeOk a := lt_s (p := fun a => 0 < a → codeOk a) tq_36 (fun _ => tc_36)
theorem tq_38 : ∀ a, a < 38 → 0 < a → codeOk a := lt_s (p := fun a => 0 < a → codeOk a) tq_37 (fun _ => tc_37)
theorem tq_39 : ∀ a, a < 39 → 0 < a → codeOk a := lt_s (p := fun a => 0 < a → codeOk a) tq_38 (fun _ => tc_38)
theorem tq_40 : ∀ a, a < 40 → 0 < a → codeOk a := lt_s (p := fun a => 0 < a → codeOk a) tq_39 (fun _ => tc_39)
theorem tq_41 : ∀ a, a < 41 → 0 < a → codeOk a := lt_s (p := fun a => 0 < a → codeOk a) tq_40 (fun _ => tc_40)
theorem tq_42 : ∀ a, a < 42 → 0 < a → codeOk a := lt_s (p := fun a => 0 < a → codeOk a) tq_41 (fun _ => tc_41)
theorem tq_43 : ∀ a, a < 43 → 0 < a → codeOk a := lt_s (p := fun a => 0 < a → codeOk a) tq_42 (fun _ => tc_42)
theorem tq_44 : ∀ a, a < 44 → 0 < a → codeOk a := lt_s (p := fun a => 0 < a → codeOk a) tq_43 (fun _ => tc_43)
theorem tq_45 : ∀ a, a < 45 → 0 < a → codeOk a := lt_s (p := fun a => 0 < a → codeOk a) tq_44 (fun _ => tc_44)
theorem tq_46 : ∀ a, a < 46 → 0 < a → codeOk a := lt_s (p := fun a => 0 < a → codeOk a) tq_45 (fun _ => tc_45)
theorem tq_47 : ∀ a, a < 47 → 0 < a → codeOk a := lt_s (p := fun a => 0 < a → codeOk a) tq_46 (fun _ => tc_46)
theorem tq_48 : ∀ a, a < 48 → 0 < a → codeOk a := lt_s (p := fun a => 0 < a → codeOk a) tq_47 (fun _ => tc_47)
theorem tq_49 : ∀ a, a < 49 → 0 < a → codeOk a := lt_s (p := fun a => 0 < a → codeOk a) tq_48 (fun _ => tc_48)
theorem tq_50 : ∀ a, a < 50 → 0 < a → codeOk a := lt_s (p := fun a => 0 < a → codeOk a) tq_49 (fun _ => tc_49)
theorem tq_51 : ∀ a, a < 51 → 0 < a → codeOk a := lt_s (p := fun a => 0 < a → codeOk a) tq_50 (fun _ => tc_50)
theorem tq_52 : ∀ a, a < 52 → 0 < a → codeOk a := lt_s (p := fun a => 0 < a → codeOk a) tq_51 (fun _ => tc_51)
theorem tq_53 : ∀ a, a < 53 → 0 < a → codeOk a := lt_s (p := fun a => 0 < a → codeOk a) tq_52 (fun _ => tc_52)
theorem tq_54 : ∀ a, a < 54 → 0 < a → codeOk a := lt_s (p := fun a => 0 < a → codeOk a) tq_53 (fun _ => tc_53)
theorem tq_55 : ∀ a, a < 55 → 0 < a → codeOk a := lt_s (p := fun a => 0 < a → codeOk a) tq_54 (fun _ => tc_54)
theorem tq_56 : ∀ a, a < 56 → 0 < a → codeOk a := lt_s (p := fun a => 0 < a → codeOk a) tq_55 (fun _ => tc_55)
theorem tq_57 : ∀ a, a < 57 → 0 < a → codeOk a := lt_s (p := fun a => 0 < a → codeOk a) tq_56 (fun _ => tc_56)
theorem tq_58 : ∀ a, a < 58 → 0 < a → codeOk a := lt_s (p := fun a => 0 < a → codeOk a) tq_57 (fun _ => tc_57)
theorem tq_59 : ∀ a, a < 59 → 0 < a → codeOk a := lt_s (p := fun a => 0 < a → codeOk a) tq_58 (fun _ => tc_58)
theorem tq_60 : ∀ a, a < 60 → 0 < a → codeOk a := lt_s (p := fun a => 0 < a → codeOk a) tq_59 (fun _ => tc_59)
theorem tq_61 : ∀ a, a < 61 → 0 < a → codeOk a := lt_s (p := fun a => 0 < a → codeOk a) tq_60 (fun _ => tc_60)
theorem tq_62 : ∀ a, a < 62 → 0 < a → codeOk a := lt_s (p := fun a => 0 < a → codeOk a) tq_61 (fun _ => tc_61)
theorem tq_63 : ∀ a, a < 63 → 0 < a → codeOk a := lt_s (p := fun a => 0 < a → codeOk a) tq_62 (fun _ => tc_62)
theorem tq_64 : ∀ a, a < 64 → 0 < a → codeOk a := lt_s (p := fun a => 0 < a → codeOk a) tq_63 (fun _ => tc_63)
theorem tq_65 : ∀ a, a < 65 → 0 < a → codeOk a := lt_s (p := fun a => 0 < a → codeOk a) tq_64 (fun _ => tc_64)
theorem tq_66 : ∀ a, a < 66 → 0 < a → codeOk a := lt_s (p := fun a => 0 < a → codeOk a) tq_65 (fun _ => tc_65)
theorem tq_67 : ∀ a, a < 67 → 0 < a → codeOk a := lt_s (p := fun a => 0 < a → codeOk a) tq_66 (fun _ => tc_66)
theorem tq_68 : ∀ a, a < 68 → 0 < a → codeOk a := lt_s (p := fun a => 0 < a → codeOk a) tq_67 (fun _ => tc_67)
theorem tq_69 : ∀ a, a < 69 → 0 < a → codeOk a := lt_s (p := fun a => 0 < a → codeOk a) tq_68 (fun _ => tc_68)
theorem tq_70 : ∀ a, a < 70 → 0 < a → codeOk a := lt_s (p := fun a => 0 < a → codeOk a) tq_69 (fun _ => tc_69)
theorem tq_71 : ∀ a, a < 71 → 0 < a → codeOk a := lt_s (p := fun a => 0 < a → codeOk a) tq_70 (fun _ => tc_70)
theorem tq_72 : ∀ a, a < 72 → 0 < a → codeOk a := lt_s (p := fun a => 0 < a → codeOk a) tq_71 (fun _ => tc_71)
theorem tq_73 : ∀ a, a < 73 → 0 < a → codeOk a := lt_s (p := fun a => 0 < a → codeOk a) tq_72 (fun _ => tc_72)
theorem tq_74 : ∀ a, a < 74 → 0 < a → codeOk a := lt_s (p := fun a => 0 < a → codeOk a) tq_73 (fun _ => tc_73)
theorem tq_75 : ∀ a, a < 75 → 0 < a → codeOk a := lt_s (p := fun a => 0 < a → codeOk a) tq_74 (fun _ => tc_74)
theorem tq_76 : ∀ a, a < 76 → 0 < a → codeOk a := lt_s (p := fun a => 0 < a → codeOk a) tq_75 (fun _ => tc_75)
theorem tq_77 : ∀ a, a < 77 → 0 < a → codeOk a := lt_s (p := fun a => 0 < a → codeOk a) tq_76 (fun _ => tc_76)
theorem tq_78 : ∀ a, a < 78 → 0 < a → codeOk a := lt_s (p := fun a => 0 < a → codeOk a) tq_77 (fun _ => tc_77)
theorem tq_79 : ∀ a, a < 79 → 0 < a → codeOk a := lt_s (p := fun a => 0 < a → codeOk a) tq_78 (fun _ => tc_78)
theorem tq_80 : ∀ a, a < 80 → 0 < a → codeOk a := lt_s (p := fun a => 0 < a → codeOk a) tq_79 (fun _ => tc_79)
theorem tq_81 : ∀ a, a < 81 → 0 < a → codeOk a := lt_s (p := fun a => 0 < a → codeOk a) tq_80 (fun _ => tc_80)
theorem tq_82 : ∀ a, a < 82 → 0 < a → codeOk a := lt_s (p := fun a => 0 < a → codeOk a) tq_81 (fun _ => tc_81)
theorem tq_83 : ∀ a, a < 83 → 0 < a → codeOk a := lt_s (p := fun a => 0 < a → codeOk a) tq_82 (fun _ => tc_82)
theorem tq_84 : ∀ a, a < 84 → 0 < a → codeOk a := lt_s (p := fun a => 0 < a → codeOk a) tq_83 (fun _ => tc_83)
theorem tq_85 : ∀ a, a < 85 → 0 < a → codeOk a := lt_s (p := fun a => 0 < a → codeOk a) tq_84 (fun _ => tc_84)
theorem tq_86 : ∀ a, a < 86 → 0 < a → codeOk a := lt_s (p := fun a => 0 < a → codeOk a) tq_85 (fun _ => tc_85)
theorem tq_87 : ∀ a, a < 87 → 0 < a → codeOk a := lt_s (p := fun a => 0 < a → codeOk a) tq_86 (fun _ => tc_86)
theorem tq_88 : ∀ a, a < 88 → 0 < a → codeOk a := lt_s (p := fun a => 0 < a → codeOk a) tq_87 (fun _ => tc_87)
theorem tq_89 : ∀ a, a < 89 → 0 < a → codeOk a := lt_s (p := fun a => 0 < a → codeOk a) tq_88 (fun _ => tc_88)
theorem tq_90 : ∀ a, a < 90 → 0 < a → codeOk a := lt_s (p := fun a => 0 < a → codeOk a) tq_89 (fun _ => tc_89)
theorem tq_91 : ∀ a, a < 91 → 0 < a → codeOk a := lt_s (p := fun a => 0 < a → codeOk a) tq_90 (fun _ => tc_90)
theorem tq_92 : ∀ a, a < 92 → 0 < a → codeOk a := lt_s (p := fun a => 0 < a → codeOk a) tq_91 (fun _ => tc_91)
theorem tq_93 : ∀ a, a < 93 → 0 < a → codeOk a := lt_s (p := fun a => 0 < a → codeOk a) tq_92 (fun _ => tc_92)
theorem tq_94 : ∀ a, a < 94 → 0 < a → codeOk a := lt_s (p := fun a => 0 < a → codeOk a) tq_93 (fun _ => tc_93)
theorem tq_95 : ∀ a, a < 95 → 0 < a → codeOk a := lt_s (p := fun a => 0 < a → codeOk a) tq_94 (fun _ => tc_94)
theorem tq_96 : ∀ a, a < 96 → 0 < a → codeOk a := lt_s (p := fun a => 0 < a → codeOk a) tq_95 (fun _ => tc_95)
theorem tq_97 : ∀ a, a < 97 → 0 < a → codeOk a := lt_s (p := fun a => 0 < a → codeOk a) tq_96 (fun _ => tc_96)
theorem tq_98 : ∀ a, a < 98 → 0 < a → codeOk a := lt_s (p := fun a => 0 < a → codeOk a) tq_97 (fun _ => tc_97)
theorem tq_99 : ∀ a, a < 99 → 0 < a → codeOk a := lt_s (p := fun a => 0 < a → codeOk a) tq_98 (fun _ => tc_98)
theorem tq_100 : ∀ a, a < 100 → 0 < a → codeOk a := lt_s (p := fun a => 0 < a → codeOk a) tq_99 (fun _ => tc_99)
theorem tq_101 : ∀ a, a < 101 → 0 < a → codeOk a := lt_s (p := fun a => 0 < a → codeOk a) tq_100 (fun _ => tc_100)
theorem tq_102 : ∀ a, a < 102 → 0 < a → codeOk a := lt_s (p := fun a => 0 < a → codeOk a) tq_101 (fun _ => tc_101)
theorem tq_103 : ∀ a, a < 103 → 0 < a → codeOk a := lt_s (p := fun a => 0 < a → codeOk a) tq_102 (fun _ => tc_102)
theorem tq_104 : ∀ a, a < 104 → 0 < a → codeOk a := lt_s (p := fun a => 0 < a → codeOk a) tq_103 (fun _ => tc_103)
theorem tq_105 : ∀ a, a < 105 → 0 < a → codeOk a := lt_s (p := fun a => 0 < a → codeOk a) tq_104 (fun _ => tc_104)
theorem tq_106 : ∀ a, a < 106 → 0 < a → codeOk a := lt_s (p := fun a => 0 < a → codeOk a) tq_105 (fun _ => tc_105)
theorem tq_107 : ∀ a, a < 107 → 0 < a → codeOk a := lt_s (p := fun a => 0 < a → codeOk a) tq_106 (fun _ => tc_106)
theorem tq_108 : ∀ a, a < 108 → 0 < a → codeOk a := lt_s (p := fun a => 0 < a → codeOk a) tq_107 (fun _ => tc_107)
theorem tq_109 : ∀ a, a < 109 → 0 < a → codeOk a := lt_s (p := fun a => 0 < a → codeOk a) tq_108 (fun _ => tc_108)
theorem tq_110 : ∀ a, a < 110 → 0 < a → codeOk a := lt_s (p := fun a => 0 < a → codeOk a) tq_109 (fun _ => tc_109)
theorem tq_111 : ∀ a, a < 111 → 0 < a → codeOk a := lt_s (p := fun a => 0 < a → codeOk a) tq_110 (fun _ => tc_110)
theorem tq_112 : ∀ a, a < 112 → 0 < a → codeOk a := lt_s (p := fun a => 0 < a → codeOk a) tq_111 (fun _ => tc_111)
theorem tq_113 : ∀ a, a < 113 → 0 < a → codeOk a := lt_s (p := fun a => 0 < a → codeOk a) tq_112 (fun _ => tc_112)
theorem tq_114 : ∀ a, a < 114 → 0 < a → codeOk a := lt_s (p := fun a => 0 < a → codeOk a) tq_113 (fun _ => tc_113)
theorem tq_115 : ∀ a, a < 115 → 0 < a → codeOk a := lt_s (p := fun a => 0 < a → codeOk a) tq_114 (fun _ => tc_114)
theorem tq_116 : ∀ a, a < 116 → 0 < a → codeOk a := lt_s (p := fun a => 0 < a → codeOk a) tq_115 (fun _ => tc_115)
theorem tq_117 : ∀ a, a < 117 → 0 < a → codeOk a := lt_s (p := fun a => 0 < a → codeOk a) tq_116 (fun _ => tc_116)
theorem tq_118 : ∀ a, a < 118 → 0 < a → codeOk a := lt_s (p := fun a => 0 < a → codeOk a) tq_117 (fun _ => tc_117)
theorem tq_119 : ∀ a, a < 119 → 0 < a → codeOk a := lt_s (p := fun a => 0 < a → codeOk a) tq_118 (fun _ => tc_118)
theorem tq_120 : ∀ a, a < 120 → 0 < a → codeOk a := lt_s (p := fun a => 0 < a → codeOk a) tq_119 (fun _ => tc_119)
theorem tq_121 : ∀ a, a < 121 → 0 < a → codeOk a := lt_s (p := fun a => 0 < a → codeOk a) tq_120 (fun _ => tc_120)
theorem tq_122 : ∀ a, a < 122 → 0 < a → codeOk a := lt_s (p := fun a => 0 < a → codeOk a) tq_121 (fun _ => tc_121)
theorem tq_123 : ∀ a, a < 123 → 0 < a → codeOk a := lt_s (p := fun a => 0 < a → codeOk a) tq_122 (fun _ => tc_122)
theorem tq_124 : ∀ a, a < 124 → 0 < a → codeOk a := lt_s (p := fun a => 0 < a → codeOk a) tq_123 (fun _ => tc_123)
theorem tq_125 : ∀ a, a < 125 → 0 < a → codeOk a := lt_s (p := fun a => 0 < a → codeOk a) tq_124 (fun _ => tc_124)
theorem tq_126 : ∀ a, a < 126 → 0 < a → codeOk a := lt_s (p := fun a => 0 < a → codeOk a) tq_125 (fun _ => tc_125)
theorem tq_127 : ∀ a, a < 127 → 0 < a → codeOk a := lt_s (p := fun a => 0 < a → codeOk a) tq_126 (fun _ => tc_126)
theorem tq_128 : ∀ a, a < 128 → 0 < a → codeOk a := lt_s (p := fun a => 0 < a → codeOk a) tq_127 (fun _ => tc_127)
theorem tq_129 : ∀ a, a < 129 → 0 < a → codeOk a := lt_s (p := fun a => 0 < a → codeOk a) tq_128 (fun _ => tc_128)
theorem tq_130 : ∀ a, a < 130 → 0 < a → codeOk a := lt_s (p := fun a => 0 < a → codeOk a) tq_129 (fun _ => tc_129)
theorem tq_131 : ∀ a, a < 131 → 0 < a → codeOk a := lt_s (p := fun a => 0 < a → codeOk a) tq_130 (fun _ => tc_130)
theorem tq_132 : ∀ a, a < 132 → 0 < a → codeOk a := lt_s (p := fun a => 0 < a → codeOk a) tq_131 (fun _ => tc_131)
theorem tq_133 : ∀ a, a < 133 → 0 < a → codeOk a := lt_s (p := fun a => 0 < a → codeOk a) tq_132 (fun _ => tc_132)
theorem tq_134 : ∀ a, a < 134 → 0 < a → codeOk a := lt_s (p := fun a => 0 < a → codeOk a) tq_133 (fun _ => tc_133)
theorem tq_135 : ∀ a, a < 135 → 0 < a → codeOk a := lt_s (p := fun a => 0 < a → codeOk a) tq_134 (fun _ => tc_134)
theorem tq_136 : ∀ a, a < 136 → 0 < a → codeOk a := lt_s (p := fun a => 0 < a → codeOk a) tq_135 (fun _ => tc_135)
theorem tq_137 : ∀ a, a < 137 → 0 < a → codeOk a := lt_s (p := fun a => 0 < a → codeOk a) tq_136 (fun _ => tc_136)
theorem tq_138 : ∀ a, a < 138 → 0 < a → codeOk a := lt_s (p := fun a => 0 < a → codeOk a) tq_137 (fun _ => tc_137)
theorem tq_139 : ∀ a, a < 139 → 0 < a → codeOk a := lt_s (p := fun a => 0 < a → codeOk a) tq_138 (fun _ => tc_138)
theorem tq_140 : ∀ a, a < 140 → 0 < a → codeOk a := lt_s (p := fun a => 0 < a → codeOk a) tq_139 (fun _ => tc_139)
theorem tq_141 : ∀ a, a < 141 → 0 < a → codeOk a := lt_s (p := fun a => 0 < a → codeOk a) tq_140 (fun _ => tc_140)
theorem tq_142 : ∀ a, a < 142 → 0 < a → codeOk a := lt_s (p := fun a => 0 < a → codeOk a) tq_141 (fun _ => tc_141)
theorem tq_143 : ∀ a, a < 143 → 0 < a → codeOk a := lt_s (p := fun a => 0 < a → codeOk a) tq_142 (fun _ => tc_142)
theorem tq_144 : ∀ a, a < 144 → 0 < a → codeOk a := lt_s (p := fun a => 0 < a → codeOk a) tq_143 (fun _ => tc_143)
theorem tq_145 : ∀ a, a < 145 → 0 < a → codeOk a := lt_s (p := fun a => 0 < a → codeOk a) tq_144 (fun _ => tc_144)
theorem tq_146 : ∀ a, a < 146 → 0 < a → codeOk a := lt_s (p := fun a => 0 < a → codeOk a) tq_145 (fun _ => tc_145)
theorem tq_147 : ∀ a, a < 147 → 0 < a → codeOk a := lt_s (p := fun a => 0 < a → codeOk a) tq_146 (fun _ => tc_146)
theorem tq_148 : ∀ a, a < 148 → 0 < a → codeOk a := lt_s (p := fun a => 0 < a → codeOk a) tq_147 (fun _ => tc_147)
theorem tq_149 : ∀ a, a < 149 → 0 < a → codeOk a := lt_s (p := fun a => 0 < a → codeOk a) tq_148 (fun _ => tc_148)
theorem tq_150 : ∀ a, a < 150 → 0 < a → codeOk a := lt_s (p := fun a => 0 < a → codeOk a) tq_149 (fun _ => tc_149)
theorem tq_151 : ∀ a, a < 151 → 0 < a → codeOk a := lt_s (p := fun a => 0 < a → codeOk a) tq_150 (fun _ => tc_150)
theorem tq_152 : ∀ a, a < 152 → 0 < a → codeOk a := lt_s (p := fun a => 0 < a → codeOk a) tq_151 (fun _ => tc_151)
theorem tq_153 : ∀ a, a < 153 → 0 < a → codeOk a := lt_s (p := fun a => 0 < a → codeOk a) tq_152 (fun _ => tc_152)
theorem tq_154 : ∀ a, a < 154 → 0 < a → codeOk a := lt_s (p := fun a => 0 < a → codeOk a) tq_153 (fun _ => tc_153)
theorem tq_155 : ∀ a, a < 155 → 0 < a → codeOk a := lt_s (p := fun a => 0 < a → codeOk a) tq_154 (fun _ => tc_154)
theorem tq_156 : ∀ a, a < 156 → 0 < a → codeOk a := lt_s (p := fun a => 0 < a → codeOk a) tq_155 (fun _ => tc_155)
theorem tq_157 : ∀ a, a < 157 → 0 < a → codeOk a := lt_s (p := fun a => 0 < a → codeOk a) tq_156 (fun _ => tc_156)
theorem tq_158 : ∀ a, a < 158 → 0 < a → codeOk a := lt_s (p := fun a => 0 < a → codeOk a) tq_157 (fun _ => tc_157)
theorem tq_159 : ∀ a, a < 159 → 0 < a → codeOk a := lt_s (p := fun a => 0 < a → codeOk a) tq_158 (fun _ => tc_158)
theorem tq_160 : ∀ a, a < 160 → 0 < a → codeOk a := lt_s (p := fun a => 0 < a → codeOk a) tq_159 (fun _ => tc_159)
theorem tq_161 : ∀ a, a < 161 → 0 < a → codeOk a := lt_s (p := fun a => 0 < a → codeOk a) tq_160 (fun _ => tc_160)
theorem tq_162 : ∀ a, a < 162 → 0 < a → codeOk a := lt_s (p := fun a => 0 < a → codeOk a) tq_161 (fun _ => tc_161)
theorem tq_163 : ∀ a, a < 163 → 0 < a → codeOk a := lt_s (p := fun a => 0 < a → codeOk a) tq_162 (fun _ => tc_162)
theorem tq_164 : ∀ a, a < 164 → 0 < a → codeOk a := lt_s (p := fun a => 0 < a → codeOk a) tq_163 (fun _ => tc_163)
theorem tq_165 : ∀ a, a < 165 → 0 < a → codeOk a := lt_s (p := fun a => 0 < a → codeOk a) tq_164 (fun _ => tc_164)
theorem tq_166 : ∀ a, a < 166 → 0 < a → codeOk a := lt_s (p := fun a => 0 < a → codeOk a) tq_165 (fun _ => tc_165)
theorem tq_167 : ∀ a, a < 167 → 0 < a → codeOk a := lt_s (p := fun a => 0 < a → codeOk a) tq_166 (fun _ => tc_166)
theorem tq_168 : ∀ a, a < 168 → 0 < a → codeOk a := lt_s (p := fun a => 0 < a → codeOk a) tq_167 (fun _ => tc_167)
theorem tq_169 : ∀ a, a < 169 → 0 < a → codeOk a := lt_s (p := fun a => 0 < a → codeOk a) tq_168 (fun _ => tc_168)
theorem tq_170 : ∀ a, a < 170 → 0 < a → codeOk a := lt_s (p := fun a => 0 < a → codeOk a) tq_169 (fun _ => tc_169)
theorem tq_171 : ∀ a, a < 171 → 0 < a → codeOk a := lt_s (p := fun a => 0 < a → codeOk a) tq_170 (fun _ => tc_170)
theorem tq_172 : ∀ a, a < 172 → 0 < a → codeOk a := lt_s (p := fun a => 0 < a → codeOk a) tq_171 (fun _ => tc_171)
theorem tq_173 : ∀ a, a < 173 → 0 < a → codeOk a := lt_s (p := fun a => 0 < a → codeOk a) tq_172 (fun _ => tc_172)
theorem tq_174 : ∀ a, a < 174 → 0 < a → codeOk a := lt_s (p := fun a => 0 < a → codeOk a) tq_173 (fun _ => tc_173)
theorem tq_175 : ∀ a, a < 175 → 0 < a → codeOk a := lt_s (p := fun a => 0 < a → codeOk a) tq_174 (fun _ => tc_174)
theorem tq_176 : ∀ a, a < 176 → 0 < a → codeOk a := lt_s (p := fun a => 0 < a → codeOk a) tq_175 (fun _ => tc_175)
theorem tq_177 : ∀ a, a < 177 → 0 < a → codeOk a := lt_s (p := fun a => 0 < a → codeOk a) tq_176 (fun _ => tc_176)
theorem tq_178 : ∀ a, a < 178 → 0 < a → codeOk a := lt_s (p := fun a => 0 < a → codeOk a) tq_177 (fun _ => tc_177)
theorem tq_179 : ∀ a, a < 179 → 0 < a → codeOk a := lt_s (p := fun a => 0 < a → codeOk a) tq_178 (fun _ => tc_178)
theorem tq_180 : ∀ a, a < 180 → 0 < a → codeOk a := lt_s (p := fun a => 0 < a → codeOk a) tq_179 (fun _ => tc_179)
theorem tq_181 : ∀ a, a < 181 → 0 < a → codeOk a := lt_s (p := fun a => 0 < a → codeOk a) tq_180 (fun _ => tc_180)
theorem tq_182 : ∀ a, a < 182 → 0 < a → codeOk a := lt_s (p := fun a => 0 < a → codeOk a) tq_181 (fun _ => tc_181)
theorem tq_183 : ∀ a, a < 183 → 0 < a → codeOk a := lt_s (p := fun a => 0 < a → codeOk a) tq_182 (fun _ => tc_182)
theorem tq_184 : ∀ a, a < 184 → 0 < a → codeOk a := lt_s (p := fun a => 0 < a → codeOk a) tq_183 (fun _ => tc_183)
theorem tq_185 : ∀ a, a < 185 → 0 < a → codeOk a := lt_s (p := fun a => 0 < a → codeOk a) tq_184 (fun _ => tc_184)
theorem tq_186 : ∀ a, a < 186 → 0 < a → codeOk a := lt_s (p := fun a => 0 < a → codeOk a) tq_185 (fun _ => tc_185)
theorem tq_187 : ∀ a, a < 187 → 0 < a → codeOk a := lt_s (p := fun a => 0 < a → codeOk a) tq_186 (fun _ => tc_186)
theorem tq_188 : ∀ a, a < 188 → 0 < a → codeOk a := lt_s (p := fun a => 0 < a → codeOk a) tq_187 (fun _ => tc_187)
theorem tq_189 : ∀ a, a < 189 → 0 < a → codeOk a := lt_s (p := fun a => 0 < a → codeOk a) tq_188 (fun _ => tc_188)
theorem tq_190 : ∀ a, a < 190 → 0 < a → codeOk a := lt_s (p := fun a => 0 < a → codeOk a) tq_189 (fun _ => tc_189)
theorem tq_191 : ∀ a, a < 191 → 0 < a → codeOk a := lt_s (p := fun a => 0 < a → codeOk a) tq_190 (fun _ => tc_190)
theorem tq_192 : ∀ a, a < 192 → 0 < a → codeOk a := lt_s (p := fun a => 0 < a → codeOk a) tq_191 (fun _ => tc_191)
theorem tq_193 : ∀ a, a < 193 → 0 < a → codeOk a := lt_s (p := fun a => 0 < a → codeOk a) tq_192 (fun _ => tc_192)
theorem tq_194 : ∀ a, a < 194 → 0 < a → codeOk a := lt_s (p := fun a => 0 < a → codeOk a) tq_193 (fun _ => tc_193)
theorem tq_195 : ∀ a, a < 195 → 0 < a → codeOk a := lt_s (p := fun a => 0 < a → codeOk a) tq_194 (fun _ => tc_194)
theorem tq_196 : ∀ a, a < 196 → 0 < a → codeOk a := lt_s (p := fun a => 0 < a → codeOk a) tq_195 (fun _ => tc_195)
theorem tq_197 : ∀ a, a < 197 → 0 < a → codeOk a := lt_s (p := fun a => 0 < a → codeOk a) tq_196 (fun _ => tc_196)
theorem tq_198 : ∀ a, a < 198 → 0 < a → codeOk a := lt_s (p := fun a => 0 < a → codeOk a) tq_197 (fun _ => tc_197)
theorem tq_199 : ∀ a, a < 199 → 0 < a → codeOk a := lt_s (p := fun a => 0 < a → codeOk a) tq_198 (fun _ => tc_198)
theorem tq_200 : ∀ a, a < 200 → 0 < a → codeOk a := lt_s (p := fun a => 0 < a → codeOk a) tq_199 (fun _ => tc_199)
theorem tb_code (c : Nat) (h : c < 200) (h0 : 0 < c) : codeOk c := tq_200 c h h0
