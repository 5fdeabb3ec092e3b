set_option maxRecDepth 100000 in
theorem dX11_init_0 : decode prog_13_method_2_code 0 = .ok (.aload_n 0, 1) := by decide +kernel
set_option maxRecDepth 100000 in
theorem dX11_init_1 : decode prog_13_method_2_code 1 = .ok (.invokespecial 7, 3) := by decide +kernel
set_option maxRecDepth 100000 in
theorem dX11_init_4 : decode prog_13_method_2_code 4 = .ok (.aload_n 0, 1) := by decide +kernel
set_option maxRecDepth 100000 in
theorem dX11_init_5 : decode prog_13_method_2_code 5 = .ok (.bipush 60, 2) := by decide +kernel
set_option maxRecDepth 100000 in
theorem dX11_init_7 : decode prog_13_method_2_code 7 = .ok (.newarray .int, 2) := by decide +kernel
set_option maxRecDepth 100000 in
theorem dX11_init_9 : decode prog_13_method_2_code 9 = .ok (.putfield 13, 3) := by decide +kernel
set_option maxRecDepth 100000 in
theorem dX11_init_12 : decode prog_13_method_2_code 12 = .ok (.aload_n 0, 1) := by decide +kernel
set_option maxRecDepth 100000 in
theorem dX11_init_13 : decode prog_13_method_2_code 13 = .ok (.bipush 60, 2) := by decide +kernel
set_option maxRecDepth 100000 in
theorem dX11_init_15 : decode prog_13_method_2_code 15 = .ok (.newarray .int, 2) := by decide +kernel
set_option maxRecDepth 100000 in
theorem dX11_init_17 : decode prog_13_method_2_code 17 = .ok (.putfield 17, 3) := by decide +kernel
set_option maxRecDepth 100000 in
theorem dX11_init_20 : decode prog_13_method_2_code 20 = .ok (.aload_n 0, 1) := by decide +kernel
set_option maxRecDepth 100000 in
theorem dX11_init_21 : decode prog_13_method_2_code 21 = .ok (.sipush 360, 3) := by decide +kernel
set_option maxRecDepth 100000 in
theorem dX11_init_24 : decode prog_13_method_2_code 24 = .ok (.newarray .int, 2) := by decide +kernel
set_option maxRecDepth 100000 in
theorem dX11_init_26 : decode prog_13_method_2_code 26 = .ok (.putfield 20, 3) := by decide +kernel
set_option maxRecDepth 100000 in
theorem dX11_init_29 : decode prog_13_method_2_code 29 = .ok (.aload_n 0, 1) := by decide +kernel
set_option maxRecDepth 100000 in
theorem dX11_init_30 : decode prog_13_method_2_code 30 = .ok (.bipush 60, 2) := by decide +kernel
set_option maxRecDepth 100000 in
theorem dX11_init_32 : decode prog_13_method_2_code 32 = .ok (.newarray .int, 2) := by decide +kernel
set_option maxRecDepth 100000 in
theorem dX11_init_34 : decode prog_13_method_2_code 34 = .ok (.putfield 23, 3) := by decide +kernel
set_option maxRecDepth 100000 in
theorem dX11_init_37 : decode prog_13_method_2_code 37 = .ok (.aload_n 0, 1) := by decide +kernel
set_option maxRecDepth 100000 in
theorem dX11_init_38 : decode prog_13_method_2_code 38 = .ok (.bipush 60, 2) := by decide +kernel
set_option maxRecDepth 100000 in
theorem dX11_init_40 : decode prog_13_method_2_code 40 = .ok (.newarray .int, 2) := by decide +kernel
set_option maxRecDepth 100000 in
theorem dX11_init_42 : decode prog_13_method_2_code 42 = .ok (.putfield 26, 3) := by decide +kernel
set_option maxRecDepth 100000 in
theorem dX11_init_45 : decode prog_13_method_2_code 45 = .ok (.aload_n 0, 1) := by decide +kernel
set_option maxRecDepth 100000 in
theorem dX11_init_46 : decode prog_13_method_2_code 46 = .ok (.bipush 60, 2) := by decide +kernel
set_option maxRecDepth 100000 in
theorem dX11_init_48 : decode prog_13_method_2_code 48 = .ok (.newarray .int, 2) := by decide +kernel
set_option maxRecDepth 100000 in
theorem dX11_init_50 : decode prog_13_method_2_code 50 = .ok (.putfield 29, 3) := by decide +kernel
set_option maxRecDepth 100000 in
theorem dX11_init_53 : decode prog_13_method_2_code 53 = .ok (.aload_n 0, 1) := by decide +kernel
set_option maxRecDepth 100000 in
theorem dX11_init_54 : decode prog_13_method_2_code 54 = .ok (.bipush 60, 2) := by decide +kernel
set_option maxRecDepth 100000 in
theorem dX11_init_56 : decode prog_13_method_2_code 56 = .ok (.newarray .int, 2) := by decide +kernel
set_option maxRecDepth 100000 in
theorem dX11_init_58 : decode prog_13_method_2_code 58 = .ok (.putfield 32, 3) := by decide +kernel
set_option maxRecDepth 100000 in
theorem dX11_init_61 : decode prog_13_method_2_code 61 = .ok (.aload_n 0, 1) := by decide +kernel
set_option maxRecDepth 100000 in
theorem dX11_init_62 : decode prog_13_method_2_code 62 = .ok (.bipush 60, 2) := by decide +kernel
set_option maxRecDepth 100000 in
theorem dX11_init_64 : decode prog_13_method_2_code 64 = .ok (.newarray .int, 2) := by decide +kernel
set_option maxRecDepth 100000 in
theorem dX11_init_66 : decode prog_13_method_2_code 66 = .ok (.putfield 35, 3) := by decide +kernel
set_option maxRecDepth 100000 in
theorem dX11_init_69 : decode prog_13_method_2_code 69 = .ok (.aload_n 0, 1) := by decide +kernel
set_option maxRecDepth 100000 in
theorem dX11_init_70 : decode prog_13_method_2_code 70 = .ok (.bipush 60, 2) := by decide +kernel
set_option maxRecDepth 100000 in
theorem dX11_init_72 : decode prog_13_method_2_code 72 = .ok (.newarray .int, 2) := by decide +kernel
set_option maxRecDepth 100000 in
theorem dX11_init_74 : decode prog_13_method_2_code 74 = .ok (.putfield 38, 3) := by decide +kernel
set_option maxRecDepth 100000 in
theorem dX11_init_77 : decode prog_13_method_2_code 77 = .ok (.aload_n 0, 1) := by decide +kernel
set_option maxRecDepth 100000 in
theorem dX11_init_78 : decode prog_13_method_2_code 78 = .ok (.bipush 60, 2) := by decide +kernel
set_option maxRecDepth 100000 in
theorem dX11_init_80 : decode prog_13_method_2_code 80 = .ok (.newarray .int, 2) := by decide +kernel
set_option maxRecDepth 100000 in
theorem dX11_init_82 : decode prog_13_method_2_code 82 = .ok (.putfield 41, 3) := by decide +kernel
set_option maxRecDepth 100000 in
theorem dX11_init_85 : decode prog_13_method_2_code 85 = .ok (.aload_n 0, 1) := by decide +kernel
set_option maxRecDepth 100000 in
theorem dX11_init_86 : decode prog_13_method_2_code 86 = .ok (.bipush 60, 2) := by decide +kernel
set_option maxRecDepth 100000 in
theorem dX11_init_88 : decode prog_13_method_2_code 88 = .ok (.newarray .long, 2) := by decide +kernel
set_option maxRecDepth 100000 in
theorem dX11_init_90 : decode prog_13_method_2_code 90 = .ok (.putfield 44, 3) := by decide +kernel
set_option maxRecDepth 100000 in
theorem dX11_init_93 : decode prog_13_method_2_code 93 = .ok (.aload_n 0, 1) := by decide +kernel
set_option maxRecDepth 100000 in
theorem dX11_init_94 : decode prog_13_method_2_code 94 = .ok (.bipush 60, 2) := by decide +kernel
set_option maxRecDepth 100000 in
theorem dX11_init_96 : decode prog_13_method_2_code 96 = .ok (.newarray .int, 2) := by decide +kernel
set_option maxRecDepth 100000 in
theorem dX11_init_98 : decode prog_13_method_2_code 98 = .ok (.putfield 48, 3) := by decide +kernel
set_option maxRecDepth 100000 in
theorem dX11_init_101 : decode prog_13_method_2_code 101 = .ok (.aload_n 0, 1) := by decide +kernel
set_option maxRecDepth 100000 in
theorem dX11_init_102 : decode prog_13_method_2_code 102 = .ok (.sipush 1200, 3) := by decide +kernel
set_option maxRecDepth 100000 in
theorem dX11_init_105 : decode prog_13_method_2_code 105 = .ok (.newarray .int, 2) := by decide +kernel
set_option maxRecDepth 100000 in
theorem dX11_init_107 : decode prog_13_method_2_code 107 = .ok (.putfield 51, 3) := by decide +kernel
set_option maxRecDepth 100000 in
theorem dX11_init_110 : decode prog_13_method_2_code 110 = .ok (.aload_n 0, 1) := by decide +kernel
set_option maxRecDepth 100000 in
theorem dX11_init_111 : decode prog_13_method_2_code 111 = .ok (.bipush 10, 2) := by decide +kernel
set_option maxRecDepth 100000 in
theorem dX11_init_113 : decode prog_13_method_2_code 113 = .ok (.newarray .int, 2) := by decide +kernel
set_option maxRecDepth 100000 in
theorem dX11_init_115 : decode prog_13_method_2_code 115 = .ok (.putfield 54, 3) := by decide +kernel
set_option maxRecDepth 100000 in
theorem dX11_init_118 : decode prog_13_method_2_code 118 = .ok (.aload_n 0, 1) := by decide +kernel
set_option maxRecDepth 100000 in
theorem dX11_init_119 : decode prog_13_method_2_code 119 = .ok (.bipush 10, 2) := by decide +kernel
set_option maxRecDepth 100000 in
theorem dX11_init_121 : decode prog_13_method_2_code 121 = .ok (.newarray .int, 2) := by decide +kernel
set_option maxRecDepth 100000 in
theorem dX11_init_123 : decode prog_13_method_2_code 123 = .ok (.putfield 57, 3) := by decide +kernel
set_option maxRecDepth 100000 in
theorem dX11_init_126 : decode prog_13_method_2_code 126 = .ok (.aload_n 0, 1) := by decide +kernel
set_option maxRecDepth 100000 in
theorem dX11_init_127 : decode prog_13_method_2_code 127 = .ok (.bipush 10, 2) := by decide +kernel
set_option maxRecDepth 100000 in
theorem dX11_init_129 : decode prog_13_method_2_code 129 = .ok (.newarray .int, 2) := by decide +kernel
set_option maxRecDepth 100000 in
theorem dX11_init_131 : decode prog_13_method_2_code 131 = .ok (.putfield 60, 3) := by decide +kernel
set_option maxRecDepth 100000 in
theorem dX11_init_134 : decode prog_13_method_2_code 134 = .ok (.aload_n 0, 1) := by decide +kernel
set_option maxRecDepth 100000 in
theorem dX11_init_135 : decode prog_13_method_2_code 135 = .ok (.bipush 6, 2) := by decide +kernel
set_option maxRecDepth 100000 in
theorem dX11_init_137 : decode prog_13_method_2_code 137 = .ok (.newarray .int, 2) := by decide +kernel
set_option maxRecDepth 100000 in
theorem dX11_init_139 : decode prog_13_method_2_code 139 = .ok (.putfield 63, 3) := by decide +kernel
set_option maxRecDepth 100000 in
theorem dX11_init_142 : decode prog_13_method_2_code 142 = .ok (.aload_n 0, 1) := by decide +kernel
set_option maxRecDepth 100000 in
theorem dX11_init_143 : decode prog_13_method_2_code 143 = .ok (.bipush 6, 2) := by decide +kernel
set_option maxRecDepth 100000 in
theorem dX11_init_145 : decode prog_13_method_2_code 145 = .ok (.newarray .long, 2) := by decide +kernel
set_option maxRecDepth 100000 in
theorem dX11_init_147 : decode prog_13_method_2_code 147 = .ok (.putfield 66, 3) := by decide +kernel
set_option maxRecDepth 100000 in
theorem dX11_init_150 : decode prog_13_method_2_code 150 = .ok (.aload_n 0, 1) := by decide +kernel
set_option maxRecDepth 100000 in
theorem dX11_init_151 : decode prog_13_method_2_code 151 = .ok (.iconst 3, 1) := by decide +kernel
set_option maxRecDepth 100000 in
theorem dX11_init_152 : decode prog_13_method_2_code 152 = .ok (.putfield 69, 3) := by decide +kernel
set_option maxRecDepth 100000 in
theorem dX11_init_155 : decode prog_13_method_2_code 155 = .ok (.aload_n 0, 1) := by decide +kernel
set_option maxRecDepth 100000 in
theorem dX11_init_156 : decode prog_13_method_2_code 156 = .ok (.bipush 12, 2) := by decide +kernel
set_option maxRecDepth 100000 in
theorem dX11_init_158 : decode prog_13_method_2_code 158 = .ok (.newarray .int, 2) := by decide +kernel
set_option maxRecDepth 100000 in
theorem dX11_init_160 : decode prog_13_method_2_code 160 = .ok (.putfield 72, 3) := by decide +kernel
set_option maxRecDepth 100000 in
theorem dX11_init_163 : decode prog_13_method_2_code 163 = .ok (.aload_n 0, 1) := by decide +kernel
set_option maxRecDepth 100000 in
theorem dX11_init_164 : decode prog_13_method_2_code 164 = .ok (.bipush 81, 2) := by decide +kernel
set_option maxRecDepth 100000 in
theorem dX11_init_166 : decode prog_13_method_2_code 166 = .ok (.newarray .int, 2) := by decide +kernel
set_option maxRecDepth 100000 in
theorem dX11_init_168 : decode prog_13_method_2_code 168 = .ok (.putfield 75, 3) := by decide +kernel
set_option maxRecDepth 100000 in
theorem dX11_init_171 : decode prog_13_method_2_code 171 = .ok (.aload_n 0, 1) := by decide +kernel
set_option maxRecDepth 100000 in
theorem dX11_init_172 : decode prog_13_method_2_code 172 = .ok (.bipush 81, 2) := by decide +kernel
set_option maxRecDepth 100000 in
theorem dX11_init_174 : decode prog_13_method_2_code 174 = .ok (.newarray .int, 2) := by decide +kernel
set_option maxRecDepth 100000 in
theorem dX11_init_176 : decode prog_13_method_2_code 176 = .ok (.putfield 78, 3) := by decide +kernel
set_option maxRecDepth 100000 in
theorem dX11_init_179 : decode prog_13_method_2_code 179 = .ok (.aload_n 0, 1) := by decide +kernel
set_option maxRecDepth 100000 in
theorem dX11_init_180 : decode prog_13_method_2_code 180 = .ok (.sipush 567, 3) := by decide +kernel
set_option maxRecDepth 100000 in
theorem dX11_init_183 : decode prog_13_method_2_code 183 = .ok (.newarray .int, 2) := by decide +kernel
set_option maxRecDepth 100000 in
theorem dX11_init_185 : decode prog_13_method_2_code 185 = .ok (.putfield 81, 3) := by decide +kernel
set_option maxRecDepth 100000 in
theorem dX11_init_188 : decode prog_13_method_2_code 188 = .ok (.aload_n 0, 1) := by decide +kernel
set_option maxRecDepth 100000 in
theorem dX11_init_189 : decode prog_13_method_2_code 189 = .ok (.sipush 567, 3) := by decide +kernel
set_option maxRecDepth 100000 in
theorem dX11_init_192 : decode prog_13_method_2_code 192 = .ok (.newarray .long, 2) := by decide +kernel
set_option maxRecDepth 100000 in
theorem dX11_init_194 : decode prog_13_method_2_code 194 = .ok (.putfield 84, 3) := by decide +kernel
set_option maxRecDepth 100000 in
theorem dX11_init_197 : decode prog_13_method_2_code 197 = .ok (.aload_n 0, 1) := by decide +kernel
set_option maxRecDepth 100000 in
theorem dX11_init_198 : decode prog_13_method_2_code 198 = .ok (.bipush 81, 2) := by decide +kernel
set_option maxRecDepth 100000 in
theorem dX11_init_200 : decode prog_13_method_2_code 200 = .ok (.newarray .int, 2) := by decide +kernel
set_option maxRecDepth 100000 in
theorem dX11_init_202 : decode prog_13_method_2_code 202 = .ok (.putfield 87, 3) := by decide +kernel
set_option maxRecDepth 100000 in
theorem dX11_init_205 : decode prog_13_method_2_code 205 = .ok (.aload_n 0, 1) := by decide +kernel
set_option maxRecDepth 100000 in
theorem dX11_init_206 : decode prog_13_method_2_code 206 = .ok (.bipush 81, 2) := by decide +kernel
set_option maxRecDepth 100000 in
theorem dX11_init_208 : decode prog_13_method_2_code 208 = .ok (.newarray .int, 2) := by decide +kernel
set_option maxRecDepth 100000 in
theorem dX11_init_210 : decode prog_13_method_2_code 210 = .ok (.putfield 90, 3) := by decide +kernel
set_option maxRecDepth 100000 in
theorem dX11_init_213 : decode prog_13_method_2_code 213 = .ok (.aload_n 0, 1) := by decide +kernel
set_option maxRecDepth 100000 in
theorem dX11_init_214 : decode prog_13_method_2_code 214 = .ok (.bipush 81, 2) := by decide +kernel
set_option maxRecDepth 100000 in
theorem dX11_init_216 : decode prog_13_method_2_code 216 = .ok (.newarray .long, 2) := by decide +kernel
set_option maxRecDepth 100000 in
theorem dX11_init_218 : decode prog_13_method_2_code 218 = .ok (.putfield 93, 3) := by decide +kernel
set_option maxRecDepth 100000 in
theorem dX11_init_221 : decode prog_13_method_2_code 221 = .ok (.aload_n 0, 1) := by decide +kernel
set_option maxRecDepth 100000 in
theorem dX11_init_222 : decode prog_13_method_2_code 222 = .ok (.bipush 81, 2) := by decide +kernel
set_option maxRecDepth 100000 in
theorem dX11_init_224 : decode prog_13_method_2_code 224 = .ok (.newarray .long, 2) := by decide +kernel
set_option maxRecDepth 100000 in
theorem dX11_init_226 : decode prog_13_method_2_code 226 = .ok (.putfield 96, 3) := by decide +kernel
set_option maxRecDepth 100000 in
theorem dX11_init_229 : decode prog_13_method_2_code 229 = .ok (.aload_n 0, 1) := by decide +kernel
set_option maxRecDepth 100000 in
theorem dX11_init_230 : decode prog_13_method_2_code 230 = .ok (.bipush 81, 2) := by decide +kernel
set_option maxRecDepth 100000 in
theorem dX11_init_232 : decode prog_13_method_2_code 232 = .ok (.newarray .long, 2) := by decide +kernel
set_option maxRecDepth 100000 in
theorem dX11_init_234 : decode prog_13_method_2_code 234 = .ok (.putfield 99, 3) := by decide +kernel
set_option maxRecDepth 100000 in
theorem dX11_init_237 : decode prog_13_method_2_code 237 = .ok (.aload_n 0, 1) := by decide +kernel
set_option maxRecDepth 100000 in
theorem dX11_init_238 : decode prog_13_method_2_code 238 = .ok (.bipush 12, 2) := by decide +kernel
set_option maxRecDepth 100000 in
theorem dX11_init_240 : decode prog_13_method_2_code 240 = .ok (.newarray .int, 2) := by decide +kernel
set_option maxRecDepth 100000 in
theorem dX11_init_242 : decode prog_13_method_2_code 242 = .ok (.putfield 102, 3) := by decide +kernel
set_option maxRecDepth 100000 in
theorem dX11_init_245 : decode prog_13_method_2_code 245 = .ok (.aload_n 0, 1) := by decide +kernel
set_option maxRecDepth 100000 in
theorem dX11_init_246 : decode prog_13_method_2_code 246 = .ok (.bipush 12, 2) := by decide +kernel
set_option maxRecDepth 100000 in
theorem dX11_init_248 : decode prog_13_method_2_code 248 = .ok (.newarray .long, 2) := by decide +kernel
set_option maxRecDepth 100000 in
theorem dX11_init_250 : decode prog_13_method_2_code 250 = .ok (.putfield 105, 3) := by decide +kernel
set_option maxRecDepth 100000 in
theorem dX11_init_253 : decode prog_13_method_2_code 253 = .ok (.return_, 1) := by decide +kernel
set_option maxRecDepth 100000 in
theorem fl11_13 : ∀ c ∈ ([9] : List Nat), FL "HandleModelsModel" 13 c 2 := fun c hc => by
  cases List.mem_singleton.mp hc
  exact ⟨_, "HandleModelsModel", rfl, by decide, (gd_of 730 rfl rfl), Or.inl rfl⟩
set_option maxRecDepth 100000 in
theorem pl11_13_i {mi : aM} {x : Option Nat} (ho : "HandleModelsModel" = mi.1.cls) (hn : mi.1.name = "<init>") (hc : "HandleModelsModel" = mi.1.cls) : ∀ c ∈ ([9] : List Nat), FL mi.1.cls 13 c 2 ∧ FT c 2 (.inr (.inr x)) ∧ FW mi c 2 := fun c h9 => by
  have h8 := fl11_13 c h9
  rw [← ho]
  refine ⟨h8, ?_⟩
  simp only [List.mem_cons, List.not_mem_nil, or_false] at h9
  rcases h9 with rfl
  · exact ⟨ft_arr (n := .int) rfl (by decide +kernel), ⟨_, rfl, Or.inr ⟨rfl, hn, hc⟩⟩⟩
set_option maxRecDepth 100000 in
theorem fl11_17 : ∀ c ∈ ([9] : List Nat), FL "HandleModelsModel" 17 c 3 := fun c hc => by
  cases List.mem_singleton.mp hc
  exact ⟨_, "HandleModelsModel", rfl, by decide, (gd_of 731 rfl rfl), Or.inl rfl⟩
set_option maxRecDepth 100000 in
theorem pl11_17_i {mi : aM} {x : Option Nat} (ho : "HandleModelsModel" = mi.1.cls) (hn : mi.1.name = "<init>") (hc : "HandleModelsModel" = mi.1.cls) : ∀ c ∈ ([9] : List Nat), FL mi.1.cls 17 c 3 ∧ FT c 3 (.inr (.inr x)) ∧ FW mi c 3 := fun c h9 => by
  have h8 := fl11_17 c h9
  rw [← ho]
  refine ⟨h8, ?_⟩
  simp only [List.mem_cons, List.not_mem_nil, or_false] at h9
  rcases h9 with rfl
  · exact ⟨ft_arr (n := .int) rfl (by decide +kernel), ⟨_, rfl, Or.inr ⟨rfl, hn, hc⟩⟩⟩
set_option maxRecDepth 100000 in
theorem fl11_20 : ∀ c ∈ ([9] : List Nat), FL "HandleModelsModel" 20 c 4 := fun c hc => by
  cases List.mem_singleton.mp hc
  exact ⟨_, "HandleModelsModel", rfl, by decide, (gd_of 732 rfl rfl), Or.inl rfl⟩
set_option maxRecDepth 100000 in
theorem pl11_20_i {mi : aM} {x : Option Nat} (ho : "HandleModelsModel" = mi.1.cls) (hn : mi.1.name = "<init>") (hc : "HandleModelsModel" = mi.1.cls) : ∀ c ∈ ([9] : List Nat), FL mi.1.cls 20 c 4 ∧ FT c 4 (.inr (.inr x)) ∧ FW mi c 4 := fun c h9 => by
  have h8 := fl11_20 c h9
  rw [← ho]
  refine ⟨h8, ?_⟩
  simp only [List.mem_cons, List.not_mem_nil, or_false] at h9
  rcases h9 with rfl
  · exact ⟨ft_arr (n := .int) rfl (by decide +kernel), ⟨_, rfl, Or.inr ⟨rfl, hn, hc⟩⟩⟩
set_option maxRecDepth 100000 in
theorem fl11_23 : ∀ c ∈ ([9] : List Nat), FL "HandleModelsModel" 23 c 5 := fun c hc => by
  cases List.mem_singleton.mp hc
  exact ⟨_, "HandleModelsModel", rfl, by decide, (gd_of 733 rfl rfl), Or.inl rfl⟩
set_option maxRecDepth 100000 in
theorem pl11_23_i {mi : aM} {x : Option Nat} (ho : "HandleModelsModel" = mi.1.cls) (hn : mi.1.name = "<init>") (hc : "HandleModelsModel" = mi.1.cls) : ∀ c ∈ ([9] : List Nat), FL mi.1.cls 23 c 5 ∧ FT c 5 (.inr (.inr x)) ∧ FW mi c 5 := fun c h9 => by
  have h8 := fl11_23 c h9
  rw [← ho]
  refine ⟨h8, ?_⟩
  simp only [List.mem_cons, List.not_mem_nil, or_false] at h9
  rcases h9 with rfl
  · exact ⟨ft_arr (n := .int) rfl (by decide +kernel), ⟨_, rfl, Or.inr ⟨rfl, hn, hc⟩⟩⟩
set_option maxRecDepth 100000 in
theorem fl11_26 : ∀ c ∈ ([9] : List Nat), FL "HandleModelsModel" 26 c 6 := fun c hc => by
  cases List.mem_singleton.mp hc
  exact ⟨_, "HandleModelsModel", rfl, by decide, (gd_of 734 rfl rfl), Or.inl rfl⟩
set_option maxRecDepth 100000 in
theorem pl11_26_i {mi : aM} {x : Option Nat} (ho : "HandleModelsModel" = mi.1.cls) (hn : mi.1.name = "<init>") (hc : "HandleModelsModel" = mi.1.cls) : ∀ c ∈ ([9] : List Nat), FL mi.1.cls 26 c 6 ∧ FT c 6 (.inr (.inr x)) ∧ FW mi c 6 := fun c h9 => by
  have h8 := fl11_26 c h9
  rw [← ho]
  refine ⟨h8, ?_⟩
  simp only [List.mem_cons, List.not_mem_nil, or_false] at h9
  rcases h9 with rfl
  · exact ⟨ft_arr (n := .int) rfl (by decide +kernel), ⟨_, rfl, Or.inr ⟨rfl, hn, hc⟩⟩⟩
set_option maxRecDepth 100000 in
theorem fl11_29 : ∀ c ∈ ([9] : List Nat), FL "HandleModelsModel" 29 c 7 := fun c hc => by
  cases List.mem_singleton.mp hc
  exact ⟨_, "HandleModelsModel", rfl, by decide, (gd_of 735 rfl rfl), Or.inl rfl⟩
set_option maxRecDepth 100000 in
theorem pl11_29_i {mi : aM} {x : Option Nat} (ho : "HandleModelsModel" = mi.1.cls) (hn : mi.1.name = "<init>") (hc : "HandleModelsModel" = mi.1.cls) : ∀ c ∈ ([9] : List Nat), FL mi.1.cls 29 c 7 ∧ FT c 7 (.inr (.inr x)) ∧ FW mi c 7 := fun c h9 => by
  have h8 := fl11_29 c h9
  rw [← ho]
  refine ⟨h8, ?_⟩
  simp only [List.mem_cons, List.not_mem_nil, or_false] at h9
  rcases h9 with rfl
  · exact ⟨ft_arr (n := .int) rfl (by decide +kernel), ⟨_, rfl, Or.inr ⟨rfl, hn, hc⟩⟩⟩
set_option maxRecDepth 100000 in
theorem fl11_32 : ∀ c ∈ ([9] : List Nat), FL "HandleModelsModel" 32 c 8 := fun c hc => by
  cases List.mem_singleton.mp hc
  exact ⟨_, "HandleModelsModel", rfl, by decide, (gd_of 736 rfl rfl), Or.inl rfl⟩
set_option maxRecDepth 100000 in
theorem pl11_32_i {mi : aM} {x : Option Nat} (ho : "HandleModelsModel" = mi.1.cls) (hn : mi.1.name = "<init>") (hc : "HandleModelsModel" = mi.1.cls) : ∀ c ∈ ([9] : List Nat), FL mi.1.cls 32 c 8 ∧ FT c 8 (.inr (.inr x)) ∧ FW mi c 8 := fun c h9 => by
  have h8 := fl11_32 c h9
  rw [← ho]
  refine ⟨h8, ?_⟩
  simp only [List.mem_cons, List.not_mem_nil, or_false] at h9
  rcases h9 with rfl
  · exact ⟨ft_arr (n := .int) rfl (by decide +kernel), ⟨_, rfl, Or.inr ⟨rfl, hn, hc⟩⟩⟩
set_option maxRecDepth 100000 in
theorem fl11_35 : ∀ c ∈ ([9] : List Nat), FL "HandleModelsModel" 35 c 9 := fun c hc => by
  cases List.mem_singleton.mp hc
  exact ⟨_, "HandleModelsModel", rfl, by decide, (gd_of 737 rfl rfl), Or.inl rfl⟩
set_option maxRecDepth 100000 in
theorem pl11_35_i {mi : aM} {x : Option Nat} (ho : "HandleModelsModel" = mi.1.cls) (hn : mi.1.name = "<init>") (hc : "HandleModelsModel" = mi.1.cls) : ∀ c ∈ ([9] : List Nat), FL mi.1.cls 35 c 9 ∧ FT c 9 (.inr (.inr x)) ∧ FW mi c 9 := fun c h9 => by
  have h8 := fl11_35 c h9
  rw [← ho]
  refine ⟨h8, ?_⟩
  simp only [List.mem_cons, List.not_mem_nil, or_false] at h9
  rcases h9 with rfl
  · exact ⟨ft_arr (n := .int) rfl (by decide +kernel), ⟨_, rfl, Or.inr ⟨rfl, hn, hc⟩⟩⟩
set_option maxRecDepth 100000 in
theorem fl11_38 : ∀ c ∈ ([9] : List Nat), FL "HandleModelsModel" 38 c 10 := fun c hc => by
  cases List.mem_singleton.mp hc
  exact ⟨_, "HandleModelsModel", rfl, by decide, (gd_of 738 rfl rfl), Or.inl rfl⟩
set_option maxRecDepth 100000 in
theorem pl11_38_i {mi : aM} {x : Option Nat} (ho : "HandleModelsModel" = mi.1.cls) (hn : mi.1.name = "<init>") (hc : "HandleModelsModel" = mi.1.cls) : ∀ c ∈ ([9] : List Nat), FL mi.1.cls 38 c 10 ∧ FT c 10 (.inr (.inr x)) ∧ FW mi c 10 := fun c h9 => by
  have h8 := fl11_38 c h9
  rw [← ho]
  refine ⟨h8, ?_⟩
  simp only [List.mem_cons, List.not_mem_nil, or_false] at h9
  rcases h9 with rfl
  · exact ⟨ft_arr (n := .int) rfl (by decide +kernel), ⟨_, rfl, Or.inr ⟨rfl, hn, hc⟩⟩⟩
set_option maxRecDepth 100000 in
theorem fl11_41 : ∀ c ∈ ([9] : List Nat), FL "HandleModelsModel" 41 c 11 := fun c hc => by
  cases List.mem_singleton.mp hc
  exact ⟨_, "HandleModelsModel", rfl, by decide, (gd_of 739 rfl rfl), Or.inl rfl⟩
set_option maxRecDepth 100000 in
theorem pl11_41_i {mi : aM} {x : Option Nat} (ho : "HandleModelsModel" = mi.1.cls) (hn : mi.1.name = "<init>") (hc : "HandleModelsModel" = mi.1.cls) : ∀ c ∈ ([9] : List Nat), FL mi.1.cls 41 c 11 ∧ FT c 11 (.inr (.inr x)) ∧ FW mi c 11 := fun c h9 => by
  have h8 := fl11_41 c h9
  rw [← ho]
  refine ⟨h8, ?_⟩
  simp only [List.mem_cons, List.not_mem_nil, or_false] at h9
  rcases h9 with rfl
  · exact ⟨ft_arr (n := .int) rfl (by decide +kernel), ⟨_, rfl, Or.inr ⟨rfl, hn, hc⟩⟩⟩
set_option maxRecDepth 100000 in
theorem fl11_44 : ∀ c ∈ ([9] : List Nat), FL "HandleModelsModel" 44 c 12 := fun c hc => by
  cases List.mem_singleton.mp hc
  exact ⟨_, "HandleModelsModel", rfl, by decide, (gd_of 740 rfl rfl), Or.inl rfl⟩
set_option maxRecDepth 100000 in
theorem pl11_44_i {mi : aM} {x : Option Nat} (ho : "HandleModelsModel" = mi.1.cls) (hn : mi.1.name = "<init>") (hc : "HandleModelsModel" = mi.1.cls) : ∀ c ∈ ([9] : List Nat), FL mi.1.cls 44 c 12 ∧ FT c 12 (.inr (.inr x)) ∧ FW mi c 12 := fun c h9 => by
  have h8 := fl11_44 c h9
  rw [← ho]
  refine ⟨h8, ?_⟩
  simp only [List.mem_cons, List.not_mem_nil, or_false] at h9
  rcases h9 with rfl
  · exact ⟨ft_arr (n := .long) rfl (by decide +kernel), ⟨_, rfl, Or.inr ⟨rfl, hn, hc⟩⟩⟩
set_option maxRecDepth 100000 in
theorem fl11_48 : ∀ c ∈ ([9] : List Nat), FL "HandleModelsModel" 48 c 14 := fun c hc => by
  cases List.mem_singleton.mp hc
  exact ⟨_, "HandleModelsModel", rfl, by decide, (gd_of 742 rfl rfl), Or.inl rfl⟩
set_option maxRecDepth 100000 in
theorem pl11_48_i {mi : aM} {x : Option Nat} (ho : "HandleModelsModel" = mi.1.cls) (hn : mi.1.name = "<init>") (hc : "HandleModelsModel" = mi.1.cls) : ∀ c ∈ ([9] : List Nat), FL mi.1.cls 48 c 14 ∧ FT c 14 (.inr (.inr x)) ∧ FW mi c 14 := fun c h9 => by
  have h8 := fl11_48 c h9
  rw [← ho]
  refine ⟨h8, ?_⟩
  simp only [List.mem_cons, List.not_mem_nil, or_false] at h9
  rcases h9 with rfl
  · exact ⟨ft_arr (n := .int) rfl (by decide +kernel), ⟨_, rfl, Or.inr ⟨rfl, hn, hc⟩⟩⟩
set_option maxRecDepth 100000 in
theorem fl11_51 : ∀ c ∈ ([9] : List Nat), FL "HandleModelsModel" 51 c 15 := fun c hc => by
  cases List.mem_singleton.mp hc
  exact ⟨_, "HandleModelsModel", rfl, by decide, (gd_of 743 rfl rfl), Or.inl rfl⟩
set_option maxRecDepth 100000 in
theorem pl11_51_i {mi : aM} {x : Option Nat} (ho : "HandleModelsModel" = mi.1.cls) (hn : mi.1.name = "<init>") (hc : "HandleModelsModel" = mi.1.cls) : ∀ c ∈ ([9] : List Nat), FL mi.1.cls 51 c 15 ∧ FT c 15 (.inr (.inr x)) ∧ FW mi c 15 := fun c h9 => by
  have h8 := fl11_51 c h9
  rw [← ho]
  refine ⟨h8, ?_⟩
  simp only [List.mem_cons, List.not_mem_nil, or_false] at h9
  rcases h9 with rfl
  · exact ⟨ft_arr (n := .int) rfl (by decide +kernel), ⟨_, rfl, Or.inr ⟨rfl, hn, hc⟩⟩⟩
set_option maxRecDepth 100000 in
theorem fl11_54 : ∀ c ∈ ([9] : List Nat), FL "HandleModelsModel" 54 c 17 := fun c hc => by
  cases List.mem_singleton.mp hc
  exact ⟨_, "HandleModelsModel", rfl, by decide, (gd_of 745 rfl rfl), Or.inl rfl⟩
set_option maxRecDepth 100000 in
theorem pl11_54_i {mi : aM} {x : Option Nat} (ho : "HandleModelsModel" = mi.1.cls) (hn : mi.1.name = "<init>") (hc : "HandleModelsModel" = mi.1.cls) : ∀ c ∈ ([9] : List Nat), FL mi.1.cls 54 c 17 ∧ FT c 17 (.inr (.inr x)) ∧ FW mi c 17 := fun c h9 => by
  have h8 := fl11_54 c h9
  rw [← ho]
  refine ⟨h8, ?_⟩
  simp only [List.mem_cons, List.not_mem_nil, or_false] at h9
  rcases h9 with rfl
  · exact ⟨ft_arr (n := .int) rfl (by decide +kernel), ⟨_, rfl, Or.inr ⟨rfl, hn, hc⟩⟩⟩
set_option maxRecDepth 100000 in
theorem fl11_57 : ∀ c ∈ ([9] : List Nat), FL "HandleModelsModel" 57 c 18 := fun c hc => by
  cases List.mem_singleton.mp hc
  exact ⟨_, "HandleModelsModel", rfl, by decide, (gd_of 746 rfl rfl), Or.inl rfl⟩
set_option maxRecDepth 100000 in
theorem pl11_57_i {mi : aM} {x : Option Nat} (ho : "HandleModelsModel" = mi.1.cls) (hn : mi.1.name = "<init>") (hc : "HandleModelsModel" = mi.1.cls) : ∀ c ∈ ([9] : List Nat), FL mi.1.cls 57 c 18 ∧ FT c 18 (.inr (.inr x)) ∧ FW mi c 18 := fun c h9 => by
  have h8 := fl11_57 c h9
  rw [← ho]
  refine ⟨h8, ?_⟩
  simp only [List.mem_cons, List.not_mem_nil, or_false] at h9
  rcases h9 with rfl
  · exact ⟨ft_arr (n := .int) rfl (by decide +kernel), ⟨_, rfl, Or.inr ⟨rfl, hn, hc⟩⟩⟩
set_option maxRecDepth 100000 in
theorem fl11_60 : ∀ c ∈ ([9] : List Nat), FL "HandleModelsModel" 60 c 19 := fun c hc => by
  cases List.mem_singleton.mp hc
  exact ⟨_, "HandleModelsModel", rfl, by decide, (gd_of 747 rfl rfl), Or.inl rfl⟩
set_option maxRecDepth 100000 in
theorem pl11_60_i {mi : aM} {x : Option Nat} (ho : "HandleModelsModel" = mi.1.cls) (hn : mi.1.name = "<init>") (hc : "HandleModelsModel" = mi.1.cls) : ∀ c ∈ ([9] : List Nat), FL mi.1.cls 60 c 19 ∧ FT c 19 (.inr (.inr x)) ∧ FW mi c 19 := fun c h9 => by
  have h8 := fl11_60 c h9
  rw [← ho]
  refine ⟨h8, ?_⟩
  simp only [List.mem_cons, List.not_mem_nil, or_false] at h9
  rcases h9 with rfl
  · exact ⟨ft_arr (n := .int) rfl (by decide +kernel), ⟨_, rfl, Or.inr ⟨rfl, hn, hc⟩⟩⟩
set_option maxRecDepth 100000 in
theorem fl11_63 : ∀ c ∈ ([9] : List Nat), FL "HandleModelsModel" 63 c 21 := fun c hc => by
  cases List.mem_singleton.mp hc
  exact ⟨_, "HandleModelsModel", rfl, by decide, (gd_of 749 rfl rfl), Or.inl rfl⟩
set_option maxRecDepth 100000 in
theorem pl11_63_i {mi : aM} {x : Option Nat} (ho : "HandleModelsModel" = mi.1.cls) (hn : mi.1.name = "<init>") (hc : "HandleModelsModel" = mi.1.cls) : ∀ c ∈ ([9] : List Nat), FL mi.1.cls 63 c 21 ∧ FT c 21 (.inr (.inr x)) ∧ FW mi c 21 := fun c h9 => by
  have h8 := fl11_63 c h9
  rw [← ho]
  refine ⟨h8, ?_⟩
  simp only [List.mem_cons, List.not_mem_nil, or_false] at h9
  rcases h9 with rfl
  · exact ⟨ft_arr (n := .int) rfl (by decide +kernel), ⟨_, rfl, Or.inr ⟨rfl, hn, hc⟩⟩⟩
set_option maxRecDepth 100000 in
theorem fl11_66 : ∀ c ∈ ([9] : List Nat), FL "HandleModelsModel" 66 c 22 := fun c hc => by
  cases List.mem_singleton.mp hc
  exact ⟨_, "HandleModelsModel", rfl, by decide, (gd_of 750 rfl rfl), Or.inl rfl⟩
set_option maxRecDepth 100000 in
theorem pl11_66_i {mi : aM} {x : Option Nat} (ho : "HandleModelsModel" = mi.1.cls) (hn : mi.1.name = "<init>") (hc : "HandleModelsModel" = mi.1.cls) : ∀ c ∈ ([9] : List Nat), FL mi.1.cls 66 c 22 ∧ FT c 22 (.inr (.inr x)) ∧ FW mi c 22 := fun c h9 => by
  have h8 := fl11_66 c h9
  rw [← ho]
  refine ⟨h8, ?_⟩
  simp only [List.mem_cons, List.not_mem_nil, or_false] at h9
  rcases h9 with rfl
  · exact ⟨ft_arr (n := .long) rfl (by decide +kernel), ⟨_, rfl, Or.inr ⟨rfl, hn, hc⟩⟩⟩
set_option maxRecDepth 100000 in
theorem fl11_69 : ∀ c ∈ ([9] : List Nat), FL "HandleModelsModel" 69 c 23 := fun c hc => by
  cases List.mem_singleton.mp hc
  exact ⟨_, "HandleModelsModel", rfl, by decide, (gd_of 751 rfl rfl), Or.inl rfl⟩
set_option maxRecDepth 100000 in
theorem pl11_69_i {mi : aM} {x : Int32} (ho : "HandleModelsModel" = mi.1.cls) : ∀ c ∈ ([9] : List Nat), FL mi.1.cls 69 c 23 ∧ FT c 23 (.inl x) ∧ FW mi c 23 := fun c h9 => by
  have h8 := fl11_69 c h9
  rw [← ho]
  refine ⟨h8, ?_⟩
  simp only [List.mem_cons, List.not_mem_nil, or_false] at h9
  rcases h9 with rfl
  · exact ⟨ft_int rfl (by decide +kernel), ⟨_, rfl, Or.inl rfl⟩⟩
set_option maxRecDepth 100000 in
theorem fl11_72 : ∀ c ∈ ([9] : List Nat), FL "HandleModelsModel" 72 c 27 := fun c hc => by
  cases List.mem_singleton.mp hc
  exact ⟨_, "HandleModelsModel", rfl, by decide, (gd_of 755 rfl rfl), Or.inl rfl⟩
set_option maxRecDepth 100000 in
theorem pl11_72_i {mi : aM} {x : Option Nat} (ho : "HandleModelsModel" = mi.1.cls) (hn : mi.1.name = "<init>") (hc : "HandleModelsModel" = mi.1.cls) : ∀ c ∈ ([9] : List Nat), FL mi.1.cls 72 c 27 ∧ FT c 27 (.inr (.inr x)) ∧ FW mi c 27 := fun c h9 => by
  have h8 := fl11_72 c h9
  rw [← ho]
  refine ⟨h8, ?_⟩
  simp only [List.mem_cons, List.not_mem_nil, or_false] at h9
  rcases h9 with rfl
  · exact ⟨ft_arr (n := .int) rfl (by decide +kernel), ⟨_, rfl, Or.inr ⟨rfl, hn, hc⟩⟩⟩
set_option maxRecDepth 100000 in
theorem fl11_75 : ∀ c ∈ ([9] : List Nat), FL "HandleModelsModel" 75 c 35 := fun c hc => by
  cases List.mem_singleton.mp hc
  exact ⟨_, "HandleModelsModel", rfl, by decide, (gd_of 763 rfl rfl), Or.inl rfl⟩
set_option maxRecDepth 100000 in
theorem pl11_75_i {mi : aM} {x : Option Nat} (ho : "HandleModelsModel" = mi.1.cls) (hn : mi.1.name = "<init>") (hc : "HandleModelsModel" = mi.1.cls) : ∀ c ∈ ([9] : List Nat), FL mi.1.cls 75 c 35 ∧ FT c 35 (.inr (.inr x)) ∧ FW mi c 35 := fun c h9 => by
  have h8 := fl11_75 c h9
  rw [← ho]
  refine ⟨h8, ?_⟩
  simp only [List.mem_cons, List.not_mem_nil, or_false] at h9
  rcases h9 with rfl
  · exact ⟨ft_arr (n := .int) rfl (by decide +kernel), ⟨_, rfl, Or.inr ⟨rfl, hn, hc⟩⟩⟩
set_option maxRecDepth 100000 in
theorem fl11_78 : ∀ c ∈ ([9] : List Nat), FL "HandleModelsModel" 78 c 36 := fun c hc => by
  cases List.mem_singleton.mp hc
  exact ⟨_, "HandleModelsModel", rfl, by decide, (gd_of 764 rfl rfl), Or.inl rfl⟩
set_option maxRecDepth 100000 in
theorem pl11_78_i {mi : aM} {x : Option Nat} (ho : "HandleModelsModel" = mi.1.cls) (hn : mi.1.name = "<init>") (hc : "HandleModelsModel" = mi.1.cls) : ∀ c ∈ ([9] : List Nat), FL mi.1.cls 78 c 36 ∧ FT c 36 (.inr (.inr x)) ∧ FW mi c 36 := fun c h9 => by
  have h8 := fl11_78 c h9
  rw [← ho]
  refine ⟨h8, ?_⟩
  simp only [List.mem_cons, List.not_mem_nil, or_false] at h9
  rcases h9 with rfl
  · exact ⟨ft_arr (n := .int) rfl (by decide +kernel), ⟨_, rfl, Or.inr ⟨rfl, hn, hc⟩⟩⟩
set_option maxRecDepth 100000 in
theorem fl11_81 : ∀ c ∈ ([9] : List Nat), FL "HandleModelsModel" 81 c 37 := fun c hc => by
  cases List.mem_singleton.mp hc
  exact ⟨_, "HandleModelsModel", rfl, by decide, (gd_of 765 rfl rfl), Or.inl rfl⟩
set_option maxRecDepth 100000 in
theorem pl11_81_i {mi : aM} {x : Option Nat} (ho : "HandleModelsModel" = mi.1.cls) (hn : mi.1.name = "<init>") (hc : "HandleModelsModel" = mi.1.cls) : ∀ c ∈ ([9] : List Nat), FL mi.1.cls 81 c 37 ∧ FT c 37 (.inr (.inr x)) ∧ FW mi c 37 := fun c h9 => by
  have h8 := fl11_81 c h9
  rw [← ho]
  refine ⟨h8, ?_⟩
  simp only [List.mem_cons, List.not_mem_nil, or_false] at h9
  rcases h9 with rfl
  · exact ⟨ft_arr (n := .int) rfl (by decide +kernel), ⟨_, rfl, Or.inr ⟨rfl, hn, hc⟩⟩⟩
set_option maxRecDepth 100000 in
theorem fl11_84 : ∀ c ∈ ([9] : List Nat), FL "HandleModelsModel" 84 c 38 := fun c hc => by
  cases List.mem_singleton.mp hc
  exact ⟨_, "HandleModelsModel", rfl, by decide, (gd_of 766 rfl rfl), Or.inl rfl⟩
set_option maxRecDepth 100000 in
theorem pl11_84_i {mi : aM} {x : Option Nat} (ho : "HandleModelsModel" = mi.1.cls) (hn : mi.1.name = "<init>") (hc : "HandleModelsModel" = mi.1.cls) : ∀ c ∈ ([9] : List Nat), FL mi.1.cls 84 c 38 ∧ FT c 38 (.inr (.inr x)) ∧ FW mi c 38 := fun c h9 => by
  have h8 := fl11_84 c h9
  rw [← ho]
  refine ⟨h8, ?_⟩
  simp only [List.mem_cons, List.not_mem_nil, or_false] at h9
  rcases h9 with rfl
  · exact ⟨ft_arr (n := .long) rfl (by decide +kernel), ⟨_, rfl, Or.inr ⟨rfl, hn, hc⟩⟩⟩
set_option maxRecDepth 100000 in
theorem fl11_87 : ∀ c ∈ ([9] : List Nat), FL "HandleModelsModel" 87 c 39 := fun c hc => by
  cases List.mem_singleton.mp hc
  exact ⟨_, "HandleModelsModel", rfl, by decide, (gd_of 767 rfl rfl), Or.inl rfl⟩
set_option maxRecDepth 100000 in
theorem pl11_87_i {mi : aM} {x : Option Nat} (ho : "HandleModelsModel" = mi.1.cls) (hn : mi.1.name = "<init>") (hc : "HandleModelsModel" = mi.1.cls) : ∀ c ∈ ([9] : List Nat), FL mi.1.cls 87 c 39 ∧ FT c 39 (.inr (.inr x)) ∧ FW mi c 39 := fun c h9 => by
  have h8 := fl11_87 c h9
  rw [← ho]
  refine ⟨h8, ?_⟩
  simp only [List.mem_cons, List.not_mem_nil, or_false] at h9
  rcases h9 with rfl
  · exact ⟨ft_arr (n := .int) rfl (by decide +kernel), ⟨_, rfl, Or.inr ⟨rfl, hn, hc⟩⟩⟩
set_option maxRecDepth 100000 in
theorem fl11_90 : ∀ c ∈ ([9] : List Nat), FL "HandleModelsModel" 90 c 40 := fun c hc => by
  cases List.mem_singleton.mp hc
  exact ⟨_, "HandleModelsModel", rfl, by decide, (gd_of 768 rfl rfl), Or.inl rfl⟩
set_option maxRecDepth 100000 in
theorem pl11_90_i {mi : aM} {x : Option Nat} (ho : "HandleModelsModel" = mi.1.cls) (hn : mi.1.name = "<init>") (hc : "HandleModelsModel" = mi.1.cls) : ∀ c ∈ ([9] : List Nat), FL mi.1.cls 90 c 40 ∧ FT c 40 (.inr (.inr x)) ∧ FW mi c 40 := fun c h9 => by
  have h8 := fl11_90 c h9
  rw [← ho]
  refine ⟨h8, ?_⟩
  simp only [List.mem_cons, List.not_mem_nil, or_false] at h9
  rcases h9 with rfl
  · exact ⟨ft_arr (n := .int) rfl (by decide +kernel), ⟨_, rfl, Or.inr ⟨rfl, hn, hc⟩⟩⟩
set_option maxRecDepth 100000 in
theorem fl11_93 : ∀ c ∈ ([9] : List Nat), FL "HandleModelsModel" 93 c 41 := fun c hc => by
  cases List.mem_singleton.mp hc
  exact ⟨_, "HandleModelsModel", rfl, by decide, (gd_of 769 rfl rfl), Or.inl rfl⟩
set_option maxRecDepth 100000 in
theorem pl11_93_i {mi : aM} {x : Option Nat} (ho : "HandleModelsModel" = mi.1.cls) (hn : mi.1.name = "<init>") (hc : "HandleModelsModel" = mi.1.cls) : ∀ c ∈ ([9] : List Nat), FL mi.1.cls 93 c 41 ∧ FT c 41 (.inr (.inr x)) ∧ FW mi c 41 := fun c h9 => by
  have h8 := fl11_93 c h9
  rw [← ho]
  refine ⟨h8, ?_⟩
  simp only [List.mem_cons, List.not_mem_nil, or_false] at h9
  rcases h9 with rfl
  · exact ⟨ft_arr (n := .long) rfl (by decide +kernel), ⟨_, rfl, Or.inr ⟨rfl, hn, hc⟩⟩⟩
set_option maxRecDepth 100000 in
theorem fl11_96 : ∀ c ∈ ([9] : List Nat), FL "HandleModelsModel" 96 c 42 := fun c hc => by
  cases List.mem_singleton.mp hc
  exact ⟨_, "HandleModelsModel", rfl, by decide, (gd_of 770 rfl rfl), Or.inl rfl⟩
set_option maxRecDepth 100000 in
theorem pl11_96_i {mi : aM} {x : Option Nat} (ho : "HandleModelsModel" = mi.1.cls) (hn : mi.1.name = "<init>") (hc : "HandleModelsModel" = mi.1.cls) : ∀ c ∈ ([9] : List Nat), FL mi.1.cls 96 c 42 ∧ FT c 42 (.inr (.inr x)) ∧ FW mi c 42 := fun c h9 => by
  have h8 := fl11_96 c h9
  rw [← ho]
  refine ⟨h8, ?_⟩
  simp only [List.mem_cons, List.not_mem_nil, or_false] at h9
  rcases h9 with rfl
  · exact ⟨ft_arr (n := .long) rfl (by decide +kernel), ⟨_, rfl, Or.inr ⟨rfl, hn, hc⟩⟩⟩
set_option maxRecDepth 100000 in
theorem fl11_99 : ∀ c ∈ ([9] : List Nat), FL "HandleModelsModel" 99 c 43 := fun c hc => by
  cases List.mem_singleton.mp hc
  exact ⟨_, "HandleModelsModel", rfl, by decide, (gd_of 771 rfl rfl), Or.inl rfl⟩
set_option maxRecDepth 100000 in
theorem pl11_99_i {mi : aM} {x : Option Nat} (ho : "HandleModelsModel" = mi.1.cls) (hn : mi.1.name = "<init>") (hc : "HandleModelsModel" = mi.1.cls) : ∀ c ∈ ([9] : List Nat), FL mi.1.cls 99 c 43 ∧ FT c 43 (.inr (.inr x)) ∧ FW mi c 43 := fun c h9 => by
  have h8 := fl11_99 c h9
  rw [← ho]
  refine ⟨h8, ?_⟩
  simp only [List.mem_cons, List.not_mem_nil, or_false] at h9
  rcases h9 with rfl
  · exact ⟨ft_arr (n := .long) rfl (by decide +kernel), ⟨_, rfl, Or.inr ⟨rfl, hn, hc⟩⟩⟩
set_option maxRecDepth 100000 in
theorem fl11_102 : ∀ c ∈ ([9] : List Nat), FL "HandleModelsModel" 102 c 44 := fun c hc => by
  cases List.mem_singleton.mp hc
  exact ⟨_, "HandleModelsModel", rfl, by decide, (gd_of 772 rfl rfl), Or.inl rfl⟩
set_option maxRecDepth 100000 in
theorem pl11_102_i {mi : aM} {x : Option Nat} (ho : "HandleModelsModel" = mi.1.cls) (hn : mi.1.name = "<init>") (hc : "HandleModelsModel" = mi.1.cls) : ∀ c ∈ ([9] : List Nat), FL mi.1.cls 102 c 44 ∧ FT c 44 (.inr (.inr x)) ∧ FW mi c 44 := fun c h9 => by
  have h8 := fl11_102 c h9
  rw [← ho]
  refine ⟨h8, ?_⟩
  simp only [List.mem_cons, List.not_mem_nil, or_false] at h9
  rcases h9 with rfl
  · exact ⟨ft_arr (n := .int) rfl (by decide +kernel), ⟨_, rfl, Or.inr ⟨rfl, hn, hc⟩⟩⟩
set_option maxRecDepth 100000 in
theorem fl11_105 : ∀ c ∈ ([9] : List Nat), FL "HandleModelsModel" 105 c 45 := fun c hc => by
  cases List.mem_singleton.mp hc
  exact ⟨_, "HandleModelsModel", rfl, by decide, (gd_of 773 rfl rfl), Or.inl rfl⟩
set_option maxRecDepth 100000 in
theorem pl11_105_i {mi : aM} {x : Option Nat} (ho : "HandleModelsModel" = mi.1.cls) (hn : mi.1.name = "<init>") (hc : "HandleModelsModel" = mi.1.cls) : ∀ c ∈ ([9] : List Nat), FL mi.1.cls 105 c 45 ∧ FT c 45 (.inr (.inr x)) ∧ FW mi c 45 := fun c h9 => by
  have h8 := fl11_105 c h9
  rw [← ho]
  refine ⟨h8, ?_⟩
  simp only [List.mem_cons, List.not_mem_nil, or_false] at h9
  rcases h9 with rfl
  · exact ⟨ft_arr (n := .long) rfl (by decide +kernel), ⟨_, rfl, Or.inr ⟨rfl, hn, hc⟩⟩⟩
def fX11_init (z : Nat → Nat) (a0 : Nat) (h : aH) : Option aH :=
  (nwI h 60).bind fun h101 =>
  (wrF h101 a0 [9] 2 (.inr (.inr (some h.1)))).bind fun h102 =>
  (nwI h102 60).bind fun h103 =>
  (wrF h103 a0 [9] 3 (.inr (.inr (some h102.1)))).bind fun h104 =>
  (nwI h104 360).bind fun h105 =>
  (wrF h105 a0 [9] 4 (.inr (.inr (some h104.1)))).bind fun h106 =>
  (nwI h106 60).bind fun h107 =>
  (wrF h107 a0 [9] 5 (.inr (.inr (some h106.1)))).bind fun h108 =>
  (nwI h108 60).bind fun h109 =>
  (wrF h109 a0 [9] 6 (.inr (.inr (some h108.1)))).bind fun h110 =>
  (nwI h110 60).bind fun h111 =>
  (wrF h111 a0 [9] 7 (.inr (.inr (some h110.1)))).bind fun h112 =>
  (nwI h112 60).bind fun h113 =>
  (wrF h113 a0 [9] 8 (.inr (.inr (some h112.1)))).bind fun h114 =>
  (nwI h114 60).bind fun h115 =>
  (wrF h115 a0 [9] 9 (.inr (.inr (some h114.1)))).bind fun h116 =>
  (nwI h116 60).bind fun h117 =>
  (wrF h117 a0 [9] 10 (.inr (.inr (some h116.1)))).bind fun h118 =>
  (nwI h118 60).bind fun h119 =>
  (wrF h119 a0 [9] 11 (.inr (.inr (some h118.1)))).bind fun h120 =>
  (nwJ h120 60).bind fun h121 =>
  (wrF h121 a0 [9] 12 (.inr (.inr (some h120.1)))).bind fun h122 =>
  (nwI h122 60).bind fun h123 =>
  (wrF h123 a0 [9] 14 (.inr (.inr (some h122.1)))).bind fun h124 =>
  (nwI h124 1200).bind fun h125 =>
  (wrF h125 a0 [9] 15 (.inr (.inr (some h124.1)))).bind fun h126 =>
  (nwI h126 10).bind fun h127 =>
  (wrF h127 a0 [9] 17 (.inr (.inr (some h126.1)))).bind fun h128 =>
  (nwI h128 10).bind fun h129 =>
  (wrF h129 a0 [9] 18 (.inr (.inr (some h128.1)))).bind fun h130 =>
  (nwI h130 10).bind fun h131 =>
  (wrF h131 a0 [9] 19 (.inr (.inr (some h130.1)))).bind fun h132 =>
  (nwI h132 6).bind fun h133 =>
  (wrF h133 a0 [9] 21 (.inr (.inr (some h132.1)))).bind fun h134 =>
  (nwJ h134 6).bind fun h135 =>
  (wrF h135 a0 [9] 22 (.inr (.inr (some h134.1)))).bind fun h136 =>
  (wrF h136 a0 [9] 23 (.inl 3)).bind fun h137 =>
  (nwI h137 12).bind fun h138 =>
  (wrF h138 a0 [9] 27 (.inr (.inr (some h137.1)))).bind fun h139 =>
  (nwI h139 81).bind fun h140 =>
  (wrF h140 a0 [9] 35 (.inr (.inr (some h139.1)))).bind fun h141 =>
  (nwI h141 81).bind fun h142 =>
  (wrF h142 a0 [9] 36 (.inr (.inr (some h141.1)))).bind fun h143 =>
  (nwI h143 567).bind fun h144 =>
  (wrF h144 a0 [9] 37 (.inr (.inr (some h143.1)))).bind fun h145 =>
  (nwJ h145 567).bind fun h146 =>
  (wrF h146 a0 [9] 38 (.inr (.inr (some h145.1)))).bind fun h147 =>
  (nwI h147 81).bind fun h148 =>
  (wrF h148 a0 [9] 39 (.inr (.inr (some h147.1)))).bind fun h149 =>
  (nwI h149 81).bind fun h150 =>
  (wrF h150 a0 [9] 40 (.inr (.inr (some h149.1)))).bind fun h151 =>
  (nwJ h151 81).bind fun h152 =>
  (wrF h152 a0 [9] 41 (.inr (.inr (some h151.1)))).bind fun h153 =>
  (nwJ h153 81).bind fun h154 =>
  (wrF h154 a0 [9] 42 (.inr (.inr (some h153.1)))).bind fun h155 =>
  (nwJ h155 81).bind fun h156 =>
  (wrF h156 a0 [9] 43 (.inr (.inr (some h155.1)))).bind fun h157 =>
  (nwI h157 12).bind fun h158 =>
  (wrF h158 a0 [9] 44 (.inr (.inr (some h157.1)))).bind fun h159 =>
  (nwJ h159 12).bind fun h160 =>
  (wrF h160 a0 [9] 45 (.inr (.inr (some h159.1)))).bind fun h161 =>
  some h161
set_option maxHeartbeats 4000000 in
set_option maxRecDepth 100000 in
theorem xX11_init {l : Launch} {g : aG} {d : Nat} (hK : 1 ≤ d) {a0 : Nat} {h : aH} {q : aH} (hf : fX11_init g.2.2 a0 h = some q) : Ev l g miX11_init d [.inr (.inr (some a0))] h (none, q) := by
  obtain ⟨d, rfl⟩ : ∃ e, d = e + 1 := ⟨d - 1, by omega⟩
  refine ⟨?_, rfl, Nat.le_of_ble_eq_true rfl⟩
  unfold fX11_init at hf
  show Y l g miX11_init (d + 1) 0 [some (.inr (.inr (some a0)))] [] h _
  refine y_aload_n (i := 0) dX11_init_0 rfl rfl ?_
  refine y_obj dX11_init_1 (gd_of 727 rfl rfl) (gd_of 92 rfl rfl) (gd_of 93 rfl rfl) (by simp) (Nat.le_of_ble_eq_true rfl) ?_
  refine y_aload_n (i := 0) dX11_init_4 rfl rfl ?_
  refine y_bipush (v := 60) dX11_init_5 (by decide) ?_
  replace hf := bnd hf
  obtain ⟨h101, eh101, hf⟩ := hf
  refine y_newI eh101 (gd_of 114 rfl rfl) dX11_init_7 ?_
  replace hf := bnd hf
  obtain ⟨h102, eh102, hf⟩ := hf
  refine y_put eh102 (pl11_13_i rfl rfl rfl) dX11_init_9 ?_
  refine y_aload_n (i := 0) dX11_init_12 rfl rfl ?_
  refine y_bipush (v := 60) dX11_init_13 (by decide) ?_
  replace hf := bnd hf
  obtain ⟨h103, eh103, hf⟩ := hf
  refine y_newI eh103 (gd_of 114 rfl rfl) dX11_init_15 ?_
  replace hf := bnd hf
  obtain ⟨h104, eh104, hf⟩ := hf
  refine y_put eh104 (pl11_17_i rfl rfl rfl) dX11_init_17 ?_
  refine y_aload_n (i := 0) dX11_init_20 rfl rfl ?_
  refine y_sipush (v := 360) dX11_init_21 (by decide) ?_
  replace hf := bnd hf
  obtain ⟨h105, eh105, hf⟩ := hf
  refine y_newI eh105 (gd_of 114 rfl rfl) dX11_init_24 ?_
  replace hf := bnd hf
  obtain ⟨h106, eh106, hf⟩ := hf
  refine y_put eh106 (pl11_20_i rfl rfl rfl) dX11_init_26 ?_
  refine y_aload_n (i := 0) dX11_init_29 rfl rfl ?_
  refine y_bipush (v := 60) dX11_init_30 (by decide) ?_
  replace hf := bnd hf
  obtain ⟨h107, eh107, hf⟩ := hf
  refine y_newI eh107 (gd_of 114 rfl rfl) dX11_init_32 ?_
  replace hf := bnd hf
  obtain ⟨h108, eh108, hf⟩ := hf
  refine y_put eh108 (pl11_23_i rfl rfl rfl) dX11_init_34 ?_
  refine y_aload_n (i := 0) dX11_init_37 rfl rfl ?_
  refine y_bipush (v := 60) dX11_init_38 (by decide) ?_
  replace hf := bnd hf
  obtain ⟨h109, eh109, hf⟩ := hf
  refine y_newI eh109 (gd_of 114 rfl rfl) dX11_init_40 ?_
  replace hf := bnd hf
  obtain ⟨h110, eh110, hf⟩ := hf
  refine y_put eh110 (pl11_26_i rfl rfl rfl) dX11_init_42 ?_
  refine y_aload_n (i := 0) dX11_init_45 rfl rfl ?_
  refine y_bipush (v := 60) dX11_init_46 (by decide) ?_
  replace hf := bnd hf
  obtain ⟨h111, eh111, hf⟩ := hf
  refine y_newI eh111 (gd_of 114 rfl rfl) dX11_init_48 ?_
  replace hf := bnd hf
  obtain ⟨h112, eh112, hf⟩ := hf
  refine y_put eh112 (pl11_29_i rfl rfl rfl) dX11_init_50 ?_
  refine y_aload_n (i := 0) dX11_init_53 rfl rfl ?_
  refine y_bipush (v := 60) dX11_init_54 (by decide) ?_
  replace hf := bnd hf
  obtain ⟨h113, eh113, hf⟩ := hf
  refine y_newI eh113 (gd_of 114 rfl rfl) dX11_init_56 ?_
  replace hf := bnd hf
  obtain ⟨h114, eh114, hf⟩ := hf
  refine y_put eh114 (pl11_32_i rfl rfl rfl) dX11_init_58 ?_
  refine y_aload_n (i := 0) dX11_init_61 rfl rfl ?_
  refine y_bipush (v := 60) dX11_init_62 (by decide) ?_
  replace hf := bnd hf
  obtain ⟨h115, eh115, hf⟩ := hf
  refine y_newI eh115 (gd_of 114 rfl rfl) dX11_init_64 ?_
  replace hf := bnd hf
  obtain ⟨h116, eh116, hf⟩ := hf
  refine y_put eh116 (pl11_35_i rfl rfl rfl) dX11_init_66 ?_
  refine y_aload_n (i := 0) dX11_init_69 rfl rfl ?_
  refine y_bipush (v := 60) dX11_init_70 (by decide) ?_
  replace hf := bnd hf
  obtain ⟨h117, eh117, hf⟩ := hf
  refine y_newI eh117 (gd_of 114 rfl rfl) dX11_init_72 ?_
  replace hf := bnd hf
  obtain ⟨h118, eh118, hf⟩ := hf
  refine y_put eh118 (pl11_38_i rfl rfl rfl) dX11_init_74 ?_
  refine y_aload_n (i := 0) dX11_init_77 rfl rfl ?_
  refine y_bipush (v := 60) dX11_init_78 (by decide) ?_
  replace hf := bnd hf
  obtain ⟨h119, eh119, hf⟩ := hf
  refine y_newI eh119 (gd_of 114 rfl rfl) dX11_init_80 ?_
  replace hf := bnd hf
  obtain ⟨h120, eh120, hf⟩ := hf
  refine y_put eh120 (pl11_41_i rfl rfl rfl) dX11_init_82 ?_
  refine y_aload_n (i := 0) dX11_init_85 rfl rfl ?_
  refine y_bipush (v := 60) dX11_init_86 (by decide) ?_
  replace hf := bnd hf
  obtain ⟨h121, eh121, hf⟩ := hf
  refine y_newJ eh121 (gd_of 131 rfl rfl) dX11_init_88 ?_
  replace hf := bnd hf
  obtain ⟨h122, eh122, hf⟩ := hf
  refine y_put eh122 (pl11_44_i rfl rfl rfl) dX11_init_90 ?_
  refine y_aload_n (i := 0) dX11_init_93 rfl rfl ?_
  refine y_bipush (v := 60) dX11_init_94 (by decide) ?_
  replace hf := bnd hf
  obtain ⟨h123, eh123, hf⟩ := hf
  refine y_newI eh123 (gd_of 114 rfl rfl) dX11_init_96 ?_
  replace hf := bnd hf
  obtain ⟨h124, eh124, hf⟩ := hf
  refine y_put eh124 (pl11_48_i rfl rfl rfl) dX11_init_98 ?_
  refine y_aload_n (i := 0) dX11_init_101 rfl rfl ?_
  refine y_sipush (v := 1200) dX11_init_102 (by decide) ?_
  replace hf := bnd hf
  obtain ⟨h125, eh125, hf⟩ := hf
  refine y_newI eh125 (gd_of 114 rfl rfl) dX11_init_105 ?_
  replace hf := bnd hf
  obtain ⟨h126, eh126, hf⟩ := hf
  refine y_put eh126 (pl11_51_i rfl rfl rfl) dX11_init_107 ?_
  refine y_aload_n (i := 0) dX11_init_110 rfl rfl ?_
  refine y_bipush (v := 10) dX11_init_111 (by decide) ?_
  replace hf := bnd hf
  obtain ⟨h127, eh127, hf⟩ := hf
  refine y_newI eh127 (gd_of 114 rfl rfl) dX11_init_113 ?_
  replace hf := bnd hf
  obtain ⟨h128, eh128, hf⟩ := hf
  refine y_put eh128 (pl11_54_i rfl rfl rfl) dX11_init_115 ?_
  refine y_aload_n (i := 0) dX11_init_118 rfl rfl ?_
  refine y_bipush (v := 10) dX11_init_119 (by decide) ?_
  replace hf := bnd hf
  obtain ⟨h129, eh129, hf⟩ := hf
  refine y_newI eh129 (gd_of 114 rfl rfl) dX11_init_121 ?_
  replace hf := bnd hf
  obtain ⟨h130, eh130, hf⟩ := hf
  refine y_put eh130 (pl11_57_i rfl rfl rfl) dX11_init_123 ?_
  refine y_aload_n (i := 0) dX11_init_126 rfl rfl ?_
  refine y_bipush (v := 10) dX11_init_127 (by decide) ?_
  replace hf := bnd hf
  obtain ⟨h131, eh131, hf⟩ := hf
  refine y_newI eh131 (gd_of 114 rfl rfl) dX11_init_129 ?_
  replace hf := bnd hf
  obtain ⟨h132, eh132, hf⟩ := hf
  refine y_put eh132 (pl11_60_i rfl rfl rfl) dX11_init_131 ?_
  refine y_aload_n (i := 0) dX11_init_134 rfl rfl ?_
  refine y_bipush (v := 6) dX11_init_135 (by decide) ?_
  replace hf := bnd hf
  obtain ⟨h133, eh133, hf⟩ := hf
  refine y_newI eh133 (gd_of 114 rfl rfl) dX11_init_137 ?_
  replace hf := bnd hf
  obtain ⟨h134, eh134, hf⟩ := hf
  refine y_put eh134 (pl11_63_i rfl rfl rfl) dX11_init_139 ?_
  refine y_aload_n (i := 0) dX11_init_142 rfl rfl ?_
  refine y_bipush (v := 6) dX11_init_143 (by decide) ?_
  replace hf := bnd hf
  obtain ⟨h135, eh135, hf⟩ := hf
  refine y_newJ eh135 (gd_of 131 rfl rfl) dX11_init_145 ?_
  replace hf := bnd hf
  obtain ⟨h136, eh136, hf⟩ := hf
  refine y_put eh136 (pl11_66_i rfl rfl rfl) dX11_init_147 ?_
  refine y_aload_n (i := 0) dX11_init_150 rfl rfl ?_
  refine y_iconst (v := 3) dX11_init_151 (by decide) ?_
  replace hf := bnd hf
  obtain ⟨h137, eh137, hf⟩ := hf
  refine y_put eh137 (pl11_69_i rfl) dX11_init_152 ?_
  refine y_aload_n (i := 0) dX11_init_155 rfl rfl ?_
  refine y_bipush (v := 12) dX11_init_156 (by decide) ?_
  replace hf := bnd hf
  obtain ⟨h138, eh138, hf⟩ := hf
  refine y_newI eh138 (gd_of 114 rfl rfl) dX11_init_158 ?_
  replace hf := bnd hf
  obtain ⟨h139, eh139, hf⟩ := hf
  refine y_put eh139 (pl11_72_i rfl rfl rfl) dX11_init_160 ?_
  refine y_aload_n (i := 0) dX11_init_163 rfl rfl ?_
  refine y_bipush (v := 81) dX11_init_164 (by decide) ?_
  replace hf := bnd hf
  obtain ⟨h140, eh140, hf⟩ := hf
  refine y_newI eh140 (gd_of 114 rfl rfl) dX11_init_166 ?_
  replace hf := bnd hf
  obtain ⟨h141, eh141, hf⟩ := hf
  refine y_put eh141 (pl11_75_i rfl rfl rfl) dX11_init_168 ?_
  refine y_aload_n (i := 0) dX11_init_171 rfl rfl ?_
  refine y_bipush (v := 81) dX11_init_172 (by decide) ?_
  replace hf := bnd hf
  obtain ⟨h142, eh142, hf⟩ := hf
  refine y_newI eh142 (gd_of 114 rfl rfl) dX11_init_174 ?_
  replace hf := bnd hf
  obtain ⟨h143, eh143, hf⟩ := hf
  refine y_put eh143 (pl11_78_i rfl rfl rfl) dX11_init_176 ?_
  refine y_aload_n (i := 0) dX11_init_179 rfl rfl ?_
  refine y_sipush (v := 567) dX11_init_180 (by decide) ?_
  replace hf := bnd hf
  obtain ⟨h144, eh144, hf⟩ := hf
  refine y_newI eh144 (gd_of 114 rfl rfl) dX11_init_183 ?_
  replace hf := bnd hf
  obtain ⟨h145, eh145, hf⟩ := hf
  refine y_put eh145 (pl11_81_i rfl rfl rfl) dX11_init_185 ?_
  refine y_aload_n (i := 0) dX11_init_188 rfl rfl ?_
  refine y_sipush (v := 567) dX11_init_189 (by decide) ?_
  replace hf := bnd hf
  obtain ⟨h146, eh146, hf⟩ := hf
  refine y_newJ eh146 (gd_of 131 rfl rfl) dX11_init_192 ?_
  replace hf := bnd hf
  obtain ⟨h147, eh147, hf⟩ := hf
  refine y_put eh147 (pl11_84_i rfl rfl rfl) dX11_init_194 ?_
  refine y_aload_n (i := 0) dX11_init_197 rfl rfl ?_
  refine y_bipush (v := 81) dX11_init_198 (by decide) ?_
  replace hf := bnd hf
  obtain ⟨h148, eh148, hf⟩ := hf
  refine y_newI eh148 (gd_of 114 rfl rfl) dX11_init_200 ?_
  replace hf := bnd hf
  obtain ⟨h149, eh149, hf⟩ := hf
  refine y_put eh149 (pl11_87_i rfl rfl rfl) dX11_init_202 ?_
  refine y_aload_n (i := 0) dX11_init_205 rfl rfl ?_
  refine y_bipush (v := 81) dX11_init_206 (by decide) ?_
  replace hf := bnd hf
  obtain ⟨h150, eh150, hf⟩ := hf
  refine y_newI eh150 (gd_of 114 rfl rfl) dX11_init_208 ?_
  replace hf := bnd hf
  obtain ⟨h151, eh151, hf⟩ := hf
  refine y_put eh151 (pl11_90_i rfl rfl rfl) dX11_init_210 ?_
  refine y_aload_n (i := 0) dX11_init_213 rfl rfl ?_
  refine y_bipush (v := 81) dX11_init_214 (by decide) ?_
  replace hf := bnd hf
  obtain ⟨h152, eh152, hf⟩ := hf
  refine y_newJ eh152 (gd_of 131 rfl rfl) dX11_init_216 ?_
  replace hf := bnd hf
  obtain ⟨h153, eh153, hf⟩ := hf
  refine y_put eh153 (pl11_93_i rfl rfl rfl) dX11_init_218 ?_
  refine y_aload_n (i := 0) dX11_init_221 rfl rfl ?_
  refine y_bipush (v := 81) dX11_init_222 (by decide) ?_
  replace hf := bnd hf
  obtain ⟨h154, eh154, hf⟩ := hf
  refine y_newJ eh154 (gd_of 131 rfl rfl) dX11_init_224 ?_
  replace hf := bnd hf
  obtain ⟨h155, eh155, hf⟩ := hf
  refine y_put eh155 (pl11_96_i rfl rfl rfl) dX11_init_226 ?_
  refine y_aload_n (i := 0) dX11_init_229 rfl rfl ?_
  refine y_bipush (v := 81) dX11_init_230 (by decide) ?_
  replace hf := bnd hf
  obtain ⟨h156, eh156, hf⟩ := hf
  refine y_newJ eh156 (gd_of 131 rfl rfl) dX11_init_232 ?_
  replace hf := bnd hf
  obtain ⟨h157, eh157, hf⟩ := hf
  refine y_put eh157 (pl11_99_i rfl rfl rfl) dX11_init_234 ?_
  refine y_aload_n (i := 0) dX11_init_237 rfl rfl ?_
  refine y_bipush (v := 12) dX11_init_238 (by decide) ?_
  replace hf := bnd hf
  obtain ⟨h158, eh158, hf⟩ := hf
  refine y_newI eh158 (gd_of 114 rfl rfl) dX11_init_240 ?_
  replace hf := bnd hf
  obtain ⟨h159, eh159, hf⟩ := hf
  refine y_put eh159 (pl11_102_i rfl rfl rfl) dX11_init_242 ?_
  refine y_aload_n (i := 0) dX11_init_245 rfl rfl ?_
  refine y_bipush (v := 12) dX11_init_246 (by decide) ?_
  replace hf := bnd hf
  obtain ⟨h160, eh160, hf⟩ := hf
  refine y_newJ eh160 (gd_of 131 rfl rfl) dX11_init_248 ?_
  replace hf := bnd hf
  obtain ⟨h161, eh161, hf⟩ := hf
  refine y_put eh161 (pl11_105_i rfl rfl rfl) dX11_init_250 ?_
  obtain rfl := Option.some.inj hf
  exact y_ret (v := none) dX11_init_253 rfl
set_option maxRecDepth 100000 in
theorem dX11_in_0 : decode prog_13_method_3_code 0 = .ok (.lload_n 0, 1) := by decide +kernel
set_option maxRecDepth 100000 in
theorem dX11_in_1 : decode prog_13_method_3_code 1 = .ok (.lload_n 2, 1) := by decide +kernel
set_option maxRecDepth 100000 in
theorem dX11_in_2 : decode prog_13_method_3_code 2 = .ok (.lcmp, 1) := by decide +kernel
set_option maxRecDepth 100000 in
theorem dX11_in_3 : decode prog_13_method_3_code 3 = .ok (.ifCond .lt 14, 3) := by decide +kernel
set_option maxRecDepth 100000 in
theorem dX11_in_6 : decode prog_13_method_3_code 6 = .ok (.lload_n 0, 1) := by decide +kernel
set_option maxRecDepth 100000 in
theorem dX11_in_7 : decode prog_13_method_3_code 7 = .ok (.lload 4, 2) := by decide +kernel
set_option maxRecDepth 100000 in
theorem dX11_in_9 : decode prog_13_method_3_code 9 = .ok (.lcmp, 1) := by decide +kernel
set_option maxRecDepth 100000 in
theorem dX11_in_10 : decode prog_13_method_3_code 10 = .ok (.ifCond .gt 7, 3) := by decide +kernel
set_option maxRecDepth 100000 in
theorem dX11_in_13 : decode prog_13_method_3_code 13 = .ok (.iconst 1, 1) := by decide +kernel
set_option maxRecDepth 100000 in
theorem dX11_in_14 : decode prog_13_method_3_code 14 = .ok (.goto 4, 3) := by decide +kernel
set_option maxRecDepth 100000 in
theorem dX11_in_17 : decode prog_13_method_3_code 17 = .ok (.iconst 0, 1) := by decide +kernel
set_option maxRecDepth 100000 in
theorem dX11_in_18 : decode prog_13_method_3_code 18 = .ok (.ireturn, 1) := by decide +kernel

def fX11_in_e (z : Nat → Nat) (j0 : Int64) (j2 : Int64) (j4 : Int64) (h : aH) : Option (Int32 × aH) :=
  (if (lg_cmp j0 j2) < 0 then
  some (0, h)
  else
  (if 0 < (lg_cmp j0 j4) then
  some (0, h)
  else
  some (1, h)))
def fX11_in (z : Nat → Nat) (j0 : Int64) (j2 : Int64) (j4 : Int64) (h : aH) : Option (Int32 × aH) := chkB (fX11_in_e z j0 j2 j4 h)
set_option maxHeartbeats 4000000 in
set_option maxRecDepth 100000 in
theorem xX11_in {l : Launch} {g : aG} {d : Nat} (hK : 0 ≤ d) {j0 : Int64} {j2 : Int64} {j4 : Int64} {h : aH} {q : Int32 × aH} (hf : fX11_in g.2.2 j0 j2 j4 h = some q) : Ev l g miX11_in d [.inr (.inl j0), .inr (.inl j2), .inr (.inl j4)] h (some (.inl q.1), q.2) := by
  replace hf := chkB_spec hf
  obtain ⟨hf, hb⟩ := hf
  refine ⟨?_, Or.inr ⟨rfl, hb⟩, Nat.le_of_ble_eq_true rfl⟩
  unfold fX11_in_e at hf
  show Y l g miX11_in d 0 [some (.inr (.inl j0)), none, some (.inr (.inl j2)), none, some (.inr (.inl j4)), none] [] h _
  refine y_lload_n (i := 0) dX11_in_0 rfl rfl ?_
  refine y_lload_n (i := 2) dX11_in_1 rfl rfl ?_
  refine y_lcmp dX11_in_2 ?_
  refine y_if_lt (tgt := 17) dX11_in_3 (by decide) (fun hc => ?_) (fun hc => ?_)
  · rw [if_pos hc] at hf
    refine y_iconst (v := 0) dX11_in_17 (by decide) ?_
    obtain rfl := Option.some.inj hf
    exact y_ret (v := some (.inl 0)) dX11_in_18 rfl
  · rw [if_neg hc] at hf
    refine y_lload_n (i := 0) dX11_in_6 rfl rfl ?_
    refine y_lload (i := 4) dX11_in_7 rfl ?_
    refine y_lcmp dX11_in_9 ?_
    refine y_if_gt (tgt := 17) dX11_in_10 (by decide) (fun hc => ?_) (fun hc => ?_)
    · rw [if_pos hc] at hf
      refine y_iconst (v := 0) dX11_in_17 (by decide) ?_
      obtain rfl := Option.some.inj hf
      exact y_ret (v := some (.inl 0)) dX11_in_18 rfl
    · rw [if_neg hc] at hf
      refine y_iconst (v := 1) dX11_in_13 (by decide) ?_
      refine y_goto (tgt := 18) dX11_in_14 (by decide) ?_
      obtain rfl := Option.some.inj hf
      exact y_ret (v := some (.inl 1)) dX11_in_18 rfl
set_option maxRecDepth 100000 in
theorem dX11_isHandle_0 : decode prog_13_method_4_code 0 = .ok (.iload_n 1, 1) := by decide +kernel
set_option maxRecDepth 100000 in
theorem dX11_isHandle_1 : decode prog_13_method_4_code 1 = .ok (.i2l, 1) := by decide +kernel
set_option maxRecDepth 100000 in
theorem dX11_isHandle_2 : decode prog_13_method_4_code 2 = .ok (.lconst 0, 1) := by decide +kernel
set_option maxRecDepth 100000 in
theorem dX11_isHandle_3 : decode prog_13_method_4_code 3 = .ok (.aload_n 0, 1) := by decide +kernel
set_option maxRecDepth 100000 in
theorem dX11_isHandle_4 : decode prog_13_method_4_code 4 = .ok (.getfield 108, 3) := by decide +kernel
set_option maxRecDepth 100000 in
theorem dX11_isHandle_7 : decode prog_13_method_4_code 7 = .ok (.iconst 1, 1) := by decide +kernel
set_option maxRecDepth 100000 in
theorem dX11_isHandle_8 : decode prog_13_method_4_code 8 = .ok (.isub, 1) := by decide +kernel
set_option maxRecDepth 100000 in
theorem dX11_isHandle_9 : decode prog_13_method_4_code 9 = .ok (.i2l, 1) := by decide +kernel
set_option maxRecDepth 100000 in
theorem dX11_isHandle_10 : decode prog_13_method_4_code 10 = .ok (.invokestatic 111, 3) := by decide +kernel
set_option maxRecDepth 100000 in
theorem dX11_isHandle_13 : decode prog_13_method_4_code 13 = .ok (.ireturn, 1) := by decide +kernel
set_option maxRecDepth 100000 in
theorem fl11_108 : ∀ c ∈ ([9] : List Nat), FL "HandleModelsModel" 108 c 1 := fun c hc => by
  cases List.mem_singleton.mp hc
  exact ⟨_, "HandleModelsModel", rfl, by decide, (gd_of 729 rfl rfl), Or.inl rfl⟩
set_option maxRecDepth 100000 in
theorem okX11_in : mOk miX11_in 3 := ⟨(gd_of 880 rfl rfl), (gd_of 76 rfl rfl), by decide +kernel, ⟨by decide +kernel, by decide +kernel, by decide +kernel⟩, by decide⟩
def fX11_isHandle_e (z : Nat → Nat) (a0 : Nat) (x1 : Int32) (h : aH) : Option (Int32 × aH) :=
  (rdI h a0 [9] 1).bind fun x101 =>
  (fX11_in z (Int32.toInt64 x1) 0 (Int32.toInt64 (x101 - 1)) h).bind fun q102 =>
  some (q102.1, q102.2)
def fX11_isHandle (z : Nat → Nat) (a0 : Nat) (x1 : Int32) (h : aH) : Option (Int32 × aH) := chkB (fX11_isHandle_e z a0 x1 h)
set_option maxHeartbeats 4000000 in
set_option maxRecDepth 100000 in
theorem xX11_isHandle {l : Launch} {g : aG} {d : Nat} (hK : 1 ≤ d) {a0 : Nat} {x1 : Int32} {h : aH} {q : Int32 × aH} (hf : fX11_isHandle g.2.2 a0 x1 h = some q) : Ev l g miX11_isHandle d [.inr (.inr (some a0)), .inl x1] h (some (.inl q.1), q.2) := by
  obtain ⟨d, rfl⟩ : ∃ e, d = e + 1 := ⟨d - 1, by omega⟩
  replace hf := chkB_spec hf
  obtain ⟨hf, hb⟩ := hf
  refine ⟨?_, Or.inr ⟨rfl, hb⟩, Nat.le_of_ble_eq_true rfl⟩
  unfold fX11_isHandle_e at hf
  show Y l g miX11_isHandle (d + 1) 0 [some (.inr (.inr (some a0))), some (.inl x1)] [] h _
  refine y_iload_n (i := 1) dX11_isHandle_0 rfl rfl ?_
  refine y_i2l dX11_isHandle_1 ?_
  refine y_lconst (v := 0) dX11_isHandle_2 (by decide) ?_
  refine y_aload_n (i := 0) dX11_isHandle_3 rfl rfl ?_
  replace hf := bnd hf
  obtain ⟨x101, ex101, hf⟩ := hf
  refine y_getI ex101 fl11_108 dX11_isHandle_4 ?_
  refine y_iconst (v := 1) dX11_isHandle_7 (by decide) ?_
  refine y_isub dX11_isHandle_8 ?_
  refine y_i2l dX11_isHandle_9 ?_
  replace hf := bnd hf
  obtain ⟨q102, eq102, hf⟩ := hf
  refine y_callS (mj := miX11_in) (args := [.inr (.inl (Int32.toInt64 x1)), .inr (.inl 0), .inr (.inl (Int32.toInt64 (x101 - 1)))]) (st := []) dX11_isHandle_10 (gd_of 878 rfl rfl) (gd_of 879 rfl rfl) okX11_in (xX11_in (by omega) eq102) (Nat.le_of_ble_eq_true rfl) rfl ?_
  show Y l g miX11_isHandle (d + 1) 13 [some (.inr (.inr (some a0))), some (.inl x1)] [.inl q102.1] q102.2 _
  obtain rfl := Option.some.inj hf
  exact y_ret (v := some (.inl q102.1)) dX11_isHandle_13 rfl
set_option maxRecDepth 100000 in
theorem dX11_about_0 : decode prog_13_method_55_code 0 = .ok (.aload_n 0, 1) := by decide +kernel
set_option maxRecDepth 100000 in
theorem dX11_about_1 : decode prog_13_method_55_code 1 = .ok (.iconst 0, 1) := by decide +kernel
set_option maxRecDepth 100000 in
theorem dX11_about_2 : decode prog_13_method_55_code 2 = .ok (.putfield 1, 3) := by decide +kernel
set_option maxRecDepth 100000 in
theorem dX11_about_5 : decode prog_13_method_55_code 5 = .ok (.aload_n 0, 1) := by decide +kernel
set_option maxRecDepth 100000 in
theorem dX11_about_6 : decode prog_13_method_55_code 6 = .ok (.iload_n 1, 1) := by decide +kernel
set_option maxRecDepth 100000 in
theorem dX11_about_7 : decode prog_13_method_55_code 7 = .ok (.invokevirtual 194, 3) := by decide +kernel
set_option maxRecDepth 100000 in
theorem dX11_about_10 : decode prog_13_method_55_code 10 = .ok (.ifCond .ne 6, 3) := by decide +kernel
set_option maxRecDepth 100000 in
theorem dX11_about_13 : decode prog_13_method_55_code 13 = .ok (.bipush (-2), 2) := by decide +kernel
set_option maxRecDepth 100000 in
theorem dX11_about_15 : decode prog_13_method_55_code 15 = .ok (.ireturn, 1) := by decide +kernel
set_option maxRecDepth 100000 in
theorem dX11_about_16 : decode prog_13_method_55_code 16 = .ok (.iload_n 2, 1) := by decide +kernel
set_option maxRecDepth 100000 in
theorem dX11_about_17 : decode prog_13_method_55_code 17 = .ok (.ifCond .ne 12, 3) := by decide +kernel
set_option maxRecDepth 100000 in
theorem dX11_about_20 : decode prog_13_method_55_code 20 = .ok (.aload_n 0, 1) := by decide +kernel
set_option maxRecDepth 100000 in
theorem dX11_about_21 : decode prog_13_method_55_code 21 = .ok (.getfield 17, 3) := by decide +kernel
set_option maxRecDepth 100000 in
theorem dX11_about_24 : decode prog_13_method_55_code 24 = .ok (.iload_n 1, 1) := by decide +kernel
set_option maxRecDepth 100000 in
theorem dX11_about_25 : decode prog_13_method_55_code 25 = .ok (.iaload, 1) := by decide +kernel
set_option maxRecDepth 100000 in
theorem dX11_about_26 : decode prog_13_method_55_code 26 = .ok (.goto 52, 3) := by decide +kernel
set_option maxRecDepth 100000 in
theorem dX11_about_29 : decode prog_13_method_55_code 29 = .ok (.iload_n 2, 1) := by decide +kernel
set_option maxRecDepth 100000 in
theorem dX11_about_30 : decode prog_13_method_55_code 30 = .ok (.bipush 7, 2) := by decide +kernel
set_option maxRecDepth 100000 in
theorem dX11_about_32 : decode prog_13_method_55_code 32 = .ok (.if_icmp .ne 12, 3) := by decide +kernel
set_option maxRecDepth 100000 in
theorem dX11_about_35 : decode prog_13_method_55_code 35 = .ok (.aload_n 0, 1) := by decide +kernel
set_option maxRecDepth 100000 in
theorem dX11_about_36 : decode prog_13_method_55_code 36 = .ok (.getfield 23, 3) := by decide +kernel
set_option maxRecDepth 100000 in
theorem dX11_about_39 : decode prog_13_method_55_code 39 = .ok (.iload_n 1, 1) := by decide +kernel
set_option maxRecDepth 100000 in
theorem dX11_about_40 : decode prog_13_method_55_code 40 = .ok (.iaload, 1) := by decide +kernel
set_option maxRecDepth 100000 in
theorem dX11_about_41 : decode prog_13_method_55_code 41 = .ok (.goto 37, 3) := by decide +kernel
set_option maxRecDepth 100000 in
theorem dX11_about_44 : decode prog_13_method_55_code 44 = .ok (.iload_n 2, 1) := by decide +kernel
set_option maxRecDepth 100000 in
theorem dX11_about_45 : decode prog_13_method_55_code 45 = .ok (.i2l, 1) := by decide +kernel
set_option maxRecDepth 100000 in
theorem dX11_about_46 : decode prog_13_method_55_code 46 = .ok (.lconst 1, 1) := by decide +kernel
set_option maxRecDepth 100000 in
theorem dX11_about_47 : decode prog_13_method_55_code 47 = .ok (.aload_n 0, 1) := by decide +kernel
set_option maxRecDepth 100000 in
theorem dX11_about_48 : decode prog_13_method_55_code 48 = .ok (.getfield 17, 3) := by decide +kernel
set_option maxRecDepth 100000 in
theorem dX11_about_51 : decode prog_13_method_55_code 51 = .ok (.iload_n 1, 1) := by decide +kernel
set_option maxRecDepth 100000 in
theorem dX11_about_52 : decode prog_13_method_55_code 52 = .ok (.iaload, 1) := by decide +kernel
set_option maxRecDepth 100000 in
theorem dX11_about_53 : decode prog_13_method_55_code 53 = .ok (.i2l, 1) := by decide +kernel
set_option maxRecDepth 100000 in
theorem dX11_about_54 : decode prog_13_method_55_code 54 = .ok (.invokestatic 111, 3) := by decide +kernel
set_option maxRecDepth 100000 in
theorem dX11_about_57 : decode prog_13_method_55_code 57 = .ok (.ifCond .eq 19, 3) := by decide +kernel
set_option maxRecDepth 100000 in
theorem dX11_about_60 : decode prog_13_method_55_code 60 = .ok (.aload_n 0, 1) := by decide +kernel
set_option maxRecDepth 100000 in
theorem dX11_about_61 : decode prog_13_method_55_code 61 = .ok (.getfield 20, 3) := by decide +kernel
set_option maxRecDepth 100000 in
theorem dX11_about_64 : decode prog_13_method_55_code 64 = .ok (.bipush 6, 2) := by decide +kernel
set_option maxRecDepth 100000 in
theorem dX11_about_66 : decode prog_13_method_55_code 66 = .ok (.iload_n 1, 1) := by decide +kernel
set_option maxRecDepth 100000 in
theorem dX11_about_67 : decode prog_13_method_55_code 67 = .ok (.imul, 1) := by decide +kernel
set_option maxRecDepth 100000 in
theorem dX11_about_68 : decode prog_13_method_55_code 68 = .ok (.iload_n 2, 1) := by decide +kernel
set_option maxRecDepth 100000 in
theorem dX11_about_69 : decode prog_13_method_55_code 69 = .ok (.iadd, 1) := by decide +kernel
set_option maxRecDepth 100000 in
theorem dX11_about_70 : decode prog_13_method_55_code 70 = .ok (.iconst 1, 1) := by decide +kernel
set_option maxRecDepth 100000 in
theorem dX11_about_71 : decode prog_13_method_55_code 71 = .ok (.isub, 1) := by decide +kernel
set_option maxRecDepth 100000 in
theorem dX11_about_72 : decode prog_13_method_55_code 72 = .ok (.iaload, 1) := by decide +kernel
set_option maxRecDepth 100000 in
theorem dX11_about_73 : decode prog_13_method_55_code 73 = .ok (.goto 5, 3) := by decide +kernel
set_option maxRecDepth 100000 in
theorem dX11_about_76 : decode prog_13_method_55_code 76 = .ok (.bipush (-3), 2) := by decide +kernel
set_option maxRecDepth 100000 in
theorem dX11_about_78 : decode prog_13_method_55_code 78 = .ok (.ireturn, 1) := by decide +kernel
set_option maxRecDepth 100000 in
theorem fl11_1 : ∀ c ∈ ([9] : List Nat), FL "HandleModelsModel" 1 c 0 := fun c hc => by
  cases List.mem_singleton.mp hc
  exact ⟨_, "HandleModelsModel", rfl, by decide, (gd_of 728 rfl rfl), Or.inl rfl⟩
set_option maxRecDepth 100000 in
theorem pl11_1_m {mi : aM} {x : Int32} (ho : "HandleModelsModel" = mi.1.cls) : ∀ c ∈ ([9] : List Nat), FL mi.1.cls 1 c 0 ∧ FT c 0 (.inl x) ∧ FW mi c 0 := fun c h9 => by
  have h8 := fl11_1 c h9
  rw [← ho]
  refine ⟨h8, ?_⟩
  simp only [List.mem_cons, List.not_mem_nil, or_false] at h9
  rcases h9 with rfl
  · exact ⟨ft_int rfl (by decide +kernel), ⟨_, rfl, Or.inl rfl⟩⟩
set_option maxRecDepth 100000 in
theorem okX11_isHandle : mOk miX11_isHandle 1 := ⟨(gd_of 900 rfl rfl), (gd_of 76 rfl rfl), by decide +kernel, ⟨by decide +kernel, by decide +kernel, by decide +kernel⟩, by decide⟩
def fX11_about (z : Nat → Nat) (a0 : Nat) (x1 : Int32) (x2 : Int32) (h : aH) : Option (Int32 × aH) :=
  (wrF h a0 [9] 0 (.inl 0)).bind fun h101 =>
  (obO h101 a0 9).bind fun fs103 =>
  (fX11_isHandle z a0 x1 h101).bind fun q102 =>
  (if q102.1 = 0 then
  some ((-2), q102.2)
  else
  (if x2 = 0 then
  (rdR q102.2 a0 [9] 3).bind fun r114 =>
  (r114).bind fun a115 =>
  (arI q102.2 a115 x1).bind fun x116 =>
  some (x116, q102.2)
  else
  (if x2 = 7 then
  (rdR q102.2 a0 [9] 5).bind fun r111 =>
  (r111).bind fun a112 =>
  (arI q102.2 a112 x1).bind fun x113 =>
  some (x113, q102.2)
  else
  (rdR q102.2 a0 [9] 3).bind fun r104 =>
  (r104).bind fun a105 =>
  (arI q102.2 a105 x1).bind fun x106 =>
  (fX11_in z (Int32.toInt64 x2) 1 (Int32.toInt64 x106) q102.2).bind fun q107 =>
  (if q107.1 = 0 then
  some ((-3), q107.2)
  else
  (rdR q107.2 a0 [9] 4).bind fun r108 =>
  (r108).bind fun a109 =>
  (arI q107.2 a109 (((6 * x1) + x2) - 1)).bind fun x110 =>
  some (x110, q107.2)))))
set_option maxHeartbeats 4000000 in
set_option maxRecDepth 100000 in
theorem xX11_about {l : Launch} {g : aG} {d : Nat} (hK : 2 ≤ d) {a0 : Nat} {x1 : Int32} {x2 : Int32} {h : aH} {q : Int32 × aH} (hf : fX11_about g.2.2 a0 x1 x2 h = some q) : Ev l g miX11_about d [.inr (.inr (some a0)), .inl x1, .inl x2] h (some (.inl q.1), q.2) := by
  obtain ⟨d, rfl⟩ : ∃ e, d = e + 1 := ⟨d - 1, by omega⟩
  refine ⟨?_, Or.inl rfl, Nat.le_of_ble_eq_true rfl⟩
  unfold fX11_about at hf
  show Y l g miX11_about (d + 1) 0 [some (.inr (.inr (some a0))), some (.inl x1), some (.inl x2)] [] h _
  refine y_aload_n (i := 0) dX11_about_0 rfl rfl ?_
  refine y_iconst (v := 0) dX11_about_1 (by decide) ?_
  replace hf := bnd hf
  obtain ⟨h101, eh101, hf⟩ := hf
  refine y_put eh101 (pl11_1_m rfl) dX11_about_2 ?_
  refine y_aload_n (i := 0) dX11_about_5 rfl rfl ?_
  refine y_iload_n (i := 1) dX11_about_6 rfl rfl ?_
  replace hf := bnd hf
  obtain ⟨fs103, efs103, hf⟩ := hf
  replace hf := bnd hf
  obtain ⟨q102, eq102, hf⟩ := hf
  refine y_callV (mj := miX11_isHandle) (args := [.inl x1]) (st := []) dX11_about_7 (gd_of 897 rfl rfl) (gd_of 899 rfl rfl) (gd_of 38 rfl rfl) okX11_isHandle (obO_spec efs103) rfl rfl (xX11_isHandle (by omega) eq102) (Nat.le_of_ble_eq_true rfl) rfl ?_
  show Y l g miX11_about (d + 1) 10 [some (.inr (.inr (some a0))), some (.inl x1), some (.inl x2)] [.inl q102.1] q102.2 _
  refine y_if_ne (tgt := 16) dX11_about_10 (by decide) (fun hc => ?_) (fun hc => ?_)
  · rw [if_neg hc] at hf
    refine y_iload_n (i := 2) dX11_about_16 rfl rfl ?_
    refine y_if_ne (tgt := 29) dX11_about_17 (by decide) (fun hc => ?_) (fun hc => ?_)
    · rw [if_neg hc] at hf
      refine y_iload_n (i := 2) dX11_about_29 rfl rfl ?_
      refine y_bipush (v := 7) dX11_about_30 (by decide) ?_
      refine y_icmp_ne (tgt := 44) dX11_about_32 (by decide) (fun hc => ?_) (fun hc => ?_)
      · rw [if_neg hc] at hf
        refine y_iload_n (i := 2) dX11_about_44 rfl rfl ?_
        refine y_i2l dX11_about_45 ?_
        refine y_lconst (v := 1) dX11_about_46 (by decide) ?_
        refine y_aload_n (i := 0) dX11_about_47 rfl rfl ?_
        replace hf := bnd hf
        obtain ⟨r104, er104, hf⟩ := hf
        refine y_getR er104 fl11_17 dX11_about_48 ?_
        refine y_iload_n (i := 1) dX11_about_51 rfl rfl ?_
        replace hf := bnd hf
        obtain ⟨a105, rfl, hf⟩ := hf
        replace hf := bnd hf
        obtain ⟨x106, ex106, hf⟩ := hf
        refine y_iaload ex106 dX11_about_52 ?_
        refine y_i2l dX11_about_53 ?_
        replace hf := bnd hf
        obtain ⟨q107, eq107, hf⟩ := hf
        refine y_callS (mj := miX11_in) (args := [.inr (.inl (Int32.toInt64 x2)), .inr (.inl 1), .inr (.inl (Int32.toInt64 x106))]) (st := []) dX11_about_54 (gd_of 878 rfl rfl) (gd_of 879 rfl rfl) okX11_in (xX11_in (by omega) eq107) (Nat.le_of_ble_eq_true rfl) rfl ?_
        show Y l g miX11_about (d + 1) 57 [some (.inr (.inr (some a0))), some (.inl x1), some (.inl x2)] [.inl q107.1] q107.2 _
        refine y_if_eq (tgt := 76) dX11_about_57 (by decide) (fun hc => ?_) (fun hc => ?_)
        · rw [if_pos hc] at hf
          refine y_bipush (v := (-3)) dX11_about_76 (by decide) ?_
          obtain rfl := Option.some.inj hf
          exact y_ret (v := some (.inl (-3))) dX11_about_78 rfl
        · rw [if_neg hc] at hf
          refine y_aload_n (i := 0) dX11_about_60 rfl rfl ?_
          replace hf := bnd hf
          obtain ⟨r108, er108, hf⟩ := hf
          refine y_getR er108 fl11_20 dX11_about_61 ?_
          refine y_bipush (v := 6) dX11_about_64 (by decide) ?_
          refine y_iload_n (i := 1) dX11_about_66 rfl rfl ?_
          refine y_imul dX11_about_67 ?_
          refine y_iload_n (i := 2) dX11_about_68 rfl rfl ?_
          refine y_iadd dX11_about_69 ?_
          refine y_iconst (v := 1) dX11_about_70 (by decide) ?_
          refine y_isub dX11_about_71 ?_
          replace hf := bnd hf
          obtain ⟨a109, rfl, hf⟩ := hf
          replace hf := bnd hf
          obtain ⟨x110, ex110, hf⟩ := hf
          refine y_iaload ex110 dX11_about_72 ?_
          refine y_goto (tgt := 78) dX11_about_73 (by decide) ?_
          obtain rfl := Option.some.inj hf
          exact y_ret (v := some (.inl x110)) dX11_about_78 rfl
      · rw [if_pos hc] at hf
        refine y_aload_n (i := 0) dX11_about_35 rfl rfl ?_
        replace hf := bnd hf
        obtain ⟨r111, er111, hf⟩ := hf
        refine y_getR er111 fl11_23 dX11_about_36 ?_
        refine y_iload_n (i := 1) dX11_about_39 rfl rfl ?_
        replace hf := bnd hf
        obtain ⟨a112, rfl, hf⟩ := hf
        replace hf := bnd hf
        obtain ⟨x113, ex113, hf⟩ := hf
        refine y_iaload ex113 dX11_about_40 ?_
        refine y_goto (tgt := 78) dX11_about_41 (by decide) ?_
        obtain rfl := Option.some.inj hf
        exact y_ret (v := some (.inl x113)) dX11_about_78 rfl
    · rw [if_pos hc] at hf
      refine y_aload_n (i := 0) dX11_about_20 rfl rfl ?_
      replace hf := bnd hf
      obtain ⟨r114, er114, hf⟩ := hf
      refine y_getR er114 fl11_17 dX11_about_21 ?_
      refine y_iload_n (i := 1) dX11_about_24 rfl rfl ?_
      replace hf := bnd hf
      obtain ⟨a115, rfl, hf⟩ := hf
      replace hf := bnd hf
      obtain ⟨x116, ex116, hf⟩ := hf
      refine y_iaload ex116 dX11_about_25 ?_
      refine y_goto (tgt := 78) dX11_about_26 (by decide) ?_
      obtain rfl := Option.some.inj hf
      exact y_ret (v := some (.inl x116)) dX11_about_78 rfl
  · rw [if_pos hc] at hf
    refine y_bipush (v := (-2)) dX11_about_13 (by decide) ?_
    obtain rfl := Option.some.inj hf
    exact y_ret (v := some (.inl (-2))) dX11_about_15 rfl
set_option maxRecDepth 100000 in
theorem dX11_clear_0 : decode prog_13_method_26_code 0 = .ok (.aload_n 0, 1) := by decide +kernel
set_option maxRecDepth 100000 in
theorem dX11_clear_1 : decode prog_13_method_26_code 1 = .ok (.iconst 0, 1) := by decide +kernel
set_option maxRecDepth 100000 in
theorem dX11_clear_2 : decode prog_13_method_26_code 2 = .ok (.putfield 1, 3) := by decide +kernel
set_option maxRecDepth 100000 in
theorem dX11_clear_5 : decode prog_13_method_26_code 5 = .ok (.aload_n 0, 1) := by decide +kernel
set_option maxRecDepth 100000 in
theorem dX11_clear_6 : decode prog_13_method_26_code 6 = .ok (.getfield 159, 3) := by decide +kernel
set_option maxRecDepth 100000 in
theorem dX11_clear_9 : decode prog_13_method_26_code 9 = .ok (.istore_n 1, 1) := by decide +kernel
set_option maxRecDepth 100000 in
theorem dX11_clear_10 : decode prog_13_method_26_code 10 = .ok (.aload_n 0, 1) := by decide +kernel
set_option maxRecDepth 100000 in
theorem dX11_clear_11 : decode prog_13_method_26_code 11 = .ok (.iconst 0, 1) := by decide +kernel
set_option maxRecDepth 100000 in
theorem dX11_clear_12 : decode prog_13_method_26_code 12 = .ok (.putfield 159, 3) := by decide +kernel
set_option maxRecDepth 100000 in
theorem dX11_clear_15 : decode prog_13_method_26_code 15 = .ok (.iload_n 1, 1) := by decide +kernel
set_option maxRecDepth 100000 in
theorem dX11_clear_16 : decode prog_13_method_26_code 16 = .ok (.ireturn, 1) := by decide +kernel
set_option maxRecDepth 100000 in
theorem fl11_159 : ∀ c ∈ ([9] : List Nat), FL "HandleModelsModel" 159 c 20 := fun c hc => by
  cases List.mem_singleton.mp hc
  exact ⟨_, "HandleModelsModel", rfl, by decide, (gd_of 748 rfl rfl), Or.inl rfl⟩
set_option maxRecDepth 100000 in
theorem pl11_159_m {mi : aM} {x : Int32} (ho : "HandleModelsModel" = mi.1.cls) : ∀ c ∈ ([9] : List Nat), FL mi.1.cls 159 c 20 ∧ FT c 20 (.inl x) ∧ FW mi c 20 := fun c h9 => by
  have h8 := fl11_159 c h9
  rw [← ho]
  refine ⟨h8, ?_⟩
  simp only [List.mem_cons, List.not_mem_nil, or_false] at h9
  rcases h9 with rfl
  · exact ⟨ft_int rfl (by decide +kernel), ⟨_, rfl, Or.inl rfl⟩⟩
def fX11_clear (z : Nat → Nat) (a0 : Nat) (h : aH) : Option (Int32 × aH) :=
  (wrF h a0 [9] 0 (.inl 0)).bind fun h101 =>
  (rdI h101 a0 [9] 20).bind fun x102 =>
  (wrF h101 a0 [9] 20 (.inl 0)).bind fun h103 =>
  some (x102, h103)
set_option maxHeartbeats 4000000 in
set_option maxRecDepth 100000 in
theorem xX11_clear {l : Launch} {g : aG} {d : Nat} (hK : 0 ≤ d) {a0 : Nat} {h : aH} {q : Int32 × aH} (hf : fX11_clear g.2.2 a0 h = some q) : Ev l g miX11_clear d [.inr (.inr (some a0))] h (some (.inl q.1), q.2) := by
  refine ⟨?_, Or.inl rfl, Nat.le_of_ble_eq_true rfl⟩
  unfold fX11_clear at hf
  show Y l g miX11_clear d 0 [some (.inr (.inr (some a0))), none] [] h _
  refine y_aload_n (i := 0) dX11_clear_0 rfl rfl ?_
  refine y_iconst (v := 0) dX11_clear_1 (by decide) ?_
  replace hf := bnd hf
  obtain ⟨h101, eh101, hf⟩ := hf
  refine y_put eh101 (pl11_1_m rfl) dX11_clear_2 ?_
  refine y_aload_n (i := 0) dX11_clear_5 rfl rfl ?_
  replace hf := bnd hf
  obtain ⟨x102, ex102, hf⟩ := hf
  refine y_getI ex102 fl11_159 dX11_clear_6 ?_
  refine y_istore_n (i := 1) (lv2 := [some (.inr (.inr (some a0))), some (.inl x102)]) dX11_clear_9 rfl (by decide) rfl ?_
  refine y_aload_n (i := 0) dX11_clear_10 rfl rfl ?_
  refine y_iconst (v := 0) dX11_clear_11 (by decide) ?_
  replace hf := bnd hf
  obtain ⟨h103, eh103, hf⟩ := hf
  refine y_put eh103 (pl11_159_m rfl) dX11_clear_12 ?_
  refine y_iload_n (i := 1) dX11_clear_15 rfl rfl ?_
  obtain rfl := Option.some.inj hf
  exact y_ret (v := some (.inl x102)) dX11_clear_16 rfl
set_option maxRecDepth 100000 in
theorem dX11_isRow_0 : decode prog_13_method_5_code 0 = .ok (.lload_n 1, 1) := by decide +kernel
set_option maxRecDepth 100000 in
theorem dX11_isRow_1 : decode prog_13_method_5_code 1 = .ok (.lconst 0, 1) := by decide +kernel
set_option maxRecDepth 100000 in
theorem dX11_isRow_2 : decode prog_13_method_5_code 2 = .ok (.aload_n 0, 1) := by decide +kernel
set_option maxRecDepth 100000 in
theorem dX11_isRow_3 : decode prog_13_method_5_code 3 = .ok (.getfield 115, 3) := by decide +kernel
set_option maxRecDepth 100000 in
theorem dX11_isRow_6 : decode prog_13_method_5_code 6 = .ok (.iconst 1, 1) := by decide +kernel
set_option maxRecDepth 100000 in
theorem dX11_isRow_7 : decode prog_13_method_5_code 7 = .ok (.isub, 1) := by decide +kernel
set_option maxRecDepth 100000 in
theorem dX11_isRow_8 : decode prog_13_method_5_code 8 = .ok (.i2l, 1) := by decide +kernel
set_option maxRecDepth 100000 in
theorem dX11_isRow_9 : decode prog_13_method_5_code 9 = .ok (.invokestatic 111, 3) := by decide +kernel
set_option maxRecDepth 100000 in
theorem dX11_isRow_12 : decode prog_13_method_5_code 12 = .ok (.ireturn, 1) := by decide +kernel
set_option maxRecDepth 100000 in
theorem fl11_115 : ∀ c ∈ ([9] : List Nat), FL "HandleModelsModel" 115 c 13 := fun c hc => by
  cases List.mem_singleton.mp hc
  exact ⟨_, "HandleModelsModel", rfl, by decide, (gd_of 741 rfl rfl), Or.inl rfl⟩
def fX11_isRow_e (z : Nat → Nat) (a0 : Nat) (j1 : Int64) (h : aH) : Option (Int32 × aH) :=
  (rdI h a0 [9] 13).bind fun x101 =>
  (fX11_in z j1 0 (Int32.toInt64 (x101 - 1)) h).bind fun q102 =>
  some (q102.1, q102.2)
def fX11_isRow (z : Nat → Nat) (a0 : Nat) (j1 : Int64) (h : aH) : Option (Int32 × aH) := chkB (fX11_isRow_e z a0 j1 h)
set_option maxHeartbeats 4000000 in
set_option maxRecDepth 100000 in
theorem xX11_isRow {l : Launch} {g : aG} {d : Nat} (hK : 1 ≤ d) {a0 : Nat} {j1 : Int64} {h : aH} {q : Int32 × aH} (hf : fX11_isRow g.2.2 a0 j1 h = some q) : Ev l g miX11_isRow d [.inr (.inr (some a0)), .inr (.inl j1)] h (some (.inl q.1), q.2) := by
  obtain ⟨d, rfl⟩ : ∃ e, d = e + 1 := ⟨d - 1, by omega⟩
  replace hf := chkB_spec hf
  obtain ⟨hf, hb⟩ := hf
  refine ⟨?_, Or.inr ⟨rfl, hb⟩, Nat.le_of_ble_eq_true rfl⟩
  unfold fX11_isRow_e at hf
  show Y l g miX11_isRow (d + 1) 0 [some (.inr (.inr (some a0))), some (.inr (.inl j1)), none] [] h _
  refine y_lload_n (i := 1) dX11_isRow_0 rfl rfl ?_
  refine y_lconst (v := 0) dX11_isRow_1 (by decide) ?_
  refine y_aload_n (i := 0) dX11_isRow_2 rfl rfl ?_
  replace hf := bnd hf
  obtain ⟨x101, ex101, hf⟩ := hf
  refine y_getI ex101 fl11_115 dX11_isRow_3 ?_
  refine y_iconst (v := 1) dX11_isRow_6 (by decide) ?_
  refine y_isub dX11_isRow_7 ?_
  refine y_i2l dX11_isRow_8 ?_
  replace hf := bnd hf
  obtain ⟨q102, eq102, hf⟩ := hf
  refine y_callS (mj := miX11_in) (args := [.inr (.inl j1), .inr (.inl 0), .inr (.inl (Int32.toInt64 (x101 - 1)))]) (st := []) dX11_isRow_9 (gd_of 878 rfl rfl) (gd_of 879 rfl rfl) okX11_in (xX11_in (by omega) eq102) (Nat.le_of_ble_eq_true rfl) rfl ?_
  show Y l g miX11_isRow (d + 1) 12 [some (.inr (.inr (some a0))), some (.inr (.inl j1)), none] [.inl q102.1] q102.2 _
  obtain rfl := Option.some.inj hf
  exact y_ret (v := some (.inl q102.1)) dX11_isRow_12 rfl
set_option maxRecDepth 100000 in
theorem dX11_item_0 : decode prog_13_method_24_code 0 = .ok (.aload_n 0, 1) := by decide +kernel
set_option maxRecDepth 100000 in
theorem dX11_item_1 : decode prog_13_method_24_code 1 = .ok (.iconst 0, 1) := by decide +kernel
set_option maxRecDepth 100000 in
theorem dX11_item_2 : decode prog_13_method_24_code 2 = .ok (.putfield 1, 3) := by decide +kernel
set_option maxRecDepth 100000 in
theorem dX11_item_5 : decode prog_13_method_24_code 5 = .ok (.aload_n 0, 1) := by decide +kernel
set_option maxRecDepth 100000 in
theorem dX11_item_6 : decode prog_13_method_24_code 6 = .ok (.iload_n 1, 1) := by decide +kernel
set_option maxRecDepth 100000 in
theorem dX11_item_7 : decode prog_13_method_24_code 7 = .ok (.i2l, 1) := by decide +kernel
set_option maxRecDepth 100000 in
theorem dX11_item_8 : decode prog_13_method_24_code 8 = .ok (.invokevirtual 121, 3) := by decide +kernel
set_option maxRecDepth 100000 in
theorem dX11_item_11 : decode prog_13_method_24_code 11 = .ok (.ifCond .eq 21, 3) := by decide +kernel
set_option maxRecDepth 100000 in
theorem dX11_item_14 : decode prog_13_method_24_code 14 = .ok (.iload_n 2, 1) := by decide +kernel
set_option maxRecDepth 100000 in
theorem dX11_item_15 : decode prog_13_method_24_code 15 = .ok (.i2l, 1) := by decide +kernel
set_option maxRecDepth 100000 in
theorem dX11_item_16 : decode prog_13_method_24_code 16 = .ok (.lconst 0, 1) := by decide +kernel
set_option maxRecDepth 100000 in
theorem dX11_item_17 : decode prog_13_method_24_code 17 = .ok (.aload_n 0, 1) := by decide +kernel
set_option maxRecDepth 100000 in
theorem dX11_item_18 : decode prog_13_method_24_code 18 = .ok (.getfield 48, 3) := by decide +kernel
set_option maxRecDepth 100000 in
theorem dX11_item_21 : decode prog_13_method_24_code 21 = .ok (.iload_n 1, 1) := by decide +kernel
set_option maxRecDepth 100000 in
theorem dX11_item_22 : decode prog_13_method_24_code 22 = .ok (.iaload, 1) := by decide +kernel
set_option maxRecDepth 100000 in
theorem dX11_item_23 : decode prog_13_method_24_code 23 = .ok (.iconst 1, 1) := by decide +kernel
set_option maxRecDepth 100000 in
theorem dX11_item_24 : decode prog_13_method_24_code 24 = .ok (.isub, 1) := by decide +kernel
set_option maxRecDepth 100000 in
theorem dX11_item_25 : decode prog_13_method_24_code 25 = .ok (.i2l, 1) := by decide +kernel
set_option maxRecDepth 100000 in
theorem dX11_item_26 : decode prog_13_method_24_code 26 = .ok (.invokestatic 111, 3) := by decide +kernel
set_option maxRecDepth 100000 in
theorem dX11_item_29 : decode prog_13_method_24_code 29 = .ok (.ifCond .ne 6, 3) := by decide +kernel
set_option maxRecDepth 100000 in
theorem dX11_item_32 : decode prog_13_method_24_code 32 = .ok (.bipush (-2), 2) := by decide +kernel
set_option maxRecDepth 100000 in
theorem dX11_item_34 : decode prog_13_method_24_code 34 = .ok (.ireturn, 1) := by decide +kernel
set_option maxRecDepth 100000 in
theorem dX11_item_35 : decode prog_13_method_24_code 35 = .ok (.aload_n 0, 1) := by decide +kernel
set_option maxRecDepth 100000 in
theorem dX11_item_36 : decode prog_13_method_24_code 36 = .ok (.iconst 0, 1) := by decide +kernel
set_option maxRecDepth 100000 in
theorem dX11_item_37 : decode prog_13_method_24_code 37 = .ok (.putfield 69, 3) := by decide +kernel
set_option maxRecDepth 100000 in
theorem dX11_item_40 : decode prog_13_method_24_code 40 = .ok (.aload_n 0, 1) := by decide +kernel
set_option maxRecDepth 100000 in
theorem dX11_item_41 : decode prog_13_method_24_code 41 = .ok (.aload_n 0, 1) := by decide +kernel
set_option maxRecDepth 100000 in
theorem dX11_item_42 : decode prog_13_method_24_code 42 = .ok (.getfield 51, 3) := by decide +kernel
set_option maxRecDepth 100000 in
theorem dX11_item_45 : decode prog_13_method_24_code 45 = .ok (.bipush 20, 2) := by decide +kernel
set_option maxRecDepth 100000 in
theorem dX11_item_47 : decode prog_13_method_24_code 47 = .ok (.iload_n 1, 1) := by decide +kernel
set_option maxRecDepth 100000 in
theorem dX11_item_48 : decode prog_13_method_24_code 48 = .ok (.imul, 1) := by decide +kernel
set_option maxRecDepth 100000 in
theorem dX11_item_49 : decode prog_13_method_24_code 49 = .ok (.iload_n 2, 1) := by decide +kernel
set_option maxRecDepth 100000 in
theorem dX11_item_50 : decode prog_13_method_24_code 50 = .ok (.iadd, 1) := by decide +kernel
set_option maxRecDepth 100000 in
theorem dX11_item_51 : decode prog_13_method_24_code 51 = .ok (.iaload, 1) := by decide +kernel
set_option maxRecDepth 100000 in
theorem dX11_item_52 : decode prog_13_method_24_code 52 = .ok (.i2l, 1) := by decide +kernel
set_option maxRecDepth 100000 in
theorem dX11_item_53 : decode prog_13_method_24_code 53 = .ok (.putfield 220, 3) := by decide +kernel
set_option maxRecDepth 100000 in
theorem dX11_item_56 : decode prog_13_method_24_code 56 = .ok (.iconst 1, 1) := by decide +kernel
set_option maxRecDepth 100000 in
theorem dX11_item_57 : decode prog_13_method_24_code 57 = .ok (.ireturn, 1) := by decide +kernel
set_option maxRecDepth 100000 in
theorem okX11_isRow : mOk miX11_isRow 1 := ⟨(gd_of 877 rfl rfl), (gd_of 76 rfl rfl), by decide +kernel, ⟨by decide +kernel, by decide +kernel, by decide +kernel⟩, by decide⟩
set_option maxRecDepth 100000 in
theorem pl11_69_m {mi : aM} {x : Int32} (ho : "HandleModelsModel" = mi.1.cls) : ∀ c ∈ ([9] : List Nat), FL mi.1.cls 69 c 23 ∧ FT c 23 (.inl x) ∧ FW mi c 23 := fun c h9 => by
  have h8 := fl11_69 c h9
  rw [← ho]
  refine ⟨h8, ?_⟩
  simp only [List.mem_cons, List.not_mem_nil, or_false] at h9
  rcases h9 with rfl
  · exact ⟨ft_int rfl (by decide +kernel), ⟨_, rfl, Or.inl rfl⟩⟩
set_option maxRecDepth 100000 in
theorem fl11_220 : ∀ c ∈ ([9] : List Nat), FL "HandleModelsModel" 220 c 24 := fun c hc => by
  cases List.mem_singleton.mp hc
  exact ⟨_, "HandleModelsModel", rfl, by decide, (gd_of 752 rfl rfl), Or.inl rfl⟩
set_option maxRecDepth 100000 in
theorem pl11_220_m {mi : aM} {x : Int64} (ho : "HandleModelsModel" = mi.1.cls) : ∀ c ∈ ([9] : List Nat), FL mi.1.cls 220 c 24 ∧ FT c 24 (.inr (.inl x)) ∧ FW mi c 24 := fun c h9 => by
  have h8 := fl11_220 c h9
  rw [← ho]
  refine ⟨h8, ?_⟩
  simp only [List.mem_cons, List.not_mem_nil, or_false] at h9
  rcases h9 with rfl
  · exact ⟨ft_long rfl (by decide +kernel), ⟨_, rfl, Or.inl rfl⟩⟩
def fX11_item (z : Nat → Nat) (a0 : Nat) (x1 : Int32) (x2 : Int32) (h : aH) : Option (Int32 × aH) :=
  (wrF h a0 [9] 0 (.inl 0)).bind fun h101 =>
  (obO h101 a0 9).bind fun fs103 =>
  (fX11_isRow z a0 (Int32.toInt64 x1) h101).bind fun q102 =>
  (if q102.1 = 0 then
  some ((-2), q102.2)
  else
  (rdR q102.2 a0 [9] 14).bind fun r104 =>
  (r104).bind fun a105 =>
  (arI q102.2 a105 x1).bind fun x106 =>
  (fX11_in z (Int32.toInt64 x2) 0 (Int32.toInt64 (x106 - 1)) q102.2).bind fun q107 =>
  (if q107.1 = 0 then
  some ((-2), q107.2)
  else
  (wrF q107.2 a0 [9] 23 (.inl 0)).bind fun h108 =>
  (rdR h108 a0 [9] 15).bind fun r109 =>
  (r109).bind fun a110 =>
  (arI h108 a110 ((20 * x1) + x2)).bind fun x111 =>
  (wrF h108 a0 [9] 24 (.inr (.inl (Int32.toInt64 x111)))).bind fun h112 =>
  some (1, h112)))
set_option maxHeartbeats 4000000 in
set_option maxRecDepth 100000 in
theorem xX11_item {l : Launch} {g : aG} {d : Nat} (hK : 2 ≤ d) {a0 : Nat} {x1 : Int32} {x2 : Int32} {h : aH} {q : Int32 × aH} (hf : fX11_item g.2.2 a0 x1 x2 h = some q) : Ev l g miX11_item d [.inr (.inr (some a0)), .inl x1, .inl x2] h (some (.inl q.1), q.2) := by
  obtain ⟨d, rfl⟩ : ∃ e, d = e + 1 := ⟨d - 1, by omega⟩
  refine ⟨?_, Or.inl rfl, Nat.le_of_ble_eq_true rfl⟩
  unfold fX11_item at hf
  show Y l g miX11_item (d + 1) 0 [some (.inr (.inr (some a0))), some (.inl x1), some (.inl x2)] [] h _
  refine y_aload_n (i := 0) dX11_item_0 rfl rfl ?_
  refine y_iconst (v := 0) dX11_item_1 (by decide) ?_
  replace hf := bnd hf
  obtain ⟨h101, eh101, hf⟩ := hf
  refine y_put eh101 (pl11_1_m rfl) dX11_item_2 ?_
  refine y_aload_n (i := 0) dX11_item_5 rfl rfl ?_
  refine y_iload_n (i := 1) dX11_item_6 rfl rfl ?_
  refine y_i2l dX11_item_7 ?_
  replace hf := bnd hf
  obtain ⟨fs103, efs103, hf⟩ := hf
  replace hf := bnd hf
  obtain ⟨q102, eq102, hf⟩ := hf
  refine y_callV (mj := miX11_isRow) (args := [.inr (.inl (Int32.toInt64 x1))]) (st := []) dX11_item_8 (gd_of 874 rfl rfl) (gd_of 876 rfl rfl) (gd_of 35 rfl rfl) okX11_isRow (obO_spec efs103) rfl rfl (xX11_isRow (by omega) eq102) (Nat.le_of_ble_eq_true rfl) rfl ?_
  show Y l g miX11_item (d + 1) 11 [some (.inr (.inr (some a0))), some (.inl x1), some (.inl x2)] [.inl q102.1] q102.2 _
  refine y_if_eq (tgt := 32) dX11_item_11 (by decide) (fun hc => ?_) (fun hc => ?_)
  · rw [if_pos hc] at hf
    refine y_bipush (v := (-2)) dX11_item_32 (by decide) ?_
    obtain rfl := Option.some.inj hf
    exact y_ret (v := some (.inl (-2))) dX11_item_34 rfl
  · rw [if_neg hc] at hf
    refine y_iload_n (i := 2) dX11_item_14 rfl rfl ?_
    refine y_i2l dX11_item_15 ?_
    refine y_lconst (v := 0) dX11_item_16 (by decide) ?_
    refine y_aload_n (i := 0) dX11_item_17 rfl rfl ?_
    replace hf := bnd hf
    obtain ⟨r104, er104, hf⟩ := hf
    refine y_getR er104 fl11_48 dX11_item_18 ?_
    refine y_iload_n (i := 1) dX11_item_21 rfl rfl ?_
    replace hf := bnd hf
    obtain ⟨a105, rfl, hf⟩ := hf
    replace hf := bnd hf
    obtain ⟨x106, ex106, hf⟩ := hf
    refine y_iaload ex106 dX11_item_22 ?_
    refine y_iconst (v := 1) dX11_item_23 (by decide) ?_
    refine y_isub dX11_item_24 ?_
    refine y_i2l dX11_item_25 ?_
    replace hf := bnd hf
    obtain ⟨q107, eq107, hf⟩ := hf
    refine y_callS (mj := miX11_in) (args := [.inr (.inl (Int32.toInt64 x2)), .inr (.inl 0), .inr (.inl (Int32.toInt64 (x106 - 1)))]) (st := []) dX11_item_26 (gd_of 878 rfl rfl) (gd_of 879 rfl rfl) okX11_in (xX11_in (by omega) eq107) (Nat.le_of_ble_eq_true rfl) rfl ?_
    show Y l g miX11_item (d + 1) 29 [some (.inr (.inr (some a0))), some (.inl x1), some (.inl x2)] [.inl q107.1] q107.2 _
    refine y_if_ne (tgt := 35) dX11_item_29 (by decide) (fun hc => ?_) (fun hc => ?_)
    · rw [if_neg hc] at hf
      refine y_aload_n (i := 0) dX11_item_35 rfl rfl ?_
      refine y_iconst (v := 0) dX11_item_36 (by decide) ?_
      replace hf := bnd hf
      obtain ⟨h108, eh108, hf⟩ := hf
      refine y_put eh108 (pl11_69_m rfl) dX11_item_37 ?_
      refine y_aload_n (i := 0) dX11_item_40 rfl rfl ?_
      refine y_aload_n (i := 0) dX11_item_41 rfl rfl ?_
      replace hf := bnd hf
      obtain ⟨r109, er109, hf⟩ := hf
      refine y_getR er109 fl11_51 dX11_item_42 ?_
      refine y_bipush (v := 20) dX11_item_45 (by decide) ?_
      refine y_iload_n (i := 1) dX11_item_47 rfl rfl ?_
      refine y_imul dX11_item_48 ?_
      refine y_iload_n (i := 2) dX11_item_49 rfl rfl ?_
      refine y_iadd dX11_item_50 ?_
      replace hf := bnd hf
      obtain ⟨a110, rfl, hf⟩ := hf
      replace hf := bnd hf
      obtain ⟨x111, ex111, hf⟩ := hf
      refine y_iaload ex111 dX11_item_51 ?_
      refine y_i2l dX11_item_52 ?_
      replace hf := bnd hf
      obtain ⟨h112, eh112, hf⟩ := hf
      refine y_put eh112 (pl11_220_m rfl) dX11_item_53 ?_
      refine y_iconst (v := 1) dX11_item_56 (by decide) ?_
      obtain rfl := Option.some.inj hf
      exact y_ret (v := some (.inl 1)) dX11_item_57 rfl
    · rw [if_pos hc] at hf
      refine y_bipush (v := (-2)) dX11_item_32 (by decide) ?_
      obtain rfl := Option.some.inj hf
      exact y_ret (v := some (.inl (-2))) dX11_item_34 rfl
set_option maxRecDepth 100000 in
theorem dX11_linked_0 : decode prog_13_method_54_code 0 = .ok (.aload_n 0, 1) := by decide +kernel
set_option maxRecDepth 100000 in
theorem dX11_linked_1 : decode prog_13_method_54_code 1 = .ok (.iconst 0, 1) := by decide +kernel
set_option maxRecDepth 100000 in
theorem dX11_linked_2 : decode prog_13_method_54_code 2 = .ok (.putfield 1, 3) := by decide +kernel
set_option maxRecDepth 100000 in
theorem dX11_linked_5 : decode prog_13_method_54_code 5 = .ok (.iload_n 1, 1) := by decide +kernel
set_option maxRecDepth 100000 in
theorem dX11_linked_6 : decode prog_13_method_54_code 6 = .ok (.i2l, 1) := by decide +kernel
set_option maxRecDepth 100000 in
theorem dX11_linked_7 : decode prog_13_method_54_code 7 = .ok (.lconst 0, 1) := by decide +kernel
set_option maxRecDepth 100000 in
theorem dX11_linked_8 : decode prog_13_method_54_code 8 = .ok (.aload_n 0, 1) := by decide +kernel
set_option maxRecDepth 100000 in
theorem dX11_linked_9 : decode prog_13_method_54_code 9 = .ok (.getfield 314, 3) := by decide +kernel
set_option maxRecDepth 100000 in
theorem dX11_linked_12 : decode prog_13_method_54_code 12 = .ok (.iconst 1, 1) := by decide +kernel
set_option maxRecDepth 100000 in
theorem dX11_linked_13 : decode prog_13_method_54_code 13 = .ok (.isub, 1) := by decide +kernel
set_option maxRecDepth 100000 in
theorem dX11_linked_14 : decode prog_13_method_54_code 14 = .ok (.i2l, 1) := by decide +kernel
set_option maxRecDepth 100000 in
theorem dX11_linked_15 : decode prog_13_method_54_code 15 = .ok (.invokestatic 111, 3) := by decide +kernel
set_option maxRecDepth 100000 in
theorem dX11_linked_18 : decode prog_13_method_54_code 18 = .ok (.ifCond .eq 12, 3) := by decide +kernel
set_option maxRecDepth 100000 in
theorem dX11_linked_21 : decode prog_13_method_54_code 21 = .ok (.aload_n 0, 1) := by decide +kernel
set_option maxRecDepth 100000 in
theorem dX11_linked_22 : decode prog_13_method_54_code 22 = .ok (.getfield 60, 3) := by decide +kernel
set_option maxRecDepth 100000 in
theorem dX11_linked_25 : decode prog_13_method_54_code 25 = .ok (.iload_n 1, 1) := by decide +kernel
set_option maxRecDepth 100000 in
theorem dX11_linked_26 : decode prog_13_method_54_code 26 = .ok (.iaload, 1) := by decide +kernel
set_option maxRecDepth 100000 in
theorem dX11_linked_27 : decode prog_13_method_54_code 27 = .ok (.goto 5, 3) := by decide +kernel
set_option maxRecDepth 100000 in
theorem dX11_linked_30 : decode prog_13_method_54_code 30 = .ok (.bipush (-2), 2) := by decide +kernel
set_option maxRecDepth 100000 in
theorem dX11_linked_32 : decode prog_13_method_54_code 32 = .ok (.ireturn, 1) := by decide +kernel
set_option maxRecDepth 100000 in
theorem fl11_314 : ∀ c ∈ ([9] : List Nat), FL "HandleModelsModel" 314 c 16 := fun c hc => by
  cases List.mem_singleton.mp hc
  exact ⟨_, "HandleModelsModel", rfl, by decide, (gd_of 744 rfl rfl), Or.inl rfl⟩
def fX11_linked (z : Nat → Nat) (a0 : Nat) (x1 : Int32) (h : aH) : Option (Int32 × aH) :=
  (wrF h a0 [9] 0 (.inl 0)).bind fun h101 =>
  (rdI h101 a0 [9] 16).bind fun x102 =>
  (fX11_in z (Int32.toInt64 x1) 0 (Int32.toInt64 (x102 - 1)) h101).bind fun q103 =>
  (if q103.1 = 0 then
  some ((-2), q103.2)
  else
  (rdR q103.2 a0 [9] 19).bind fun r104 =>
  (r104).bind fun a105 =>
  (arI q103.2 a105 x1).bind fun x106 =>
  some (x106, q103.2))
set_option maxHeartbeats 4000000 in
set_option maxRecDepth 100000 in
theorem xX11_linked {l : Launch} {g : aG} {d : Nat} (hK : 1 ≤ d) {a0 : Nat} {x1 : Int32} {h : aH} {q : Int32 × aH} (hf : fX11_linked g.2.2 a0 x1 h = some q) : Ev l g miX11_linked d [.inr (.inr (some a0)), .inl x1] h (some (.inl q.1), q.2) := by
  obtain ⟨d, rfl⟩ : ∃ e, d = e + 1 := ⟨d - 1, by omega⟩
  refine ⟨?_, Or.inl rfl, Nat.le_of_ble_eq_true rfl⟩
  unfold fX11_linked at hf
  show Y l g miX11_linked (d + 1) 0 [some (.inr (.inr (some a0))), some (.inl x1)] [] h _
  refine y_aload_n (i := 0) dX11_linked_0 rfl rfl ?_
  refine y_iconst (v := 0) dX11_linked_1 (by decide) ?_
  replace hf := bnd hf
  obtain ⟨h101, eh101, hf⟩ := hf
  refine y_put eh101 (pl11_1_m rfl) dX11_linked_2 ?_
  refine y_iload_n (i := 1) dX11_linked_5 rfl rfl ?_
  refine y_i2l dX11_linked_6 ?_
  refine y_lconst (v := 0) dX11_linked_7 (by decide) ?_
  refine y_aload_n (i := 0) dX11_linked_8 rfl rfl ?_
  replace hf := bnd hf
  obtain ⟨x102, ex102, hf⟩ := hf
  refine y_getI ex102 fl11_314 dX11_linked_9 ?_
  refine y_iconst (v := 1) dX11_linked_12 (by decide) ?_
  refine y_isub dX11_linked_13 ?_
  refine y_i2l dX11_linked_14 ?_
  replace hf := bnd hf
  obtain ⟨q103, eq103, hf⟩ := hf
  refine y_callS (mj := miX11_in) (args := [.inr (.inl (Int32.toInt64 x1)), .inr (.inl 0), .inr (.inl (Int32.toInt64 (x102 - 1)))]) (st := []) dX11_linked_15 (gd_of 878 rfl rfl) (gd_of 879 rfl rfl) okX11_in (xX11_in (by omega) eq103) (Nat.le_of_ble_eq_true rfl) rfl ?_
  show Y l g miX11_linked (d + 1) 18 [some (.inr (.inr (some a0))), some (.inl x1)] [.inl q103.1] q103.2 _
  refine y_if_eq (tgt := 30) dX11_linked_18 (by decide) (fun hc => ?_) (fun hc => ?_)
  · rw [if_pos hc] at hf
    refine y_bipush (v := (-2)) dX11_linked_30 (by decide) ?_
    obtain rfl := Option.some.inj hf
    exact y_ret (v := some (.inl (-2))) dX11_linked_32 rfl
  · rw [if_neg hc] at hf
    refine y_aload_n (i := 0) dX11_linked_21 rfl rfl ?_
    replace hf := bnd hf
    obtain ⟨r104, er104, hf⟩ := hf
    refine y_getR er104 fl11_60 dX11_linked_22 ?_
    refine y_iload_n (i := 1) dX11_linked_25 rfl rfl ?_
    replace hf := bnd hf
    obtain ⟨a105, rfl, hf⟩ := hf
    replace hf := bnd hf
    obtain ⟨x106, ex106, hf⟩ := hf
    refine y_iaload ex106 dX11_linked_26 ?_
    refine y_goto (tgt := 32) dX11_linked_27 (by decide) ?_
    obtain rfl := Option.some.inj hf
    exact y_ret (v := some (.inl x106)) dX11_linked_32 rfl
set_option maxRecDepth 100000 in
theorem dX11_digit_0 : decode prog_13_method_9_code 0 = .ok (.iload_n 0, 1) := by decide +kernel
set_option maxRecDepth 100000 in
theorem dX11_digit_1 : decode prog_13_method_9_code 1 = .ok (.istore_n 3, 1) := by decide +kernel
set_option maxRecDepth 100000 in
theorem dX11_digit_2 : decode prog_13_method_9_code 2 = .ok (.iload_n 1, 1) := by decide +kernel
set_option maxRecDepth 100000 in
theorem dX11_digit_3 : decode prog_13_method_9_code 3 = .ok (.iconst 1, 1) := by decide +kernel
set_option maxRecDepth 100000 in
theorem dX11_digit_4 : decode prog_13_method_9_code 4 = .ok (.isub, 1) := by decide +kernel
set_option maxRecDepth 100000 in
theorem dX11_digit_5 : decode prog_13_method_9_code 5 = .ok (.istore 4, 2) := by decide +kernel
set_option maxRecDepth 100000 in
theorem dX11_digit_7 : decode prog_13_method_9_code 7 = .ok (.iload 4, 2) := by decide +kernel
set_option maxRecDepth 100000 in
theorem dX11_digit_9 : decode prog_13_method_9_code 9 = .ok (.iload_n 2, 1) := by decide +kernel
set_option maxRecDepth 100000 in
theorem dX11_digit_10 : decode prog_13_method_9_code 10 = .ok (.if_icmp .le 14, 3) := by decide +kernel
set_option maxRecDepth 100000 in
theorem dX11_digit_13 : decode prog_13_method_9_code 13 = .ok (.iload_n 3, 1) := by decide +kernel
set_option maxRecDepth 100000 in
theorem dX11_digit_14 : decode prog_13_method_9_code 14 = .ok (.bipush 10, 2) := by decide +kernel
set_option maxRecDepth 100000 in
theorem dX11_digit_16 : decode prog_13_method_9_code 16 = .ok (.idiv, 1) := by decide +kernel
set_option maxRecDepth 100000 in
theorem dX11_digit_17 : decode prog_13_method_9_code 17 = .ok (.istore_n 3, 1) := by decide +kernel
set_option maxRecDepth 100000 in
theorem dX11_digit_18 : decode prog_13_method_9_code 18 = .ok (.iinc 4 (-1), 3) := by decide +kernel
set_option maxRecDepth 100000 in
theorem dX11_digit_21 : decode prog_13_method_9_code 21 = .ok (.goto (-14), 3) := by decide +kernel
set_option maxRecDepth 100000 in
theorem dX11_digit_24 : decode prog_13_method_9_code 24 = .ok (.iload_n 3, 1) := by decide +kernel
set_option maxRecDepth 100000 in
theorem dX11_digit_25 : decode prog_13_method_9_code 25 = .ok (.bipush 10, 2) := by decide +kernel
set_option maxRecDepth 100000 in
theorem dX11_digit_27 : decode prog_13_method_9_code 27 = .ok (.irem, 1) := by decide +kernel
set_option maxRecDepth 100000 in
theorem dX11_digit_28 : decode prog_13_method_9_code 28 = .ok (.ireturn, 1) := by decide +kernel

def fX11_digit_7 (z : Nat → Nat) : Nat → Int32 → Int32 → Int32 → aH → Option (Int32 × aH)
  | 0, _, _, _, _ => none
  | n + 1, x2, x3, x4, h => (if x4 ≤ x2 then
  some ((x3 - x3 / 10 * 10), h)
  else
  fX11_digit_7 z n x2 (x3 / 10) (x4 + (-1)) h)
set_option maxHeartbeats 4000000 in
set_option maxRecDepth 100000 in
theorem xX11_digit_7 {l : Launch} {g : aG} {d : Nat} (hK : 0 ≤ d) : ∀ (n : Nat) (x2 : Int32) (x3 : Int32) (x4 : Int32) (h : aH) (q : Int32 × aH), fX11_digit_7 g.2.2 n x2 x3 x4 h = some q → Y l g miX11_digit d 7 [none, none, some (.inl x2), some (.inl x3), some (.inl x4)] [] h (some (.inl q.1), q.2) := by
  intro n
  induction n with
  | zero => intro x2 x3 x4 h q hf; simp [fX11_digit_7] at hf
  | succ n ih =>
    intro x2 x3 x4 h q hf
    rw [fX11_digit_7] at hf
    refine y_iload (i := 4) dX11_digit_7 rfl ?_
    refine y_iload_n (i := 2) dX11_digit_9 rfl rfl ?_
    refine y_icmp_le (tgt := 24) dX11_digit_10 (by decide) (fun hc => ?_) (fun hc => ?_)
    · rw [if_pos hc] at hf
      refine y_iload_n (i := 3) dX11_digit_24 rfl rfl ?_
      refine y_bipush (v := 10) dX11_digit_25 (by decide) ?_
      refine y_irem dX11_digit_27 (by decide) ?_
      obtain rfl := Option.some.inj hf
      exact y_ret (v := some (.inl (x3 - x3 / 10 * 10))) dX11_digit_28 rfl
    · rw [if_neg hc] at hf
      refine y_iload_n (i := 3) dX11_digit_13 rfl rfl ?_
      refine y_bipush (v := 10) dX11_digit_14 (by decide) ?_
      refine y_idiv dX11_digit_16 (by decide) ?_
      refine y_istore_n (i := 3) (lv2 := [none, none, some (.inl x2), some (.inl (x3 / 10)), some (.inl x4)]) dX11_digit_17 rfl (by decide) rfl ?_
      refine y_iinc (i := 4) (y := (-1)) (lv2 := [none, none, some (.inl x2), some (.inl (x3 / 10)), some (.inl (x4 + (-1)))]) dX11_digit_18 rfl (by decide) (by decide) rfl ?_
      refine y_goto (tgt := 7) dX11_digit_21 (by decide) ?_
      refine Y.weak (lv2 := [none, none, some (.inl x2), some (.inl (x3 / 10)), some (.inl (x4 + (-1)))]) [false, false, true, true, true] rfl ?_
      exact ih _ _ _ _ _ hf
def fX11_digit (z : Nat → Nat) (x0 : Int32) (x1 : Int32) (x2 : Int32) (h : aH) : Option (Int32 × aH) :=
  fX11_digit_7 z 4000 x2 x0 (x1 - 1) h
set_option maxHeartbeats 4000000 in
set_option maxRecDepth 100000 in
theorem xX11_digit {l : Launch} {g : aG} {d : Nat} (hK : 0 ≤ d) {x0 : Int32} {x1 : Int32} {x2 : Int32} {h : aH} {q : Int32 × aH} (hf : fX11_digit g.2.2 x0 x1 x2 h = some q) : Ev l g miX11_digit d [.inl x0, .inl x1, .inl x2] h (some (.inl q.1), q.2) := by
  refine ⟨?_, Or.inl rfl, Nat.le_of_ble_eq_true rfl⟩
  unfold fX11_digit at hf
  show Y l g miX11_digit d 0 [some (.inl x0), some (.inl x1), some (.inl x2), none, none] [] h _
  refine y_iload_n (i := 0) dX11_digit_0 rfl rfl ?_
  refine y_istore_n (i := 3) (lv2 := [some (.inl x0), some (.inl x1), some (.inl x2), some (.inl x0), none]) dX11_digit_1 rfl (by decide) rfl ?_
  refine y_iload_n (i := 1) dX11_digit_2 rfl rfl ?_
  refine y_iconst (v := 1) dX11_digit_3 (by decide) ?_
  refine y_isub dX11_digit_4 ?_
  refine y_istore (i := 4) (lv2 := [some (.inl x0), some (.inl x1), some (.inl x2), some (.inl x0), some (.inl (x1 - 1))]) dX11_digit_5 (by decide) rfl ?_
  refine Y.weak (lv2 := [none, none, some (.inl x2), some (.inl x0), some (.inl (x1 - 1))]) [false, false, true, true, true] rfl ?_
  exact xX11_digit_7 hK 4000 _ _ _ _ _ hf
set_option maxRecDepth 100000 in
theorem dX11_arePlaces_0 : decode prog_13_method_10_code 0 = .ok (.iconst 1, 1) := by decide +kernel
set_option maxRecDepth 100000 in
theorem dX11_arePlaces_1 : decode prog_13_method_10_code 1 = .ok (.istore_n 2, 1) := by decide +kernel
set_option maxRecDepth 100000 in
theorem dX11_arePlaces_2 : decode prog_13_method_10_code 2 = .ok (.iconst 0, 1) := by decide +kernel
set_option maxRecDepth 100000 in
theorem dX11_arePlaces_3 : decode prog_13_method_10_code 3 = .ok (.istore_n 3, 1) := by decide +kernel
set_option maxRecDepth 100000 in
theorem dX11_arePlaces_4 : decode prog_13_method_10_code 4 = .ok (.iload_n 3, 1) := by decide +kernel
set_option maxRecDepth 100000 in
theorem dX11_arePlaces_5 : decode prog_13_method_10_code 5 = .ok (.iload_n 1, 1) := by decide +kernel
set_option maxRecDepth 100000 in
theorem dX11_arePlaces_6 : decode prog_13_method_10_code 6 = .ok (.if_icmp .ge 14, 3) := by decide +kernel
set_option maxRecDepth 100000 in
theorem dX11_arePlaces_9 : decode prog_13_method_10_code 9 = .ok (.iload_n 2, 1) := by decide +kernel
set_option maxRecDepth 100000 in
theorem dX11_arePlaces_10 : decode prog_13_method_10_code 10 = .ok (.bipush 10, 2) := by decide +kernel
set_option maxRecDepth 100000 in
theorem dX11_arePlaces_12 : decode prog_13_method_10_code 12 = .ok (.imul, 1) := by decide +kernel
set_option maxRecDepth 100000 in
theorem dX11_arePlaces_13 : decode prog_13_method_10_code 13 = .ok (.istore_n 2, 1) := by decide +kernel
set_option maxRecDepth 100000 in
theorem dX11_arePlaces_14 : decode prog_13_method_10_code 14 = .ok (.iinc 3 1, 3) := by decide +kernel
set_option maxRecDepth 100000 in
theorem dX11_arePlaces_17 : decode prog_13_method_10_code 17 = .ok (.goto (-13), 3) := by decide +kernel
set_option maxRecDepth 100000 in
theorem dX11_arePlaces_20 : decode prog_13_method_10_code 20 = .ok (.iload_n 0, 1) := by decide +kernel
set_option maxRecDepth 100000 in
theorem dX11_arePlaces_21 : decode prog_13_method_10_code 21 = .ok (.ifCond .lt 8, 3) := by decide +kernel
set_option maxRecDepth 100000 in
theorem dX11_arePlaces_24 : decode prog_13_method_10_code 24 = .ok (.iload_n 0, 1) := by decide +kernel
set_option maxRecDepth 100000 in
theorem dX11_arePlaces_25 : decode prog_13_method_10_code 25 = .ok (.iload_n 2, 1) := by decide +kernel
set_option maxRecDepth 100000 in
theorem dX11_arePlaces_26 : decode prog_13_method_10_code 26 = .ok (.if_icmp .lt 5, 3) := by decide +kernel
set_option maxRecDepth 100000 in
theorem dX11_arePlaces_29 : decode prog_13_method_10_code 29 = .ok (.iconst 0, 1) := by decide +kernel
set_option maxRecDepth 100000 in
theorem dX11_arePlaces_30 : decode prog_13_method_10_code 30 = .ok (.ireturn, 1) := by decide +kernel
set_option maxRecDepth 100000 in
theorem dX11_arePlaces_31 : decode prog_13_method_10_code 31 = .ok (.iconst 0, 1) := by decide +kernel
set_option maxRecDepth 100000 in
theorem dX11_arePlaces_32 : decode prog_13_method_10_code 32 = .ok (.istore_n 3, 1) := by decide +kernel
set_option maxRecDepth 100000 in
theorem dX11_arePlaces_33 : decode prog_13_method_10_code 33 = .ok (.iconst 0, 1) := by decide +kernel
set_option maxRecDepth 100000 in
theorem dX11_arePlaces_34 : decode prog_13_method_10_code 34 = .ok (.istore 4, 2) := by decide +kernel
set_option maxRecDepth 100000 in
theorem dX11_arePlaces_36 : decode prog_13_method_10_code 36 = .ok (.iload 4, 2) := by decide +kernel
set_option maxRecDepth 100000 in
theorem dX11_arePlaces_38 : decode prog_13_method_10_code 38 = .ok (.iload_n 1, 1) := by decide +kernel
set_option maxRecDepth 100000 in
theorem dX11_arePlaces_39 : decode prog_13_method_10_code 39 = .ok (.if_icmp .ge 43, 3) := by decide +kernel
set_option maxRecDepth 100000 in
theorem dX11_arePlaces_42 : decode prog_13_method_10_code 42 = .ok (.iload_n 0, 1) := by decide +kernel
set_option maxRecDepth 100000 in
theorem dX11_arePlaces_43 : decode prog_13_method_10_code 43 = .ok (.iload_n 1, 1) := by decide +kernel
set_option maxRecDepth 100000 in
theorem dX11_arePlaces_44 : decode prog_13_method_10_code 44 = .ok (.iload 4, 2) := by decide +kernel
set_option maxRecDepth 100000 in
theorem dX11_arePlaces_46 : decode prog_13_method_10_code 46 = .ok (.invokestatic 141, 3) := by decide +kernel
set_option maxRecDepth 100000 in
theorem dX11_arePlaces_49 : decode prog_13_method_10_code 49 = .ok (.istore 5, 2) := by decide +kernel
set_option maxRecDepth 100000 in
theorem dX11_arePlaces_51 : decode prog_13_method_10_code 51 = .ok (.iload 5, 2) := by decide +kernel
set_option maxRecDepth 100000 in
theorem dX11_arePlaces_53 : decode prog_13_method_10_code 53 = .ok (.iload_n 1, 1) := by decide +kernel
set_option maxRecDepth 100000 in
theorem dX11_arePlaces_54 : decode prog_13_method_10_code 54 = .ok (.if_icmp .ge 13, 3) := by decide +kernel
set_option maxRecDepth 100000 in
theorem dX11_arePlaces_57 : decode prog_13_method_10_code 57 = .ok (.iload_n 3, 1) := by decide +kernel
set_option maxRecDepth 100000 in
theorem dX11_arePlaces_58 : decode prog_13_method_10_code 58 = .ok (.iload 5, 2) := by decide +kernel
set_option maxRecDepth 100000 in
theorem dX11_arePlaces_60 : decode prog_13_method_10_code 60 = .ok (.ishr, 1) := by decide +kernel
set_option maxRecDepth 100000 in
theorem dX11_arePlaces_61 : decode prog_13_method_10_code 61 = .ok (.iconst 1, 1) := by decide +kernel
set_option maxRecDepth 100000 in
theorem dX11_arePlaces_62 : decode prog_13_method_10_code 62 = .ok (.iand, 1) := by decide +kernel
set_option maxRecDepth 100000 in
theorem dX11_arePlaces_63 : decode prog_13_method_10_code 63 = .ok (.iconst 1, 1) := by decide +kernel
set_option maxRecDepth 100000 in
theorem dX11_arePlaces_64 : decode prog_13_method_10_code 64 = .ok (.if_icmp .ne 5, 3) := by decide +kernel
set_option maxRecDepth 100000 in
theorem dX11_arePlaces_67 : decode prog_13_method_10_code 67 = .ok (.iconst 0, 1) := by decide +kernel
set_option maxRecDepth 100000 in
theorem dX11_arePlaces_68 : decode prog_13_method_10_code 68 = .ok (.ireturn, 1) := by decide +kernel
set_option maxRecDepth 100000 in
theorem dX11_arePlaces_69 : decode prog_13_method_10_code 69 = .ok (.iload_n 3, 1) := by decide +kernel
set_option maxRecDepth 100000 in
theorem dX11_arePlaces_70 : decode prog_13_method_10_code 70 = .ok (.iconst 1, 1) := by decide +kernel
set_option maxRecDepth 100000 in
theorem dX11_arePlaces_71 : decode prog_13_method_10_code 71 = .ok (.iload 5, 2) := by decide +kernel
set_option maxRecDepth 100000 in
theorem dX11_arePlaces_73 : decode prog_13_method_10_code 73 = .ok (.ishl, 1) := by decide +kernel
set_option maxRecDepth 100000 in
theorem dX11_arePlaces_74 : decode prog_13_method_10_code 74 = .ok (.ior, 1) := by decide +kernel
set_option maxRecDepth 100000 in
theorem dX11_arePlaces_75 : decode prog_13_method_10_code 75 = .ok (.istore_n 3, 1) := by decide +kernel
set_option maxRecDepth 100000 in
theorem dX11_arePlaces_76 : decode prog_13_method_10_code 76 = .ok (.iinc 4 1, 3) := by decide +kernel
set_option maxRecDepth 100000 in
theorem dX11_arePlaces_79 : decode prog_13_method_10_code 79 = .ok (.goto (-43), 3) := by decide +kernel
set_option maxRecDepth 100000 in
theorem dX11_arePlaces_82 : decode prog_13_method_10_code 82 = .ok (.iconst 1, 1) := by decide +kernel
set_option maxRecDepth 100000 in
theorem dX11_arePlaces_83 : decode prog_13_method_10_code 83 = .ok (.ireturn, 1) := by decide +kernel
set_option maxRecDepth 100000 in
theorem okX11_digit : mOk miX11_digit 3 := ⟨(gd_of 911 rfl rfl), (gd_of 76 rfl rfl), by decide +kernel, ⟨by decide +kernel, by decide +kernel, by decide +kernel⟩, by decide⟩
def fX11_arePlaces_36 (z : Nat → Nat) : Nat → Int32 → Int32 → Int32 → Int32 → aH → Option (Int32 × aH)
  | 0, _, _, _, _, _ => none
  | n + 1, x0, x1, x3, x4, h => (if x1 ≤ x4 then
  some (1, h)
  else
  (fX11_digit z x0 x1 x4 h).bind fun q101 =>
  (if x1 ≤ q101.1 then
  some (0, q101.2)
  else
  (if ((x3 >>> (q101.1 &&& 31)) &&& 1) = 1 then
  some (0, q101.2)
  else
  fX11_arePlaces_36 z n x0 x1 (x3 ||| (1 <<< (q101.1 &&& 31))) (x4 + 1) q101.2)))
set_option maxHeartbeats 4000000 in
set_option maxRecDepth 100000 in
theorem xX11_arePlaces_36 {l : Launch} {g : aG} {d : Nat} (hK : 1 ≤ d + 1) : ∀ (n : Nat) (x0 : Int32) (x1 : Int32) (x3 : Int32) (x4 : Int32) (h : aH) (q : Int32 × aH), fX11_arePlaces_36 g.2.2 n x0 x1 x3 x4 h = some q → Y l g miX11_arePlaces (d + 1) 36 [some (.inl x0), some (.inl x1), none, some (.inl x3), some (.inl x4), none] [] h (some (.inl q.1), q.2) := by
  intro n
  induction n with
  | zero => intro x0 x1 x3 x4 h q hf; simp [fX11_arePlaces_36] at hf
  | succ n ih =>
    intro x0 x1 x3 x4 h q hf
    rw [fX11_arePlaces_36] at hf
    refine y_iload (i := 4) dX11_arePlaces_36 rfl ?_
    refine y_iload_n (i := 1) dX11_arePlaces_38 rfl rfl ?_
    refine y_icmp_ge (tgt := 82) dX11_arePlaces_39 (by decide) (fun hc => ?_) (fun hc => ?_)
    · rw [if_pos hc] at hf
      refine y_iconst (v := 1) dX11_arePlaces_82 (by decide) ?_
      obtain rfl := Option.some.inj hf
      exact y_ret (v := some (.inl 1)) dX11_arePlaces_83 rfl
    · rw [if_neg hc] at hf
      refine y_iload_n (i := 0) dX11_arePlaces_42 rfl rfl ?_
      refine y_iload_n (i := 1) dX11_arePlaces_43 rfl rfl ?_
      refine y_iload (i := 4) dX11_arePlaces_44 rfl ?_
      replace hf := bnd hf
      obtain ⟨q101, eq101, hf⟩ := hf
      refine y_callS (mj := miX11_digit) (args := [.inl x0, .inl x1, .inl x4]) (st := []) dX11_arePlaces_46 (gd_of 909 rfl rfl) (gd_of 910 rfl rfl) okX11_digit (xX11_digit (by omega) eq101) (Nat.le_of_ble_eq_true rfl) rfl ?_
      show Y l g miX11_arePlaces (d + 1) 49 [some (.inl x0), some (.inl x1), none, some (.inl x3), some (.inl x4), none] [.inl q101.1] q101.2 _
      refine y_istore (i := 5) (lv2 := [some (.inl x0), some (.inl x1), none, some (.inl x3), some (.inl x4), some (.inl q101.1)]) dX11_arePlaces_49 (by decide) rfl ?_
      refine y_iload (i := 5) dX11_arePlaces_51 rfl ?_
      refine y_iload_n (i := 1) dX11_arePlaces_53 rfl rfl ?_
      refine y_icmp_ge (tgt := 67) dX11_arePlaces_54 (by decide) (fun hc => ?_) (fun hc => ?_)
      · rw [if_pos hc] at hf
        refine y_iconst (v := 0) dX11_arePlaces_67 (by decide) ?_
        obtain rfl := Option.some.inj hf
        exact y_ret (v := some (.inl 0)) dX11_arePlaces_68 rfl
      · rw [if_neg hc] at hf
        refine y_iload_n (i := 3) dX11_arePlaces_57 rfl rfl ?_
        refine y_iload (i := 5) dX11_arePlaces_58 rfl ?_
        refine y_ishr dX11_arePlaces_60 ?_
        refine y_iconst (v := 1) dX11_arePlaces_61 (by decide) ?_
        refine y_iand dX11_arePlaces_62 ?_
        refine y_iconst (v := 1) dX11_arePlaces_63 (by decide) ?_
        refine y_icmp_ne (tgt := 69) dX11_arePlaces_64 (by decide) (fun hc => ?_) (fun hc => ?_)
        · rw [if_neg hc] at hf
          refine y_iload_n (i := 3) dX11_arePlaces_69 rfl rfl ?_
          refine y_iconst (v := 1) dX11_arePlaces_70 (by decide) ?_
          refine y_iload (i := 5) dX11_arePlaces_71 rfl ?_
          refine y_ishl dX11_arePlaces_73 ?_
          refine y_ior dX11_arePlaces_74 ?_
          refine y_istore_n (i := 3) (lv2 := [some (.inl x0), some (.inl x1), none, some (.inl (x3 ||| (1 <<< (q101.1 &&& 31)))), some (.inl x4), some (.inl q101.1)]) dX11_arePlaces_75 rfl (by decide) rfl ?_
          refine y_iinc (i := 4) (y := 1) (lv2 := [some (.inl x0), some (.inl x1), none, some (.inl (x3 ||| (1 <<< (q101.1 &&& 31)))), some (.inl (x4 + 1)), some (.inl q101.1)]) dX11_arePlaces_76 rfl (by decide) (by decide) rfl ?_
          refine y_goto (tgt := 36) dX11_arePlaces_79 (by decide) ?_
          refine Y.weak (lv2 := [some (.inl x0), some (.inl x1), none, some (.inl (x3 ||| (1 <<< (q101.1 &&& 31)))), some (.inl (x4 + 1)), none]) [true, true, false, true, true, false] rfl ?_
          exact ih _ _ _ _ _ _ hf
        · rw [if_pos hc] at hf
          refine y_iconst (v := 0) dX11_arePlaces_67 (by decide) ?_
          obtain rfl := Option.some.inj hf
          exact y_ret (v := some (.inl 0)) dX11_arePlaces_68 rfl
def fX11_arePlaces_4 (z : Nat → Nat) : Nat → Int32 → Int32 → Int32 → Int32 → aH → Option (Int32 × aH)
  | 0, _, _, _, _, _ => none
  | n + 1, x0, x1, x2, x3, h => (if x1 ≤ x3 then
  (if x0 < 0 then
  some (0, h)
  else
  (if x0 < x2 then
  fX11_arePlaces_36 z 4000 x0 x1 0 0 h
  else
  some (0, h)))
  else
  fX11_arePlaces_4 z n x0 x1 (x2 * 10) (x3 + 1) h)
set_option maxHeartbeats 4000000 in
set_option maxRecDepth 100000 in
theorem xX11_arePlaces_4 {l : Launch} {g : aG} {d : Nat} (hK : 1 ≤ d + 1) : ∀ (n : Nat) (x0 : Int32) (x1 : Int32) (x2 : Int32) (x3 : Int32) (h : aH) (q : Int32 × aH), fX11_arePlaces_4 g.2.2 n x0 x1 x2 x3 h = some q → Y l g miX11_arePlaces (d + 1) 4 [some (.inl x0), some (.inl x1), some (.inl x2), some (.inl x3), none, none] [] h (some (.inl q.1), q.2) := by
  intro n
  induction n with
  | zero => intro x0 x1 x2 x3 h q hf; simp [fX11_arePlaces_4] at hf
  | succ n ih =>
    intro x0 x1 x2 x3 h q hf
    rw [fX11_arePlaces_4] at hf
    refine y_iload_n (i := 3) dX11_arePlaces_4 rfl rfl ?_
    refine y_iload_n (i := 1) dX11_arePlaces_5 rfl rfl ?_
    refine y_icmp_ge (tgt := 20) dX11_arePlaces_6 (by decide) (fun hc => ?_) (fun hc => ?_)
    · rw [if_pos hc] at hf
      refine y_iload_n (i := 0) dX11_arePlaces_20 rfl rfl ?_
      refine y_if_lt (tgt := 29) dX11_arePlaces_21 (by decide) (fun hc => ?_) (fun hc => ?_)
      · rw [if_pos hc] at hf
        refine y_iconst (v := 0) dX11_arePlaces_29 (by decide) ?_
        obtain rfl := Option.some.inj hf
        exact y_ret (v := some (.inl 0)) dX11_arePlaces_30 rfl
      · rw [if_neg hc] at hf
        refine y_iload_n (i := 0) dX11_arePlaces_24 rfl rfl ?_
        refine y_iload_n (i := 2) dX11_arePlaces_25 rfl rfl ?_
        refine y_icmp_lt (tgt := 31) dX11_arePlaces_26 (by decide) (fun hc => ?_) (fun hc => ?_)
        · rw [if_pos hc] at hf
          refine y_iconst (v := 0) dX11_arePlaces_31 (by decide) ?_
          refine y_istore_n (i := 3) (lv2 := [some (.inl x0), some (.inl x1), some (.inl x2), some (.inl 0), none, none]) dX11_arePlaces_32 rfl (by decide) rfl ?_
          refine y_iconst (v := 0) dX11_arePlaces_33 (by decide) ?_
          refine y_istore (i := 4) (lv2 := [some (.inl x0), some (.inl x1), some (.inl x2), some (.inl 0), some (.inl 0), none]) dX11_arePlaces_34 (by decide) rfl ?_
          refine Y.weak (lv2 := [some (.inl x0), some (.inl x1), none, some (.inl 0), some (.inl 0), none]) [true, true, false, true, true, false] rfl ?_
          exact xX11_arePlaces_36 hK 4000 _ _ _ _ _ _ hf
        · rw [if_neg hc] at hf
          refine y_iconst (v := 0) dX11_arePlaces_29 (by decide) ?_
          obtain rfl := Option.some.inj hf
          exact y_ret (v := some (.inl 0)) dX11_arePlaces_30 rfl
    · rw [if_neg hc] at hf
      refine y_iload_n (i := 2) dX11_arePlaces_9 rfl rfl ?_
      refine y_bipush (v := 10) dX11_arePlaces_10 (by decide) ?_
      refine y_imul dX11_arePlaces_12 ?_
      refine y_istore_n (i := 2) (lv2 := [some (.inl x0), some (.inl x1), some (.inl (x2 * 10)), some (.inl x3), none, none]) dX11_arePlaces_13 rfl (by decide) rfl ?_
      refine y_iinc (i := 3) (y := 1) (lv2 := [some (.inl x0), some (.inl x1), some (.inl (x2 * 10)), some (.inl (x3 + 1)), none, none]) dX11_arePlaces_14 rfl (by decide) (by decide) rfl ?_
      refine y_goto (tgt := 4) dX11_arePlaces_17 (by decide) ?_
      refine Y.weak (lv2 := [some (.inl x0), some (.inl x1), some (.inl (x2 * 10)), some (.inl (x3 + 1)), none, none]) [true, true, true, true, false, false] rfl ?_
      exact ih _ _ _ _ _ _ hf
def fX11_arePlaces_e (z : Nat → Nat) (x0 : Int32) (x1 : Int32) (h : aH) : Option (Int32 × aH) :=
  fX11_arePlaces_4 z 4000 x0 x1 1 0 h
def fX11_arePlaces (z : Nat → Nat) (x0 : Int32) (x1 : Int32) (h : aH) : Option (Int32 × aH) := chkB (fX11_arePlaces_e z x0 x1 h)
set_option maxHeartbeats 4000000 in
set_option maxRecDepth 100000 in
theorem xX11_arePlaces {l : Launch} {g : aG} {d : Nat} (hK : 1 ≤ d) {x0 : Int32} {x1 : Int32} {h : aH} {q : Int32 × aH} (hf : fX11_arePlaces g.2.2 x0 x1 h = some q) : Ev l g miX11_arePlaces d [.inl x0, .inl x1] h (some (.inl q.1), q.2) := by
  obtain ⟨d, rfl⟩ : ∃ e, d = e + 1 := ⟨d - 1, by omega⟩
  replace hf := chkB_spec hf
  obtain ⟨hf, hb⟩ := hf
  refine ⟨?_, Or.inr ⟨rfl, hb⟩, Nat.le_of_ble_eq_true rfl⟩
  unfold fX11_arePlaces_e at hf
  show Y l g miX11_arePlaces (d + 1) 0 [some (.inl x0), some (.inl x1), none, none, none, none] [] h _
  refine y_iconst (v := 1) dX11_arePlaces_0 (by decide) ?_
  refine y_istore_n (i := 2) (lv2 := [some (.inl x0), some (.inl x1), some (.inl 1), none, none, none]) dX11_arePlaces_1 rfl (by decide) rfl ?_
  refine y_iconst (v := 0) dX11_arePlaces_2 (by decide) ?_
  refine y_istore_n (i := 3) (lv2 := [some (.inl x0), some (.inl x1), some (.inl 1), some (.inl 0), none, none]) dX11_arePlaces_3 rfl (by decide) rfl ?_
  refine Y.weak (lv2 := [some (.inl x0), some (.inl x1), some (.inl 1), some (.inl 0), none, none]) [true, true, true, true, false, false] rfl ?_
  exact xX11_arePlaces_4 hK 4000 _ _ _ _ _ _ hf
