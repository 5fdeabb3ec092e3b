set_option maxRecDepth 100000 in
theorem dX11_isOutside_0 : decode prog_13_method_11_code 0 = .ok (.aload_n 0, 1) := by decide +kernel
set_option maxRecDepth 100000 in
theorem dX11_isOutside_1 : decode prog_13_method_11_code 1 = .ok (.getfield 17, 3) := by decide +kernel
set_option maxRecDepth 100000 in
theorem dX11_isOutside_4 : decode prog_13_method_11_code 4 = .ok (.iload_n 2, 1) := by decide +kernel
set_option maxRecDepth 100000 in
theorem dX11_isOutside_5 : decode prog_13_method_11_code 5 = .ok (.iaload, 1) := by decide +kernel
set_option maxRecDepth 100000 in
theorem dX11_isOutside_6 : decode prog_13_method_11_code 6 = .ok (.istore 5, 2) := by decide +kernel
set_option maxRecDepth 100000 in
theorem dX11_isOutside_8 : decode prog_13_method_11_code 8 = .ok (.iload_n 1, 1) := by decide +kernel
set_option maxRecDepth 100000 in
theorem dX11_isOutside_9 : decode prog_13_method_11_code 9 = .ok (.tableswitch 197 0 11 #[63, 83, 114, 197, 63, 197, 197, 129, 197, 197, 161, 179], 63) := by decide +kernel
set_option maxRecDepth 100000 in
theorem dX11_isOutside_72 : decode prog_13_method_11_code 72 = .ok (.iload_n 3, 1) := by decide +kernel
set_option maxRecDepth 100000 in
theorem dX11_isOutside_73 : decode prog_13_method_11_code 73 = .ok (.i2l, 1) := by decide +kernel
set_option maxRecDepth 100000 in
theorem dX11_isOutside_74 : decode prog_13_method_11_code 74 = .ok (.lconst 0, 1) := by decide +kernel
set_option maxRecDepth 100000 in
theorem dX11_isOutside_75 : decode prog_13_method_11_code 75 = .ok (.iload 5, 2) := by decide +kernel
set_option maxRecDepth 100000 in
theorem dX11_isOutside_77 : decode prog_13_method_11_code 77 = .ok (.iconst 1, 1) := by decide +kernel
set_option maxRecDepth 100000 in
theorem dX11_isOutside_78 : decode prog_13_method_11_code 78 = .ok (.isub, 1) := by decide +kernel
set_option maxRecDepth 100000 in
theorem dX11_isOutside_79 : decode prog_13_method_11_code 79 = .ok (.i2l, 1) := by decide +kernel
set_option maxRecDepth 100000 in
theorem dX11_isOutside_80 : decode prog_13_method_11_code 80 = .ok (.invokestatic 111, 3) := by decide +kernel
set_option maxRecDepth 100000 in
theorem dX11_isOutside_83 : decode prog_13_method_11_code 83 = .ok (.ifCond .ne 7, 3) := by decide +kernel
set_option maxRecDepth 100000 in
theorem dX11_isOutside_86 : decode prog_13_method_11_code 86 = .ok (.iconst 1, 1) := by decide +kernel
set_option maxRecDepth 100000 in
theorem dX11_isOutside_87 : decode prog_13_method_11_code 87 = .ok (.goto 4, 3) := by decide +kernel
set_option maxRecDepth 100000 in
theorem dX11_isOutside_90 : decode prog_13_method_11_code 90 = .ok (.iconst 0, 1) := by decide +kernel
set_option maxRecDepth 100000 in
theorem dX11_isOutside_91 : decode prog_13_method_11_code 91 = .ok (.ireturn, 1) := by decide +kernel
set_option maxRecDepth 100000 in
theorem dX11_isOutside_92 : decode prog_13_method_11_code 92 = .ok (.iload_n 3, 1) := by decide +kernel
set_option maxRecDepth 100000 in
theorem dX11_isOutside_93 : decode prog_13_method_11_code 93 = .ok (.i2l, 1) := by decide +kernel
set_option maxRecDepth 100000 in
theorem dX11_isOutside_94 : decode prog_13_method_11_code 94 = .ok (.lconst 0, 1) := by decide +kernel
set_option maxRecDepth 100000 in
theorem dX11_isOutside_95 : decode prog_13_method_11_code 95 = .ok (.iload 5, 2) := by decide +kernel
set_option maxRecDepth 100000 in
theorem dX11_isOutside_97 : decode prog_13_method_11_code 97 = .ok (.i2l, 1) := by decide +kernel
set_option maxRecDepth 100000 in
theorem dX11_isOutside_98 : decode prog_13_method_11_code 98 = .ok (.invokestatic 111, 3) := by decide +kernel
set_option maxRecDepth 100000 in
theorem dX11_isOutside_101 : decode prog_13_method_11_code 101 = .ok (.ifCond .eq 16, 3) := by decide +kernel
set_option maxRecDepth 100000 in
theorem dX11_isOutside_104 : decode prog_13_method_11_code 104 = .ok (.iload 4, 2) := by decide +kernel
set_option maxRecDepth 100000 in
theorem dX11_isOutside_106 : decode prog_13_method_11_code 106 = .ok (.i2l, 1) := by decide +kernel
set_option maxRecDepth 100000 in
theorem dX11_isOutside_107 : decode prog_13_method_11_code 107 = .ok (.lconst 0, 1) := by decide +kernel
set_option maxRecDepth 100000 in
theorem dX11_isOutside_108 : decode prog_13_method_11_code 108 = .ok (.ldc2_w 129, 3) := by decide +kernel
set_option maxRecDepth 100000 in
theorem dX11_isOutside_111 : decode prog_13_method_11_code 111 = .ok (.invokestatic 111, 3) := by decide +kernel
set_option maxRecDepth 100000 in
theorem dX11_isOutside_114 : decode prog_13_method_11_code 114 = .ok (.ifCond .ne 7, 3) := by decide +kernel
set_option maxRecDepth 100000 in
theorem dX11_isOutside_117 : decode prog_13_method_11_code 117 = .ok (.iconst 1, 1) := by decide +kernel
set_option maxRecDepth 100000 in
theorem dX11_isOutside_118 : decode prog_13_method_11_code 118 = .ok (.goto 4, 3) := by decide +kernel
set_option maxRecDepth 100000 in
theorem dX11_isOutside_121 : decode prog_13_method_11_code 121 = .ok (.iconst 0, 1) := by decide +kernel
set_option maxRecDepth 100000 in
theorem dX11_isOutside_122 : decode prog_13_method_11_code 122 = .ok (.ireturn, 1) := by decide +kernel
set_option maxRecDepth 100000 in
theorem dX11_isOutside_123 : decode prog_13_method_11_code 123 = .ok (.iload_n 3, 1) := by decide +kernel
set_option maxRecDepth 100000 in
theorem dX11_isOutside_124 : decode prog_13_method_11_code 124 = .ok (.iload 5, 2) := by decide +kernel
set_option maxRecDepth 100000 in
theorem dX11_isOutside_126 : decode prog_13_method_11_code 126 = .ok (.invokestatic 145, 3) := by decide +kernel
set_option maxRecDepth 100000 in
theorem dX11_isOutside_129 : decode prog_13_method_11_code 129 = .ok (.ifCond .ne 7, 3) := by decide +kernel
set_option maxRecDepth 100000 in
theorem dX11_isOutside_132 : decode prog_13_method_11_code 132 = .ok (.iconst 1, 1) := by decide +kernel
set_option maxRecDepth 100000 in
theorem dX11_isOutside_133 : decode prog_13_method_11_code 133 = .ok (.goto 4, 3) := by decide +kernel
set_option maxRecDepth 100000 in
theorem dX11_isOutside_136 : decode prog_13_method_11_code 136 = .ok (.iconst 0, 1) := by decide +kernel
set_option maxRecDepth 100000 in
theorem dX11_isOutside_137 : decode prog_13_method_11_code 137 = .ok (.ireturn, 1) := by decide +kernel
set_option maxRecDepth 100000 in
theorem dX11_isOutside_138 : decode prog_13_method_11_code 138 = .ok (.iload_n 3, 1) := by decide +kernel
set_option maxRecDepth 100000 in
theorem dX11_isOutside_139 : decode prog_13_method_11_code 139 = .ok (.i2l, 1) := by decide +kernel
set_option maxRecDepth 100000 in
theorem dX11_isOutside_140 : decode prog_13_method_11_code 140 = .ok (.lconst 0, 1) := by decide +kernel
set_option maxRecDepth 100000 in
theorem dX11_isOutside_141 : decode prog_13_method_11_code 141 = .ok (.ldc2_w 149, 3) := by decide +kernel
set_option maxRecDepth 100000 in
theorem dX11_isOutside_144 : decode prog_13_method_11_code 144 = .ok (.invokestatic 111, 3) := by decide +kernel
set_option maxRecDepth 100000 in
theorem dX11_isOutside_147 : decode prog_13_method_11_code 147 = .ok (.ifCond .ne 21, 3) := by decide +kernel
set_option maxRecDepth 100000 in
theorem dX11_isOutside_150 : decode prog_13_method_11_code 150 = .ok (.iload_n 3, 1) := by decide +kernel
set_option maxRecDepth 100000 in
theorem dX11_isOutside_151 : decode prog_13_method_11_code 151 = .ok (.i2l, 1) := by decide +kernel
set_option maxRecDepth 100000 in
theorem dX11_isOutside_152 : decode prog_13_method_11_code 152 = .ok (.ldc2_w 151, 3) := by decide +kernel
set_option maxRecDepth 100000 in
theorem dX11_isOutside_155 : decode prog_13_method_11_code 155 = .ok (.ldc2_w 153, 3) := by decide +kernel
set_option maxRecDepth 100000 in
theorem dX11_isOutside_158 : decode prog_13_method_11_code 158 = .ok (.invokestatic 111, 3) := by decide +kernel
set_option maxRecDepth 100000 in
theorem dX11_isOutside_161 : decode prog_13_method_11_code 161 = .ok (.ifCond .ne 7, 3) := by decide +kernel
set_option maxRecDepth 100000 in
theorem dX11_isOutside_164 : decode prog_13_method_11_code 164 = .ok (.iconst 1, 1) := by decide +kernel
set_option maxRecDepth 100000 in
theorem dX11_isOutside_165 : decode prog_13_method_11_code 165 = .ok (.goto 4, 3) := by decide +kernel
set_option maxRecDepth 100000 in
theorem dX11_isOutside_168 : decode prog_13_method_11_code 168 = .ok (.iconst 0, 1) := by decide +kernel
set_option maxRecDepth 100000 in
theorem dX11_isOutside_169 : decode prog_13_method_11_code 169 = .ok (.ireturn, 1) := by decide +kernel
set_option maxRecDepth 100000 in
theorem dX11_isOutside_170 : decode prog_13_method_11_code 170 = .ok (.iload_n 3, 1) := by decide +kernel
set_option maxRecDepth 100000 in
theorem dX11_isOutside_171 : decode prog_13_method_11_code 171 = .ok (.i2l, 1) := by decide +kernel
set_option maxRecDepth 100000 in
theorem dX11_isOutside_172 : decode prog_13_method_11_code 172 = .ok (.lconst 1, 1) := by decide +kernel
set_option maxRecDepth 100000 in
theorem dX11_isOutside_173 : decode prog_13_method_11_code 173 = .ok (.ldc2_w 149, 3) := by decide +kernel
set_option maxRecDepth 100000 in
theorem dX11_isOutside_176 : decode prog_13_method_11_code 176 = .ok (.invokestatic 111, 3) := by decide +kernel
set_option maxRecDepth 100000 in
theorem dX11_isOutside_179 : decode prog_13_method_11_code 179 = .ok (.ifCond .ne 7, 3) := by decide +kernel
set_option maxRecDepth 100000 in
theorem dX11_isOutside_182 : decode prog_13_method_11_code 182 = .ok (.iconst 1, 1) := by decide +kernel
set_option maxRecDepth 100000 in
theorem dX11_isOutside_183 : decode prog_13_method_11_code 183 = .ok (.goto 4, 3) := by decide +kernel
set_option maxRecDepth 100000 in
theorem dX11_isOutside_186 : decode prog_13_method_11_code 186 = .ok (.iconst 0, 1) := by decide +kernel
set_option maxRecDepth 100000 in
theorem dX11_isOutside_187 : decode prog_13_method_11_code 187 = .ok (.ireturn, 1) := by decide +kernel
set_option maxRecDepth 100000 in
theorem dX11_isOutside_188 : decode prog_13_method_11_code 188 = .ok (.iload_n 3, 1) := by decide +kernel
set_option maxRecDepth 100000 in
theorem dX11_isOutside_189 : decode prog_13_method_11_code 189 = .ok (.i2l, 1) := by decide +kernel
set_option maxRecDepth 100000 in
theorem dX11_isOutside_190 : decode prog_13_method_11_code 190 = .ok (.lconst 0, 1) := by decide +kernel
set_option maxRecDepth 100000 in
theorem dX11_isOutside_191 : decode prog_13_method_11_code 191 = .ok (.ldc2_w 155, 3) := by decide +kernel
set_option maxRecDepth 100000 in
theorem dX11_isOutside_194 : decode prog_13_method_11_code 194 = .ok (.invokestatic 111, 3) := by decide +kernel
set_option maxRecDepth 100000 in
theorem dX11_isOutside_197 : decode prog_13_method_11_code 197 = .ok (.ifCond .ne 7, 3) := by decide +kernel
set_option maxRecDepth 100000 in
theorem dX11_isOutside_200 : decode prog_13_method_11_code 200 = .ok (.iconst 1, 1) := by decide +kernel
set_option maxRecDepth 100000 in
theorem dX11_isOutside_201 : decode prog_13_method_11_code 201 = .ok (.goto 4, 3) := by decide +kernel
set_option maxRecDepth 100000 in
theorem dX11_isOutside_204 : decode prog_13_method_11_code 204 = .ok (.iconst 0, 1) := by decide +kernel
set_option maxRecDepth 100000 in
theorem dX11_isOutside_205 : decode prog_13_method_11_code 205 = .ok (.ireturn, 1) := by decide +kernel
set_option maxRecDepth 100000 in
theorem dX11_isOutside_206 : decode prog_13_method_11_code 206 = .ok (.iload_n 1, 1) := by decide +kernel
set_option maxRecDepth 100000 in
theorem dX11_isOutside_207 : decode prog_13_method_11_code 207 = .ok (.i2l, 1) := by decide +kernel
set_option maxRecDepth 100000 in
theorem dX11_isOutside_208 : decode prog_13_method_11_code 208 = .ok (.lconst 0, 1) := by decide +kernel
set_option maxRecDepth 100000 in
theorem dX11_isOutside_209 : decode prog_13_method_11_code 209 = .ok (.ldc2_w 157, 3) := by decide +kernel
set_option maxRecDepth 100000 in
theorem dX11_isOutside_212 : decode prog_13_method_11_code 212 = .ok (.invokestatic 111, 3) := by decide +kernel
set_option maxRecDepth 100000 in
theorem dX11_isOutside_215 : decode prog_13_method_11_code 215 = .ok (.ifCond .ne 7, 3) := by decide +kernel
set_option maxRecDepth 100000 in
theorem dX11_isOutside_218 : decode prog_13_method_11_code 218 = .ok (.iconst 1, 1) := by decide +kernel
set_option maxRecDepth 100000 in
theorem dX11_isOutside_219 : decode prog_13_method_11_code 219 = .ok (.goto 4, 3) := by decide +kernel
set_option maxRecDepth 100000 in
theorem dX11_isOutside_222 : decode prog_13_method_11_code 222 = .ok (.iconst 0, 1) := by decide +kernel
set_option maxRecDepth 100000 in
theorem dX11_isOutside_223 : decode prog_13_method_11_code 223 = .ok (.ireturn, 1) := by decide +kernel
set_option maxRecDepth 100000 in
theorem okX11_arePlaces : mOk miX11_arePlaces 2 := ⟨(gd_of 908 rfl rfl), (gd_of 76 rfl rfl), by decide +kernel, ⟨by decide +kernel, by decide +kernel, by decide +kernel⟩, by decide⟩
def fX11_isOutside_72 (z : Nat → Nat) (x3 : Int32) (x5 : Int32) (h : aH) : Option (Int32 × aH) :=
  (fX11_in z (Int32.toInt64 x3) 0 (Int32.toInt64 (x5 - 1)) h).bind fun q101 =>
  (if q101.1 = 0 then
  some (1, q101.2)
  else
  some (0, q101.2))
set_option maxHeartbeats 4000000 in
set_option maxRecDepth 100000 in
theorem xX11_isOutside_72 {l : Launch} {g : aG} {d : Nat} (hK : 2 ≤ d + 1) {x3 : Int32} {x5 : Int32} {h : aH} {q : Int32 × aH} (hf : fX11_isOutside_72 g.2.2 x3 x5 h = some q) : Y l g miX11_isOutside (d + 1) 72 [none, none, none, some (.inl x3), none, some (.inl x5)] [] h (some (.inl q.1), q.2) := by
  unfold fX11_isOutside_72 at hf
  refine y_iload_n (i := 3) dX11_isOutside_72 rfl rfl ?_
  refine y_i2l dX11_isOutside_73 ?_
  refine y_lconst (v := 0) dX11_isOutside_74 (by decide) ?_
  refine y_iload (i := 5) dX11_isOutside_75 rfl ?_
  refine y_iconst (v := 1) dX11_isOutside_77 (by decide) ?_
  refine y_isub dX11_isOutside_78 ?_
  refine y_i2l dX11_isOutside_79 ?_
  replace hf := bnd hf
  obtain ⟨q101, eq101, hf⟩ := hf
  refine y_callS (mj := miX11_in) (args := [.inr (.inl (Int32.toInt64 x3)), .inr (.inl 0), .inr (.inl (Int32.toInt64 (x5 - 1)))]) (st := []) dX11_isOutside_80 (gd_of 878 rfl rfl) (gd_of 879 rfl rfl) okX11_in (xX11_in (by omega) eq101) (Nat.le_of_ble_eq_true rfl) rfl ?_
  show Y l g miX11_isOutside (d + 1) 83 [none, none, none, some (.inl x3), none, some (.inl x5)] [.inl q101.1] q101.2 _
  refine y_if_ne (tgt := 90) dX11_isOutside_83 (by decide) (fun hc => ?_) (fun hc => ?_)
  · rw [if_neg hc] at hf
    refine y_iconst (v := 0) dX11_isOutside_90 (by decide) ?_
    obtain rfl := Option.some.inj hf
    exact y_ret (v := some (.inl 0)) dX11_isOutside_91 rfl
  · rw [if_pos hc] at hf
    refine y_iconst (v := 1) dX11_isOutside_86 (by decide) ?_
    refine y_goto (tgt := 91) dX11_isOutside_87 (by decide) ?_
    obtain rfl := Option.some.inj hf
    exact y_ret (v := some (.inl 1)) dX11_isOutside_91 rfl
def fX11_isOutside_206 (z : Nat → Nat) (x1 : Int32) (h : aH) : Option (Int32 × aH) :=
  (fX11_in z (Int32.toInt64 x1) 0 12 h).bind fun q101 =>
  (if q101.1 = 0 then
  some (1, q101.2)
  else
  some (0, q101.2))
set_option maxHeartbeats 4000000 in
set_option maxRecDepth 100000 in
theorem xX11_isOutside_206 {l : Launch} {g : aG} {d : Nat} (hK : 2 ≤ d + 1) {x1 : Int32} {h : aH} {q : Int32 × aH} (hf : fX11_isOutside_206 g.2.2 x1 h = some q) : Y l g miX11_isOutside (d + 1) 206 [none, some (.inl x1), none, none, none, none] [] h (some (.inl q.1), q.2) := by
  unfold fX11_isOutside_206 at hf
  refine y_iload_n (i := 1) dX11_isOutside_206 rfl rfl ?_
  refine y_i2l dX11_isOutside_207 ?_
  refine y_lconst (v := 0) dX11_isOutside_208 (by decide) ?_
  refine y_ldc2 (v := 12) dX11_isOutside_209 (gd_of 916 rfl rfl) ?_
  replace hf := bnd hf
  obtain ⟨q101, eq101, hf⟩ := hf
  refine y_callS (mj := miX11_in) (args := [.inr (.inl (Int32.toInt64 x1)), .inr (.inl 0), .inr (.inl 12)]) (st := []) dX11_isOutside_212 (gd_of 878 rfl rfl) (gd_of 879 rfl rfl) okX11_in (xX11_in (by omega) eq101) (Nat.le_of_ble_eq_true rfl) rfl ?_
  show Y l g miX11_isOutside (d + 1) 215 [none, some (.inl x1), none, none, none, none] [.inl q101.1] q101.2 _
  refine y_if_ne (tgt := 222) dX11_isOutside_215 (by decide) (fun hc => ?_) (fun hc => ?_)
  · rw [if_neg hc] at hf
    refine y_iconst (v := 0) dX11_isOutside_222 (by decide) ?_
    obtain rfl := Option.some.inj hf
    exact y_ret (v := some (.inl 0)) dX11_isOutside_223 rfl
  · rw [if_pos hc] at hf
    refine y_iconst (v := 1) dX11_isOutside_218 (by decide) ?_
    refine y_goto (tgt := 223) dX11_isOutside_219 (by decide) ?_
    obtain rfl := Option.some.inj hf
    exact y_ret (v := some (.inl 1)) dX11_isOutside_223 rfl
def fX11_isOutside_e (z : Nat → Nat) (a0 : Nat) (x1 : Int32) (x2 : Int32) (x3 : Int32) (x4 : Int32) (h : aH) : Option (Int32 × aH) :=
  (rdR h a0 [9] 3).bind fun r101 =>
  (r101).bind fun a102 =>
  (arI h a102 x2).bind fun x103 =>
  (if x1 = 0 then
  fX11_isOutside_72 z x3 x103 h
  else
  (if x1 = 1 then
  (fX11_in z (Int32.toInt64 x3) 0 (Int32.toInt64 x103) h).bind fun q104 =>
  (if q104.1 = 0 then
  some (1, q104.2)
  else
  (fX11_in z (Int32.toInt64 x4) 0 3 q104.2).bind fun q105 =>
  (if q105.1 = 0 then
  some (1, q105.2)
  else
  some (0, q105.2)))
  else
  (if x1 = 2 then
  (fX11_arePlaces z x3 x103 h).bind fun q106 =>
  (if q106.1 = 0 then
  some (1, q106.2)
  else
  some (0, q106.2))
  else
  (if x1 = 3 then
  fX11_isOutside_206 z x1 h
  else
  (if x1 = 4 then
  fX11_isOutside_72 z x3 x103 h
  else
  (if x1 = 5 then
  fX11_isOutside_206 z x1 h
  else
  (if x1 = 6 then
  fX11_isOutside_206 z x1 h
  else
  (if x1 = 7 then
  (fX11_in z (Int32.toInt64 x3) 0 6 h).bind fun q107 =>
  (if q107.1 = 0 then
  (fX11_in z (Int32.toInt64 x3) 100 199 q107.2).bind fun q108 =>
  (if q108.1 = 0 then
  some (1, q108.2)
  else
  some (0, q108.2))
  else
  some (0, q107.2))
  else
  (if x1 = 8 then
  fX11_isOutside_206 z x1 h
  else
  (if x1 = 9 then
  fX11_isOutside_206 z x1 h
  else
  (if x1 = 10 then
  (fX11_in z (Int32.toInt64 x3) 1 6 h).bind fun q109 =>
  (if q109.1 = 0 then
  some (1, q109.2)
  else
  some (0, q109.2))
  else
  (if x1 = 11 then
  (fX11_in z (Int32.toInt64 x3) 0 5 h).bind fun q110 =>
  (if q110.1 = 0 then
  some (1, q110.2)
  else
  some (0, q110.2))
  else
  fX11_isOutside_206 z x1 h))))))))))))
def fX11_isOutside (z : Nat → Nat) (a0 : Nat) (x1 : Int32) (x2 : Int32) (x3 : Int32) (x4 : Int32) (h : aH) : Option (Int32 × aH) := chkB (fX11_isOutside_e z a0 x1 x2 x3 x4 h)
set_option maxHeartbeats 4000000 in
set_option maxRecDepth 100000 in
theorem xX11_isOutside {l : Launch} {g : aG} {d : Nat} (hK : 2 ≤ d) {a0 : Nat} {x1 : Int32} {x2 : Int32} {x3 : Int32} {x4 : Int32} {h : aH} {q : Int32 × aH} (hf : fX11_isOutside g.2.2 a0 x1 x2 x3 x4 h = some q) : Ev l g miX11_isOutside d [.inr (.inr (some a0)), .inl x1, .inl x2, .inl x3, .inl x4] h (some (.inl q.1), q.2) := by
  obtain ⟨d, rfl⟩ : ∃ e, d = e + 1 := ⟨d - 1, by omega⟩
  replace hf := chkB_spec hf
  obtain ⟨hf, hb⟩ := hf
  refine ⟨?_, Or.inr ⟨rfl, hb⟩, Nat.le_of_ble_eq_true rfl⟩
  unfold fX11_isOutside_e at hf
  show Y l g miX11_isOutside (d + 1) 0 [some (.inr (.inr (some a0))), some (.inl x1), some (.inl x2), some (.inl x3), some (.inl x4), none] [] h _
  refine y_aload_n (i := 0) dX11_isOutside_0 rfl rfl ?_
  replace hf := bnd hf
  obtain ⟨r101, er101, hf⟩ := hf
  refine y_getR er101 fl11_17 dX11_isOutside_1 ?_
  refine y_iload_n (i := 2) dX11_isOutside_4 rfl rfl ?_
  replace hf := bnd hf
  obtain ⟨a102, rfl, hf⟩ := hf
  replace hf := bnd hf
  obtain ⟨x103, ex103, hf⟩ := hf
  refine y_iaload ex103 dX11_isOutside_5 ?_
  refine y_istore (i := 5) (lv2 := [some (.inr (.inr (some a0))), some (.inl x1), some (.inl x2), some (.inl x3), some (.inl x4), some (.inl x103)]) dX11_isOutside_6 (by decide) rfl ?_
  refine y_iload_n (i := 1) dX11_isOutside_8 rfl rfl ?_
  refine y_table dX11_isOutside_9 [(0, 72), (1, 92), (2, 123), (3, 206), (4, 72), (5, 206), (6, 206), (7, 138), (8, 206), (9, 206), (10, 170), (11, 188)] 206 (by decide) (by decide) (by decide) (by decide) ?_
  refine y_swc (fun hc => ?_) (fun hc => ?_)
  · rw [if_pos hc] at hf
    refine Y.weak (lv2 := [none, none, none, some (.inl x3), none, some (.inl x103)]) [false, false, false, true, false, true] rfl ?_
    exact xX11_isOutside_72 hK hf
  rw [if_neg hc] at hf
  refine y_swc (fun hc => ?_) (fun hc => ?_)
  · rw [if_pos hc] at hf
    refine y_iload_n (i := 3) dX11_isOutside_92 rfl rfl ?_
    refine y_i2l dX11_isOutside_93 ?_
    refine y_lconst (v := 0) dX11_isOutside_94 (by decide) ?_
    refine y_iload (i := 5) dX11_isOutside_95 rfl ?_
    refine y_i2l dX11_isOutside_97 ?_
    replace hf := bnd hf
    obtain ⟨q104, eq104, hf⟩ := hf
    refine y_callS (mj := miX11_in) (args := [.inr (.inl (Int32.toInt64 x3)), .inr (.inl 0), .inr (.inl (Int32.toInt64 x103))]) (st := []) dX11_isOutside_98 (gd_of 878 rfl rfl) (gd_of 879 rfl rfl) okX11_in (xX11_in (by omega) eq104) (Nat.le_of_ble_eq_true rfl) rfl ?_
    show Y l g miX11_isOutside (d + 1) 101 [some (.inr (.inr (some a0))), some (.inl x1), some (.inl x2), some (.inl x3), some (.inl x4), some (.inl x103)] [.inl q104.1] q104.2 _
    refine y_if_eq (tgt := 117) dX11_isOutside_101 (by decide) (fun hc => ?_) (fun hc => ?_)
    · rw [if_pos hc] at hf
      refine y_iconst (v := 1) dX11_isOutside_117 (by decide) ?_
      refine y_goto (tgt := 122) dX11_isOutside_118 (by decide) ?_
      obtain rfl := Option.some.inj hf
      exact y_ret (v := some (.inl 1)) dX11_isOutside_122 rfl
    · rw [if_neg hc] at hf
      refine y_iload (i := 4) dX11_isOutside_104 rfl ?_
      refine y_i2l dX11_isOutside_106 ?_
      refine y_lconst (v := 0) dX11_isOutside_107 (by decide) ?_
      refine y_ldc2 (v := 3) dX11_isOutside_108 (gd_of 883 rfl rfl) ?_
      replace hf := bnd hf
      obtain ⟨q105, eq105, hf⟩ := hf
      refine y_callS (mj := miX11_in) (args := [.inr (.inl (Int32.toInt64 x4)), .inr (.inl 0), .inr (.inl 3)]) (st := []) dX11_isOutside_111 (gd_of 878 rfl rfl) (gd_of 879 rfl rfl) okX11_in (xX11_in (by omega) eq105) (Nat.le_of_ble_eq_true rfl) rfl ?_
      show Y l g miX11_isOutside (d + 1) 114 [some (.inr (.inr (some a0))), some (.inl x1), some (.inl x2), some (.inl x3), some (.inl x4), some (.inl x103)] [.inl q105.1] q105.2 _
      refine y_if_ne (tgt := 121) dX11_isOutside_114 (by decide) (fun hc => ?_) (fun hc => ?_)
      · rw [if_neg hc] at hf
        refine y_iconst (v := 0) dX11_isOutside_121 (by decide) ?_
        obtain rfl := Option.some.inj hf
        exact y_ret (v := some (.inl 0)) dX11_isOutside_122 rfl
      · rw [if_pos hc] at hf
        refine y_iconst (v := 1) dX11_isOutside_117 (by decide) ?_
        refine y_goto (tgt := 122) dX11_isOutside_118 (by decide) ?_
        obtain rfl := Option.some.inj hf
        exact y_ret (v := some (.inl 1)) dX11_isOutside_122 rfl
  rw [if_neg hc] at hf
  refine y_swc (fun hc => ?_) (fun hc => ?_)
  · rw [if_pos hc] at hf
    refine y_iload_n (i := 3) dX11_isOutside_123 rfl rfl ?_
    refine y_iload (i := 5) dX11_isOutside_124 rfl ?_
    replace hf := bnd hf
    obtain ⟨q106, eq106, hf⟩ := hf
    refine y_callS (mj := miX11_arePlaces) (args := [.inl x3, .inl x103]) (st := []) dX11_isOutside_126 (gd_of 906 rfl rfl) (gd_of 907 rfl rfl) okX11_arePlaces (xX11_arePlaces (by omega) eq106) (Nat.le_of_ble_eq_true rfl) rfl ?_
    show Y l g miX11_isOutside (d + 1) 129 [some (.inr (.inr (some a0))), some (.inl x1), some (.inl x2), some (.inl x3), some (.inl x4), some (.inl x103)] [.inl q106.1] q106.2 _
    refine y_if_ne (tgt := 136) dX11_isOutside_129 (by decide) (fun hc => ?_) (fun hc => ?_)
    · rw [if_neg hc] at hf
      refine y_iconst (v := 0) dX11_isOutside_136 (by decide) ?_
      obtain rfl := Option.some.inj hf
      exact y_ret (v := some (.inl 0)) dX11_isOutside_137 rfl
    · rw [if_pos hc] at hf
      refine y_iconst (v := 1) dX11_isOutside_132 (by decide) ?_
      refine y_goto (tgt := 137) dX11_isOutside_133 (by decide) ?_
      obtain rfl := Option.some.inj hf
      exact y_ret (v := some (.inl 1)) dX11_isOutside_137 rfl
  rw [if_neg hc] at hf
  refine y_swc (fun hc => ?_) (fun hc => ?_)
  · rw [if_pos hc] at hf
    refine Y.weak (lv2 := [none, some (.inl x1), none, none, none, none]) [false, true, false, false, false, false] rfl ?_
    exact xX11_isOutside_206 hK hf
  rw [if_neg hc] at hf
  refine y_swc (fun hc => ?_) (fun hc => ?_)
  · rw [if_pos hc] at hf
    refine Y.weak (lv2 := [none, none, none, some (.inl x3), none, some (.inl x103)]) [false, false, false, true, false, true] rfl ?_
    exact xX11_isOutside_72 hK hf
  rw [if_neg hc] at hf
  refine y_swc (fun hc => ?_) (fun hc => ?_)
  · rw [if_pos hc] at hf
    refine Y.weak (lv2 := [none, some (.inl x1), none, none, none, none]) [false, true, false, false, false, false] rfl ?_
    exact xX11_isOutside_206 hK hf
  rw [if_neg hc] at hf
  refine y_swc (fun hc => ?_) (fun hc => ?_)
  · rw [if_pos hc] at hf
    refine Y.weak (lv2 := [none, some (.inl x1), none, none, none, none]) [false, true, false, false, false, false] rfl ?_
    exact xX11_isOutside_206 hK hf
  rw [if_neg hc] at hf
  refine y_swc (fun hc => ?_) (fun hc => ?_)
  · rw [if_pos hc] at hf
    refine y_iload_n (i := 3) dX11_isOutside_138 rfl rfl ?_
    refine y_i2l dX11_isOutside_139 ?_
    refine y_lconst (v := 0) dX11_isOutside_140 (by decide) ?_
    refine y_ldc2 (v := 6) dX11_isOutside_141 (gd_of 912 rfl rfl) ?_
    replace hf := bnd hf
    obtain ⟨q107, eq107, hf⟩ := hf
    refine y_callS (mj := miX11_in) (args := [.inr (.inl (Int32.toInt64 x3)), .inr (.inl 0), .inr (.inl 6)]) (st := []) dX11_isOutside_144 (gd_of 878 rfl rfl) (gd_of 879 rfl rfl) okX11_in (xX11_in (by omega) eq107) (Nat.le_of_ble_eq_true rfl) rfl ?_
    show Y l g miX11_isOutside (d + 1) 147 [some (.inr (.inr (some a0))), some (.inl x1), some (.inl x2), some (.inl x3), some (.inl x4), some (.inl x103)] [.inl q107.1] q107.2 _
    refine y_if_ne (tgt := 168) dX11_isOutside_147 (by decide) (fun hc => ?_) (fun hc => ?_)
    · rw [if_neg hc] at hf
      refine y_iconst (v := 0) dX11_isOutside_168 (by decide) ?_
      obtain rfl := Option.some.inj hf
      exact y_ret (v := some (.inl 0)) dX11_isOutside_169 rfl
    · rw [if_pos hc] at hf
      refine y_iload_n (i := 3) dX11_isOutside_150 rfl rfl ?_
      refine y_i2l dX11_isOutside_151 ?_
      refine y_ldc2 (v := 100) dX11_isOutside_152 (gd_of 913 rfl rfl) ?_
      refine y_ldc2 (v := 199) dX11_isOutside_155 (gd_of 914 rfl rfl) ?_
      replace hf := bnd hf
      obtain ⟨q108, eq108, hf⟩ := hf
      refine y_callS (mj := miX11_in) (args := [.inr (.inl (Int32.toInt64 x3)), .inr (.inl 100), .inr (.inl 199)]) (st := []) dX11_isOutside_158 (gd_of 878 rfl rfl) (gd_of 879 rfl rfl) okX11_in (xX11_in (by omega) eq108) (Nat.le_of_ble_eq_true rfl) rfl ?_
      show Y l g miX11_isOutside (d + 1) 161 [some (.inr (.inr (some a0))), some (.inl x1), some (.inl x2), some (.inl x3), some (.inl x4), some (.inl x103)] [.inl q108.1] q108.2 _
      refine y_if_ne (tgt := 168) dX11_isOutside_161 (by decide) (fun hc => ?_) (fun hc => ?_)
      · rw [if_neg hc] at hf
        refine y_iconst (v := 0) dX11_isOutside_168 (by decide) ?_
        obtain rfl := Option.some.inj hf
        exact y_ret (v := some (.inl 0)) dX11_isOutside_169 rfl
      · rw [if_pos hc] at hf
        refine y_iconst (v := 1) dX11_isOutside_164 (by decide) ?_
        refine y_goto (tgt := 169) dX11_isOutside_165 (by decide) ?_
        obtain rfl := Option.some.inj hf
        exact y_ret (v := some (.inl 1)) dX11_isOutside_169 rfl
  rw [if_neg hc] at hf
  refine y_swc (fun hc => ?_) (fun hc => ?_)
  · rw [if_pos hc] at hf
    refine Y.weak (lv2 := [none, some (.inl x1), none, none, none, none]) [false, true, false, false, false, false] rfl ?_
    exact xX11_isOutside_206 hK hf
  rw [if_neg hc] at hf
  refine y_swc (fun hc => ?_) (fun hc => ?_)
  · rw [if_pos hc] at hf
    refine Y.weak (lv2 := [none, some (.inl x1), none, none, none, none]) [false, true, false, false, false, false] rfl ?_
    exact xX11_isOutside_206 hK hf
  rw [if_neg hc] at hf
  refine y_swc (fun hc => ?_) (fun hc => ?_)
  · rw [if_pos hc] at hf
    refine y_iload_n (i := 3) dX11_isOutside_170 rfl rfl ?_
    refine y_i2l dX11_isOutside_171 ?_
    refine y_lconst (v := 1) dX11_isOutside_172 (by decide) ?_
    refine y_ldc2 (v := 6) dX11_isOutside_173 (gd_of 912 rfl rfl) ?_
    replace hf := bnd hf
    obtain ⟨q109, eq109, hf⟩ := hf
    refine y_callS (mj := miX11_in) (args := [.inr (.inl (Int32.toInt64 x3)), .inr (.inl 1), .inr (.inl 6)]) (st := []) dX11_isOutside_176 (gd_of 878 rfl rfl) (gd_of 879 rfl rfl) okX11_in (xX11_in (by omega) eq109) (Nat.le_of_ble_eq_true rfl) rfl ?_
    show Y l g miX11_isOutside (d + 1) 179 [some (.inr (.inr (some a0))), some (.inl x1), some (.inl x2), some (.inl x3), some (.inl x4), some (.inl x103)] [.inl q109.1] q109.2 _
    refine y_if_ne (tgt := 186) dX11_isOutside_179 (by decide) (fun hc => ?_) (fun hc => ?_)
    · rw [if_neg hc] at hf
      refine y_iconst (v := 0) dX11_isOutside_186 (by decide) ?_
      obtain rfl := Option.some.inj hf
      exact y_ret (v := some (.inl 0)) dX11_isOutside_187 rfl
    · rw [if_pos hc] at hf
      refine y_iconst (v := 1) dX11_isOutside_182 (by decide) ?_
      refine y_goto (tgt := 187) dX11_isOutside_183 (by decide) ?_
      obtain rfl := Option.some.inj hf
      exact y_ret (v := some (.inl 1)) dX11_isOutside_187 rfl
  rw [if_neg hc] at hf
  refine y_swc (fun hc => ?_) (fun hc => ?_)
  · rw [if_pos hc] at hf
    refine y_iload_n (i := 3) dX11_isOutside_188 rfl rfl ?_
    refine y_i2l dX11_isOutside_189 ?_
    refine y_lconst (v := 0) dX11_isOutside_190 (by decide) ?_
    refine y_ldc2 (v := 5) dX11_isOutside_191 (gd_of 915 rfl rfl) ?_
    replace hf := bnd hf
    obtain ⟨q110, eq110, hf⟩ := hf
    refine y_callS (mj := miX11_in) (args := [.inr (.inl (Int32.toInt64 x3)), .inr (.inl 0), .inr (.inl 5)]) (st := []) dX11_isOutside_194 (gd_of 878 rfl rfl) (gd_of 879 rfl rfl) okX11_in (xX11_in (by omega) eq110) (Nat.le_of_ble_eq_true rfl) rfl ?_
    show Y l g miX11_isOutside (d + 1) 197 [some (.inr (.inr (some a0))), some (.inl x1), some (.inl x2), some (.inl x3), some (.inl x4), some (.inl x103)] [.inl q110.1] q110.2 _
    refine y_if_ne (tgt := 204) dX11_isOutside_197 (by decide) (fun hc => ?_) (fun hc => ?_)
    · rw [if_neg hc] at hf
      refine y_iconst (v := 0) dX11_isOutside_204 (by decide) ?_
      obtain rfl := Option.some.inj hf
      exact y_ret (v := some (.inl 0)) dX11_isOutside_205 rfl
    · rw [if_pos hc] at hf
      refine y_iconst (v := 1) dX11_isOutside_200 (by decide) ?_
      refine y_goto (tgt := 205) dX11_isOutside_201 (by decide) ?_
      obtain rfl := Option.some.inj hf
      exact y_ret (v := some (.inl 1)) dX11_isOutside_205 rfl
  rw [if_neg hc] at hf
  refine y_swn ?_
  refine Y.weak (lv2 := [none, some (.inl x1), none, none, none, none]) [false, true, false, false, false, false] rfl ?_
  exact xX11_isOutside_206 hK hf
set_option maxRecDepth 100000 in
theorem dX11_newHandle_0 : decode prog_13_method_6_code 0 = .ok (.aload_n 0, 1) := by decide +kernel
set_option maxRecDepth 100000 in
theorem dX11_newHandle_1 : decode prog_13_method_6_code 1 = .ok (.getfield 108, 3) := by decide +kernel
set_option maxRecDepth 100000 in
theorem dX11_newHandle_4 : decode prog_13_method_6_code 4 = .ok (.istore 8, 2) := by decide +kernel
set_option maxRecDepth 100000 in
theorem dX11_newHandle_6 : decode prog_13_method_6_code 6 = .ok (.aload_n 0, 1) := by decide +kernel
set_option maxRecDepth 100000 in
theorem dX11_newHandle_7 : decode prog_13_method_6_code 7 = .ok (.dup, 1) := by decide +kernel
set_option maxRecDepth 100000 in
theorem dX11_newHandle_8 : decode prog_13_method_6_code 8 = .ok (.getfield 108, 3) := by decide +kernel
set_option maxRecDepth 100000 in
theorem dX11_newHandle_11 : decode prog_13_method_6_code 11 = .ok (.iconst 1, 1) := by decide +kernel
set_option maxRecDepth 100000 in
theorem dX11_newHandle_12 : decode prog_13_method_6_code 12 = .ok (.iadd, 1) := by decide +kernel
set_option maxRecDepth 100000 in
theorem dX11_newHandle_13 : decode prog_13_method_6_code 13 = .ok (.putfield 108, 3) := by decide +kernel
set_option maxRecDepth 100000 in
theorem dX11_newHandle_16 : decode prog_13_method_6_code 16 = .ok (.aload_n 0, 1) := by decide +kernel
set_option maxRecDepth 100000 in
theorem dX11_newHandle_17 : decode prog_13_method_6_code 17 = .ok (.getfield 13, 3) := by decide +kernel
set_option maxRecDepth 100000 in
theorem dX11_newHandle_20 : decode prog_13_method_6_code 20 = .ok (.iload 8, 2) := by decide +kernel
set_option maxRecDepth 100000 in
theorem dX11_newHandle_22 : decode prog_13_method_6_code 22 = .ok (.iload_n 1, 1) := by decide +kernel
set_option maxRecDepth 100000 in
theorem dX11_newHandle_23 : decode prog_13_method_6_code 23 = .ok (.iastore, 1) := by decide +kernel
set_option maxRecDepth 100000 in
theorem dX11_newHandle_24 : decode prog_13_method_6_code 24 = .ok (.aload_n 0, 1) := by decide +kernel
set_option maxRecDepth 100000 in
theorem dX11_newHandle_25 : decode prog_13_method_6_code 25 = .ok (.getfield 17, 3) := by decide +kernel
set_option maxRecDepth 100000 in
theorem dX11_newHandle_28 : decode prog_13_method_6_code 28 = .ok (.iload 8, 2) := by decide +kernel
set_option maxRecDepth 100000 in
theorem dX11_newHandle_30 : decode prog_13_method_6_code 30 = .ok (.aload_n 0, 1) := by decide +kernel
set_option maxRecDepth 100000 in
theorem dX11_newHandle_31 : decode prog_13_method_6_code 31 = .ok (.getfield 118, 3) := by decide +kernel
set_option maxRecDepth 100000 in
theorem dX11_newHandle_34 : decode prog_13_method_6_code 34 = .ok (.iastore, 1) := by decide +kernel
set_option maxRecDepth 100000 in
theorem dX11_newHandle_35 : decode prog_13_method_6_code 35 = .ok (.iconst 0, 1) := by decide +kernel
set_option maxRecDepth 100000 in
theorem dX11_newHandle_36 : decode prog_13_method_6_code 36 = .ok (.istore 9, 2) := by decide +kernel
set_option maxRecDepth 100000 in
theorem dX11_newHandle_38 : decode prog_13_method_6_code 38 = .ok (.iload 9, 2) := by decide +kernel
set_option maxRecDepth 100000 in
theorem dX11_newHandle_40 : decode prog_13_method_6_code 40 = .ok (.aload_n 0, 1) := by decide +kernel
set_option maxRecDepth 100000 in
theorem dX11_newHandle_41 : decode prog_13_method_6_code 41 = .ok (.getfield 118, 3) := by decide +kernel
set_option maxRecDepth 100000 in
theorem dX11_newHandle_44 : decode prog_13_method_6_code 44 = .ok (.if_icmp .ge 29, 3) := by decide +kernel
set_option maxRecDepth 100000 in
theorem dX11_newHandle_47 : decode prog_13_method_6_code 47 = .ok (.aload_n 0, 1) := by decide +kernel
set_option maxRecDepth 100000 in
theorem dX11_newHandle_48 : decode prog_13_method_6_code 48 = .ok (.getfield 20, 3) := by decide +kernel
set_option maxRecDepth 100000 in
theorem dX11_newHandle_51 : decode prog_13_method_6_code 51 = .ok (.bipush 6, 2) := by decide +kernel
set_option maxRecDepth 100000 in
theorem dX11_newHandle_53 : decode prog_13_method_6_code 53 = .ok (.iload 8, 2) := by decide +kernel
set_option maxRecDepth 100000 in
theorem dX11_newHandle_55 : decode prog_13_method_6_code 55 = .ok (.imul, 1) := by decide +kernel
set_option maxRecDepth 100000 in
theorem dX11_newHandle_56 : decode prog_13_method_6_code 56 = .ok (.iload 9, 2) := by decide +kernel
set_option maxRecDepth 100000 in
theorem dX11_newHandle_58 : decode prog_13_method_6_code 58 = .ok (.iadd, 1) := by decide +kernel
set_option maxRecDepth 100000 in
theorem dX11_newHandle_59 : decode prog_13_method_6_code 59 = .ok (.aload_n 0, 1) := by decide +kernel
set_option maxRecDepth 100000 in
theorem dX11_newHandle_60 : decode prog_13_method_6_code 60 = .ok (.getfield 72, 3) := by decide +kernel
set_option maxRecDepth 100000 in
theorem dX11_newHandle_63 : decode prog_13_method_6_code 63 = .ok (.iload 9, 2) := by decide +kernel
set_option maxRecDepth 100000 in
theorem dX11_newHandle_65 : decode prog_13_method_6_code 65 = .ok (.iaload, 1) := by decide +kernel
set_option maxRecDepth 100000 in
theorem dX11_newHandle_66 : decode prog_13_method_6_code 66 = .ok (.iastore, 1) := by decide +kernel
set_option maxRecDepth 100000 in
theorem dX11_newHandle_67 : decode prog_13_method_6_code 67 = .ok (.iinc 9 1, 3) := by decide +kernel
set_option maxRecDepth 100000 in
theorem dX11_newHandle_70 : decode prog_13_method_6_code 70 = .ok (.goto (-32), 3) := by decide +kernel
set_option maxRecDepth 100000 in
theorem dX11_newHandle_73 : decode prog_13_method_6_code 73 = .ok (.aload_n 0, 1) := by decide +kernel
set_option maxRecDepth 100000 in
theorem dX11_newHandle_74 : decode prog_13_method_6_code 74 = .ok (.getfield 23, 3) := by decide +kernel
set_option maxRecDepth 100000 in
theorem dX11_newHandle_77 : decode prog_13_method_6_code 77 = .ok (.iload 8, 2) := by decide +kernel
set_option maxRecDepth 100000 in
theorem dX11_newHandle_79 : decode prog_13_method_6_code 79 = .ok (.iload_n 2, 1) := by decide +kernel
set_option maxRecDepth 100000 in
theorem dX11_newHandle_80 : decode prog_13_method_6_code 80 = .ok (.iastore, 1) := by decide +kernel
set_option maxRecDepth 100000 in
theorem dX11_newHandle_81 : decode prog_13_method_6_code 81 = .ok (.aload_n 0, 1) := by decide +kernel
set_option maxRecDepth 100000 in
theorem dX11_newHandle_82 : decode prog_13_method_6_code 82 = .ok (.getfield 26, 3) := by decide +kernel
set_option maxRecDepth 100000 in
theorem dX11_newHandle_85 : decode prog_13_method_6_code 85 = .ok (.iload 8, 2) := by decide +kernel
set_option maxRecDepth 100000 in
theorem dX11_newHandle_87 : decode prog_13_method_6_code 87 = .ok (.iload_n 3, 1) := by decide +kernel
set_option maxRecDepth 100000 in
theorem dX11_newHandle_88 : decode prog_13_method_6_code 88 = .ok (.iastore, 1) := by decide +kernel
set_option maxRecDepth 100000 in
theorem dX11_newHandle_89 : decode prog_13_method_6_code 89 = .ok (.aload_n 0, 1) := by decide +kernel
set_option maxRecDepth 100000 in
theorem dX11_newHandle_90 : decode prog_13_method_6_code 90 = .ok (.getfield 29, 3) := by decide +kernel
set_option maxRecDepth 100000 in
theorem dX11_newHandle_93 : decode prog_13_method_6_code 93 = .ok (.iload 8, 2) := by decide +kernel
set_option maxRecDepth 100000 in
theorem dX11_newHandle_95 : decode prog_13_method_6_code 95 = .ok (.iload 4, 2) := by decide +kernel
set_option maxRecDepth 100000 in
theorem dX11_newHandle_97 : decode prog_13_method_6_code 97 = .ok (.iastore, 1) := by decide +kernel
set_option maxRecDepth 100000 in
theorem dX11_newHandle_98 : decode prog_13_method_6_code 98 = .ok (.aload_n 0, 1) := by decide +kernel
set_option maxRecDepth 100000 in
theorem dX11_newHandle_99 : decode prog_13_method_6_code 99 = .ok (.getfield 32, 3) := by decide +kernel
set_option maxRecDepth 100000 in
theorem dX11_newHandle_102 : decode prog_13_method_6_code 102 = .ok (.iload 8, 2) := by decide +kernel
set_option maxRecDepth 100000 in
theorem dX11_newHandle_104 : decode prog_13_method_6_code 104 = .ok (.iload 5, 2) := by decide +kernel
set_option maxRecDepth 100000 in
theorem dX11_newHandle_106 : decode prog_13_method_6_code 106 = .ok (.iastore, 1) := by decide +kernel
set_option maxRecDepth 100000 in
theorem dX11_newHandle_107 : decode prog_13_method_6_code 107 = .ok (.aload_n 0, 1) := by decide +kernel
set_option maxRecDepth 100000 in
theorem dX11_newHandle_108 : decode prog_13_method_6_code 108 = .ok (.getfield 35, 3) := by decide +kernel
set_option maxRecDepth 100000 in
theorem dX11_newHandle_111 : decode prog_13_method_6_code 111 = .ok (.iload 8, 2) := by decide +kernel
set_option maxRecDepth 100000 in
theorem dX11_newHandle_113 : decode prog_13_method_6_code 113 = .ok (.iload 6, 2) := by decide +kernel
set_option maxRecDepth 100000 in
theorem dX11_newHandle_115 : decode prog_13_method_6_code 115 = .ok (.iastore, 1) := by decide +kernel
set_option maxRecDepth 100000 in
theorem dX11_newHandle_116 : decode prog_13_method_6_code 116 = .ok (.aload_n 0, 1) := by decide +kernel
set_option maxRecDepth 100000 in
theorem dX11_newHandle_117 : decode prog_13_method_6_code 117 = .ok (.getfield 38, 3) := by decide +kernel
set_option maxRecDepth 100000 in
theorem dX11_newHandle_120 : decode prog_13_method_6_code 120 = .ok (.iload 8, 2) := by decide +kernel
set_option maxRecDepth 100000 in
theorem dX11_newHandle_122 : decode prog_13_method_6_code 122 = .ok (.iload 7, 2) := by decide +kernel
set_option maxRecDepth 100000 in
theorem dX11_newHandle_124 : decode prog_13_method_6_code 124 = .ok (.iastore, 1) := by decide +kernel
set_option maxRecDepth 100000 in
theorem dX11_newHandle_125 : decode prog_13_method_6_code 125 = .ok (.iload 8, 2) := by decide +kernel
set_option maxRecDepth 100000 in
theorem dX11_newHandle_127 : decode prog_13_method_6_code 127 = .ok (.ireturn, 1) := by decide +kernel
set_option maxRecDepth 100000 in
theorem fl11_118 : ∀ c ∈ ([9] : List Nat), FL "HandleModelsModel" 118 c 28 := fun c hc => by
  cases List.mem_singleton.mp hc
  exact ⟨_, "HandleModelsModel", rfl, by decide, (gd_of 756 rfl rfl), Or.inl rfl⟩
set_option maxRecDepth 100000 in
theorem pl11_108_m {mi : aM} {x : Int32} (ho : "HandleModelsModel" = mi.1.cls) : ∀ c ∈ ([9] : List Nat), FL mi.1.cls 108 c 1 ∧ FT c 1 (.inl x) ∧ FW mi c 1 := fun c h9 => by
  have h8 := fl11_108 c h9
  rw [← ho]
  refine ⟨h8, ?_⟩
  simp only [List.mem_cons, List.not_mem_nil, or_false] at h9
  rcases h9 with rfl
  · exact ⟨ft_int rfl (by decide +kernel), ⟨_, rfl, Or.inl rfl⟩⟩
def fX11_newHandle_38 (z : Nat → Nat) : Nat → Nat → Int32 → Int32 → Int32 → Int32 → Int32 → Int32 → Int32 → Int32 → aH → Option (Int32 × aH)
  | 0, _, _, _, _, _, _, _, _, _, _ => none
  | n + 1, a0, x2, x3, x4, x5, x6, x7, x8, x9, h => (rdI h a0 [9] 28).bind fun x101 =>
  (if x101 ≤ x9 then
  (rdR h a0 [9] 5).bind fun r102 =>
  (r102).bind fun a103 =>
  (awI h a103 x8 x2).bind fun h104 =>
  (rdR h104 a0 [9] 6).bind fun r105 =>
  (r105).bind fun a106 =>
  (awI h104 a106 x8 x3).bind fun h107 =>
  (rdR h107 a0 [9] 7).bind fun r108 =>
  (r108).bind fun a109 =>
  (awI h107 a109 x8 x4).bind fun h110 =>
  (rdR h110 a0 [9] 8).bind fun r111 =>
  (r111).bind fun a112 =>
  (awI h110 a112 x8 x5).bind fun h113 =>
  (rdR h113 a0 [9] 9).bind fun r114 =>
  (r114).bind fun a115 =>
  (awI h113 a115 x8 x6).bind fun h116 =>
  (rdR h116 a0 [9] 10).bind fun r117 =>
  (r117).bind fun a118 =>
  (awI h116 a118 x8 x7).bind fun h119 =>
  some (x8, h119)
  else
  (rdR h a0 [9] 4).bind fun r120 =>
  (rdR h a0 [9] 27).bind fun r121 =>
  (r121).bind fun a122 =>
  (arI h a122 x9).bind fun x123 =>
  (r120).bind fun a124 =>
  (awI h a124 ((6 * x8) + x9) x123).bind fun h125 =>
  fX11_newHandle_38 z n a0 x2 x3 x4 x5 x6 x7 x8 (x9 + 1) h125)
set_option maxHeartbeats 4000000 in
set_option maxRecDepth 100000 in
theorem xX11_newHandle_38 {l : Launch} {g : aG} {d : Nat} (hK : 0 ≤ d) : ∀ (n : Nat) (a0 : Nat) (x2 : Int32) (x3 : Int32) (x4 : Int32) (x5 : Int32) (x6 : Int32) (x7 : Int32) (x8 : Int32) (x9 : Int32) (h : aH) (q : Int32 × aH), fX11_newHandle_38 g.2.2 n a0 x2 x3 x4 x5 x6 x7 x8 x9 h = some q → Y l g miX11_newHandle d 38 [some (.inr (.inr (some a0))), none, some (.inl x2), some (.inl x3), some (.inl x4), some (.inl x5), some (.inl x6), some (.inl x7), some (.inl x8), some (.inl x9)] [] h (some (.inl q.1), q.2) := by
  intro n
  induction n with
  | zero => intro a0 x2 x3 x4 x5 x6 x7 x8 x9 h q hf; simp [fX11_newHandle_38] at hf
  | succ n ih =>
    intro a0 x2 x3 x4 x5 x6 x7 x8 x9 h q hf
    rw [fX11_newHandle_38] at hf
    refine y_iload (i := 9) dX11_newHandle_38 rfl ?_
    refine y_aload_n (i := 0) dX11_newHandle_40 rfl rfl ?_
    replace hf := bnd hf
    obtain ⟨x101, ex101, hf⟩ := hf
    refine y_getI ex101 fl11_118 dX11_newHandle_41 ?_
    refine y_icmp_ge (tgt := 73) dX11_newHandle_44 (by decide) (fun hc => ?_) (fun hc => ?_)
    · rw [if_pos hc] at hf
      refine y_aload_n (i := 0) dX11_newHandle_73 rfl rfl ?_
      replace hf := bnd hf
      obtain ⟨r102, er102, hf⟩ := hf
      refine y_getR er102 fl11_23 dX11_newHandle_74 ?_
      refine y_iload (i := 8) dX11_newHandle_77 rfl ?_
      refine y_iload_n (i := 2) dX11_newHandle_79 rfl rfl ?_
      replace hf := bnd hf
      obtain ⟨a103, rfl, hf⟩ := hf
      replace hf := bnd hf
      obtain ⟨h104, eh104, hf⟩ := hf
      refine y_iastore eh104 dX11_newHandle_80 ?_
      refine y_aload_n (i := 0) dX11_newHandle_81 rfl rfl ?_
      replace hf := bnd hf
      obtain ⟨r105, er105, hf⟩ := hf
      refine y_getR er105 fl11_26 dX11_newHandle_82 ?_
      refine y_iload (i := 8) dX11_newHandle_85 rfl ?_
      refine y_iload_n (i := 3) dX11_newHandle_87 rfl rfl ?_
      replace hf := bnd hf
      obtain ⟨a106, rfl, hf⟩ := hf
      replace hf := bnd hf
      obtain ⟨h107, eh107, hf⟩ := hf
      refine y_iastore eh107 dX11_newHandle_88 ?_
      refine y_aload_n (i := 0) dX11_newHandle_89 rfl rfl ?_
      replace hf := bnd hf
      obtain ⟨r108, er108, hf⟩ := hf
      refine y_getR er108 fl11_29 dX11_newHandle_90 ?_
      refine y_iload (i := 8) dX11_newHandle_93 rfl ?_
      refine y_iload (i := 4) dX11_newHandle_95 rfl ?_
      replace hf := bnd hf
      obtain ⟨a109, rfl, hf⟩ := hf
      replace hf := bnd hf
      obtain ⟨h110, eh110, hf⟩ := hf
      refine y_iastore eh110 dX11_newHandle_97 ?_
      refine y_aload_n (i := 0) dX11_newHandle_98 rfl rfl ?_
      replace hf := bnd hf
      obtain ⟨r111, er111, hf⟩ := hf
      refine y_getR er111 fl11_32 dX11_newHandle_99 ?_
      refine y_iload (i := 8) dX11_newHandle_102 rfl ?_
      refine y_iload (i := 5) dX11_newHandle_104 rfl ?_
      replace hf := bnd hf
      obtain ⟨a112, rfl, hf⟩ := hf
      replace hf := bnd hf
      obtain ⟨h113, eh113, hf⟩ := hf
      refine y_iastore eh113 dX11_newHandle_106 ?_
      refine y_aload_n (i := 0) dX11_newHandle_107 rfl rfl ?_
      replace hf := bnd hf
      obtain ⟨r114, er114, hf⟩ := hf
      refine y_getR er114 fl11_35 dX11_newHandle_108 ?_
      refine y_iload (i := 8) dX11_newHandle_111 rfl ?_
      refine y_iload (i := 6) dX11_newHandle_113 rfl ?_
      replace hf := bnd hf
      obtain ⟨a115, rfl, hf⟩ := hf
      replace hf := bnd hf
      obtain ⟨h116, eh116, hf⟩ := hf
      refine y_iastore eh116 dX11_newHandle_115 ?_
      refine y_aload_n (i := 0) dX11_newHandle_116 rfl rfl ?_
      replace hf := bnd hf
      obtain ⟨r117, er117, hf⟩ := hf
      refine y_getR er117 fl11_38 dX11_newHandle_117 ?_
      refine y_iload (i := 8) dX11_newHandle_120 rfl ?_
      refine y_iload (i := 7) dX11_newHandle_122 rfl ?_
      replace hf := bnd hf
      obtain ⟨a118, rfl, hf⟩ := hf
      replace hf := bnd hf
      obtain ⟨h119, eh119, hf⟩ := hf
      refine y_iastore eh119 dX11_newHandle_124 ?_
      refine y_iload (i := 8) dX11_newHandle_125 rfl ?_
      obtain rfl := Option.some.inj hf
      exact y_ret (v := some (.inl x8)) dX11_newHandle_127 rfl
    · rw [if_neg hc] at hf
      refine y_aload_n (i := 0) dX11_newHandle_47 rfl rfl ?_
      replace hf := bnd hf
      obtain ⟨r120, er120, hf⟩ := hf
      refine y_getR er120 fl11_20 dX11_newHandle_48 ?_
      refine y_bipush (v := 6) dX11_newHandle_51 (by decide) ?_
      refine y_iload (i := 8) dX11_newHandle_53 rfl ?_
      refine y_imul dX11_newHandle_55 ?_
      refine y_iload (i := 9) dX11_newHandle_56 rfl ?_
      refine y_iadd dX11_newHandle_58 ?_
      refine y_aload_n (i := 0) dX11_newHandle_59 rfl rfl ?_
      replace hf := bnd hf
      obtain ⟨r121, er121, hf⟩ := hf
      refine y_getR er121 fl11_72 dX11_newHandle_60 ?_
      refine y_iload (i := 9) dX11_newHandle_63 rfl ?_
      replace hf := bnd hf
      obtain ⟨a122, rfl, hf⟩ := hf
      replace hf := bnd hf
      obtain ⟨x123, ex123, hf⟩ := hf
      refine y_iaload ex123 dX11_newHandle_65 ?_
      replace hf := bnd hf
      obtain ⟨a124, rfl, hf⟩ := hf
      replace hf := bnd hf
      obtain ⟨h125, eh125, hf⟩ := hf
      refine y_iastore eh125 dX11_newHandle_66 ?_
      refine y_iinc (i := 9) (y := 1) (lv2 := [some (.inr (.inr (some a0))), none, some (.inl x2), some (.inl x3), some (.inl x4), some (.inl x5), some (.inl x6), some (.inl x7), some (.inl x8), some (.inl (x9 + 1))]) dX11_newHandle_67 rfl (by decide) (by decide) rfl ?_
      refine y_goto (tgt := 38) dX11_newHandle_70 (by decide) ?_
      refine Y.weak (lv2 := [some (.inr (.inr (some a0))), none, some (.inl x2), some (.inl x3), some (.inl x4), some (.inl x5), some (.inl x6), some (.inl x7), some (.inl x8), some (.inl (x9 + 1))]) [true, false, true, true, true, true, true, true, true, true] rfl ?_
      exact ih _ _ _ _ _ _ _ _ _ _ _ hf
def fX11_newHandle (z : Nat → Nat) (a0 : Nat) (x1 : Int32) (x2 : Int32) (x3 : Int32) (x4 : Int32) (x5 : Int32) (x6 : Int32) (x7 : Int32) (h : aH) : Option (Int32 × aH) :=
  (rdI h a0 [9] 1).bind fun x101 =>
  (rdI h a0 [9] 1).bind fun x102 =>
  (wrF h a0 [9] 1 (.inl (x102 + 1))).bind fun h103 =>
  (rdR h103 a0 [9] 2).bind fun r104 =>
  (r104).bind fun a105 =>
  (awI h103 a105 x101 x1).bind fun h106 =>
  (rdR h106 a0 [9] 3).bind fun r107 =>
  (rdI h106 a0 [9] 28).bind fun x108 =>
  (r107).bind fun a109 =>
  (awI h106 a109 x101 x108).bind fun h110 =>
  fX11_newHandle_38 z 4000 a0 x2 x3 x4 x5 x6 x7 x101 0 h110
set_option maxHeartbeats 4000000 in
set_option maxRecDepth 100000 in
theorem xX11_newHandle {l : Launch} {g : aG} {d : Nat} (hK : 0 ≤ d) {a0 : Nat} {x1 : Int32} {x2 : Int32} {x3 : Int32} {x4 : Int32} {x5 : Int32} {x6 : Int32} {x7 : Int32} {h : aH} {q : Int32 × aH} (hf : fX11_newHandle g.2.2 a0 x1 x2 x3 x4 x5 x6 x7 h = some q) : Ev l g miX11_newHandle d [.inr (.inr (some a0)), .inl x1, .inl x2, .inl x3, .inl x4, .inl x5, .inl x6, .inl x7] h (some (.inl q.1), q.2) := by
  refine ⟨?_, Or.inl rfl, Nat.le_of_ble_eq_true rfl⟩
  unfold fX11_newHandle at hf
  show Y l g miX11_newHandle d 0 [some (.inr (.inr (some a0))), some (.inl x1), some (.inl x2), some (.inl x3), some (.inl x4), some (.inl x5), some (.inl x6), some (.inl x7), none, none] [] h _
  refine y_aload_n (i := 0) dX11_newHandle_0 rfl rfl ?_
  replace hf := bnd hf
  obtain ⟨x101, ex101, hf⟩ := hf
  refine y_getI ex101 fl11_108 dX11_newHandle_1 ?_
  refine y_istore (i := 8) (lv2 := [some (.inr (.inr (some a0))), some (.inl x1), some (.inl x2), some (.inl x3), some (.inl x4), some (.inl x5), some (.inl x6), some (.inl x7), some (.inl x101), none]) dX11_newHandle_4 (by decide) rfl ?_
  refine y_aload_n (i := 0) dX11_newHandle_6 rfl rfl ?_
  refine y_dup dX11_newHandle_7 rfl ?_
  replace hf := bnd hf
  obtain ⟨x102, ex102, hf⟩ := hf
  refine y_getI ex102 fl11_108 dX11_newHandle_8 ?_
  refine y_iconst (v := 1) dX11_newHandle_11 (by decide) ?_
  refine y_iadd dX11_newHandle_12 ?_
  replace hf := bnd hf
  obtain ⟨h103, eh103, hf⟩ := hf
  refine y_put eh103 (pl11_108_m rfl) dX11_newHandle_13 ?_
  refine y_aload_n (i := 0) dX11_newHandle_16 rfl rfl ?_
  replace hf := bnd hf
  obtain ⟨r104, er104, hf⟩ := hf
  refine y_getR er104 fl11_13 dX11_newHandle_17 ?_
  refine y_iload (i := 8) dX11_newHandle_20 rfl ?_
  refine y_iload_n (i := 1) dX11_newHandle_22 rfl rfl ?_
  replace hf := bnd hf
  obtain ⟨a105, rfl, hf⟩ := hf
  replace hf := bnd hf
  obtain ⟨h106, eh106, hf⟩ := hf
  refine y_iastore eh106 dX11_newHandle_23 ?_
  refine y_aload_n (i := 0) dX11_newHandle_24 rfl rfl ?_
  replace hf := bnd hf
  obtain ⟨r107, er107, hf⟩ := hf
  refine y_getR er107 fl11_17 dX11_newHandle_25 ?_
  refine y_iload (i := 8) dX11_newHandle_28 rfl ?_
  refine y_aload_n (i := 0) dX11_newHandle_30 rfl rfl ?_
  replace hf := bnd hf
  obtain ⟨x108, ex108, hf⟩ := hf
  refine y_getI ex108 fl11_118 dX11_newHandle_31 ?_
  replace hf := bnd hf
  obtain ⟨a109, rfl, hf⟩ := hf
  replace hf := bnd hf
  obtain ⟨h110, eh110, hf⟩ := hf
  refine y_iastore eh110 dX11_newHandle_34 ?_
  refine y_iconst (v := 0) dX11_newHandle_35 (by decide) ?_
  refine y_istore (i := 9) (lv2 := [some (.inr (.inr (some a0))), some (.inl x1), some (.inl x2), some (.inl x3), some (.inl x4), some (.inl x5), some (.inl x6), some (.inl x7), some (.inl x101), some (.inl 0)]) dX11_newHandle_36 (by decide) rfl ?_
  refine Y.weak (lv2 := [some (.inr (.inr (some a0))), none, some (.inl x2), some (.inl x3), some (.inl x4), some (.inl x5), some (.inl x6), some (.inl x7), some (.inl x101), some (.inl 0)]) [true, false, true, true, true, true, true, true, true, true] rfl ?_
  exact xX11_newHandle_38 hK 4000 _ _ _ _ _ _ _ _ _ _ _ hf
set_option maxRecDepth 100000 in
theorem dX11_begins_0 : decode prog_13_method_13_code 0 = .ok (.aload_n 0, 1) := by decide +kernel
set_option maxRecDepth 100000 in
theorem dX11_begins_1 : decode prog_13_method_13_code 1 = .ok (.getfield 17, 3) := by decide +kernel
set_option maxRecDepth 100000 in
theorem dX11_begins_4 : decode prog_13_method_13_code 4 = .ok (.iload_n 1, 1) := by decide +kernel
set_option maxRecDepth 100000 in
theorem dX11_begins_5 : decode prog_13_method_13_code 5 = .ok (.iaload, 1) := by decide +kernel
set_option maxRecDepth 100000 in
theorem dX11_begins_6 : decode prog_13_method_13_code 6 = .ok (.iload_n 2, 1) := by decide +kernel
set_option maxRecDepth 100000 in
theorem dX11_begins_7 : decode prog_13_method_13_code 7 = .ok (.isub, 1) := by decide +kernel
set_option maxRecDepth 100000 in
theorem dX11_begins_8 : decode prog_13_method_13_code 8 = .ok (.aload_n 0, 1) := by decide +kernel
set_option maxRecDepth 100000 in
theorem dX11_begins_9 : decode prog_13_method_13_code 9 = .ok (.getfield 17, 3) := by decide +kernel
set_option maxRecDepth 100000 in
theorem dX11_begins_12 : decode prog_13_method_13_code 12 = .ok (.iload_n 3, 1) := by decide +kernel
set_option maxRecDepth 100000 in
theorem dX11_begins_13 : decode prog_13_method_13_code 13 = .ok (.iaload, 1) := by decide +kernel
set_option maxRecDepth 100000 in
theorem dX11_begins_14 : decode prog_13_method_13_code 14 = .ok (.iload 4, 2) := by decide +kernel
set_option maxRecDepth 100000 in
theorem dX11_begins_16 : decode prog_13_method_13_code 16 = .ok (.isub, 1) := by decide +kernel
set_option maxRecDepth 100000 in
theorem dX11_begins_17 : decode prog_13_method_13_code 17 = .ok (.if_icmp .gt 7, 3) := by decide +kernel
set_option maxRecDepth 100000 in
theorem dX11_begins_20 : decode prog_13_method_13_code 20 = .ok (.iconst 1, 1) := by decide +kernel
set_option maxRecDepth 100000 in
theorem dX11_begins_21 : decode prog_13_method_13_code 21 = .ok (.goto 4, 3) := by decide +kernel
set_option maxRecDepth 100000 in
theorem dX11_begins_24 : decode prog_13_method_13_code 24 = .ok (.iconst 0, 1) := by decide +kernel
set_option maxRecDepth 100000 in
theorem dX11_begins_25 : decode prog_13_method_13_code 25 = .ok (.istore 5, 2) := by decide +kernel
set_option maxRecDepth 100000 in
theorem dX11_begins_27 : decode prog_13_method_13_code 27 = .ok (.iconst 0, 1) := by decide +kernel
set_option maxRecDepth 100000 in
theorem dX11_begins_28 : decode prog_13_method_13_code 28 = .ok (.istore 6, 2) := by decide +kernel
set_option maxRecDepth 100000 in
theorem dX11_begins_30 : decode prog_13_method_13_code 30 = .ok (.iload 6, 2) := by decide +kernel
set_option maxRecDepth 100000 in
theorem dX11_begins_32 : decode prog_13_method_13_code 32 = .ok (.aload_n 0, 1) := by decide +kernel
set_option maxRecDepth 100000 in
theorem dX11_begins_33 : decode prog_13_method_13_code 33 = .ok (.getfield 17, 3) := by decide +kernel
set_option maxRecDepth 100000 in
theorem dX11_begins_36 : decode prog_13_method_13_code 36 = .ok (.iload_n 1, 1) := by decide +kernel
set_option maxRecDepth 100000 in
theorem dX11_begins_37 : decode prog_13_method_13_code 37 = .ok (.iaload, 1) := by decide +kernel
set_option maxRecDepth 100000 in
theorem dX11_begins_38 : decode prog_13_method_13_code 38 = .ok (.iload_n 2, 1) := by decide +kernel
set_option maxRecDepth 100000 in
theorem dX11_begins_39 : decode prog_13_method_13_code 39 = .ok (.isub, 1) := by decide +kernel
set_option maxRecDepth 100000 in
theorem dX11_begins_40 : decode prog_13_method_13_code 40 = .ok (.if_icmp .ge 53, 3) := by decide +kernel
set_option maxRecDepth 100000 in
theorem dX11_begins_43 : decode prog_13_method_13_code 43 = .ok (.iload 5, 2) := by decide +kernel
set_option maxRecDepth 100000 in
theorem dX11_begins_45 : decode prog_13_method_13_code 45 = .ok (.ifCond .eq 48, 3) := by decide +kernel
set_option maxRecDepth 100000 in
theorem dX11_begins_48 : decode prog_13_method_13_code 48 = .ok (.aload_n 0, 1) := by decide +kernel
set_option maxRecDepth 100000 in
theorem dX11_begins_49 : decode prog_13_method_13_code 49 = .ok (.getfield 20, 3) := by decide +kernel
set_option maxRecDepth 100000 in
theorem dX11_begins_52 : decode prog_13_method_13_code 52 = .ok (.bipush 6, 2) := by decide +kernel
set_option maxRecDepth 100000 in
theorem dX11_begins_54 : decode prog_13_method_13_code 54 = .ok (.iload_n 1, 1) := by decide +kernel
set_option maxRecDepth 100000 in
theorem dX11_begins_55 : decode prog_13_method_13_code 55 = .ok (.imul, 1) := by decide +kernel
set_option maxRecDepth 100000 in
theorem dX11_begins_56 : decode prog_13_method_13_code 56 = .ok (.iload_n 2, 1) := by decide +kernel
set_option maxRecDepth 100000 in
theorem dX11_begins_57 : decode prog_13_method_13_code 57 = .ok (.iadd, 1) := by decide +kernel
set_option maxRecDepth 100000 in
theorem dX11_begins_58 : decode prog_13_method_13_code 58 = .ok (.iload 6, 2) := by decide +kernel
set_option maxRecDepth 100000 in
theorem dX11_begins_60 : decode prog_13_method_13_code 60 = .ok (.iadd, 1) := by decide +kernel
set_option maxRecDepth 100000 in
theorem dX11_begins_61 : decode prog_13_method_13_code 61 = .ok (.iaload, 1) := by decide +kernel
set_option maxRecDepth 100000 in
theorem dX11_begins_62 : decode prog_13_method_13_code 62 = .ok (.aload_n 0, 1) := by decide +kernel
set_option maxRecDepth 100000 in
theorem dX11_begins_63 : decode prog_13_method_13_code 63 = .ok (.getfield 20, 3) := by decide +kernel
set_option maxRecDepth 100000 in
theorem dX11_begins_66 : decode prog_13_method_13_code 66 = .ok (.bipush 6, 2) := by decide +kernel
set_option maxRecDepth 100000 in
theorem dX11_begins_68 : decode prog_13_method_13_code 68 = .ok (.iload_n 3, 1) := by decide +kernel
set_option maxRecDepth 100000 in
theorem dX11_begins_69 : decode prog_13_method_13_code 69 = .ok (.imul, 1) := by decide +kernel
set_option maxRecDepth 100000 in
theorem dX11_begins_70 : decode prog_13_method_13_code 70 = .ok (.iload 4, 2) := by decide +kernel
set_option maxRecDepth 100000 in
theorem dX11_begins_72 : decode prog_13_method_13_code 72 = .ok (.iadd, 1) := by decide +kernel
set_option maxRecDepth 100000 in
theorem dX11_begins_73 : decode prog_13_method_13_code 73 = .ok (.iload 6, 2) := by decide +kernel
set_option maxRecDepth 100000 in
theorem dX11_begins_75 : decode prog_13_method_13_code 75 = .ok (.iadd, 1) := by decide +kernel
set_option maxRecDepth 100000 in
theorem dX11_begins_76 : decode prog_13_method_13_code 76 = .ok (.iaload, 1) := by decide +kernel
set_option maxRecDepth 100000 in
theorem dX11_begins_77 : decode prog_13_method_13_code 77 = .ok (.if_icmp .ne 7, 3) := by decide +kernel
set_option maxRecDepth 100000 in
theorem dX11_begins_80 : decode prog_13_method_13_code 80 = .ok (.iconst 1, 1) := by decide +kernel
set_option maxRecDepth 100000 in
theorem dX11_begins_81 : decode prog_13_method_13_code 81 = .ok (.goto 4, 3) := by decide +kernel
set_option maxRecDepth 100000 in
theorem dX11_begins_84 : decode prog_13_method_13_code 84 = .ok (.iconst 0, 1) := by decide +kernel
set_option maxRecDepth 100000 in
theorem dX11_begins_85 : decode prog_13_method_13_code 85 = .ok (.istore 5, 2) := by decide +kernel
set_option maxRecDepth 100000 in
theorem dX11_begins_87 : decode prog_13_method_13_code 87 = .ok (.iinc 6 1, 3) := by decide +kernel
set_option maxRecDepth 100000 in
theorem dX11_begins_90 : decode prog_13_method_13_code 90 = .ok (.goto (-60), 3) := by decide +kernel
set_option maxRecDepth 100000 in
theorem dX11_begins_93 : decode prog_13_method_13_code 93 = .ok (.iload 5, 2) := by decide +kernel
set_option maxRecDepth 100000 in
theorem dX11_begins_95 : decode prog_13_method_13_code 95 = .ok (.ireturn, 1) := by decide +kernel

def fX11_begins_30 (z : Nat → Nat) : Nat → Nat → Int32 → Int32 → Int32 → Int32 → Int32 → Int32 → aH → Option (Int32 × aH)
  | 0, _, _, _, _, _, _, _, _ => none
  | n + 1, a0, x1, x2, x3, x4, x5, x6, h => (rdR h a0 [9] 3).bind fun r101 =>
  (r101).bind fun a102 =>
  (arI h a102 x1).bind fun x103 =>
  (if (x103 - x2) ≤ x6 then
  some (x5, h)
  else
  (if x5 = 0 then
  some (x5, h)
  else
  (rdR h a0 [9] 4).bind fun r104 =>
  (r104).bind fun a105 =>
  (arI h a105 (((6 * x1) + x2) + x6)).bind fun x106 =>
  (rdR h a0 [9] 4).bind fun r107 =>
  (r107).bind fun a108 =>
  (arI h a108 (((6 * x3) + x4) + x6)).bind fun x109 =>
  (if x106 = x109 then
  fX11_begins_30 z n a0 x1 x2 x3 x4 1 (x6 + 1) h
  else
  fX11_begins_30 z n a0 x1 x2 x3 x4 0 (x6 + 1) h)))
set_option maxHeartbeats 4000000 in
set_option maxRecDepth 100000 in
theorem xX11_begins_30 {l : Launch} {g : aG} {d : Nat} (hK : 0 ≤ d) : ∀ (n : Nat) (a0 : Nat) (x1 : Int32) (x2 : Int32) (x3 : Int32) (x4 : Int32) (x5 : Int32) (x6 : Int32) (h : aH) (q : Int32 × aH), fX11_begins_30 g.2.2 n a0 x1 x2 x3 x4 x5 x6 h = some q → Y l g miX11_begins d 30 [some (.inr (.inr (some a0))), some (.inl x1), some (.inl x2), some (.inl x3), some (.inl x4), some (.inl x5), some (.inl x6)] [] h (some (.inl q.1), q.2) := by
  intro n
  induction n with
  | zero => intro a0 x1 x2 x3 x4 x5 x6 h q hf; simp [fX11_begins_30] at hf
  | succ n ih =>
    intro a0 x1 x2 x3 x4 x5 x6 h q hf
    rw [fX11_begins_30] at hf
    refine y_iload (i := 6) dX11_begins_30 rfl ?_
    refine y_aload_n (i := 0) dX11_begins_32 rfl rfl ?_
    replace hf := bnd hf
    obtain ⟨r101, er101, hf⟩ := hf
    refine y_getR er101 fl11_17 dX11_begins_33 ?_
    refine y_iload_n (i := 1) dX11_begins_36 rfl rfl ?_
    replace hf := bnd hf
    obtain ⟨a102, rfl, hf⟩ := hf
    replace hf := bnd hf
    obtain ⟨x103, ex103, hf⟩ := hf
    refine y_iaload ex103 dX11_begins_37 ?_
    refine y_iload_n (i := 2) dX11_begins_38 rfl rfl ?_
    refine y_isub dX11_begins_39 ?_
    refine y_icmp_ge (tgt := 93) dX11_begins_40 (by decide) (fun hc => ?_) (fun hc => ?_)
    · rw [if_pos hc] at hf
      refine y_iload (i := 5) dX11_begins_93 rfl ?_
      obtain rfl := Option.some.inj hf
      exact y_ret (v := some (.inl x5)) dX11_begins_95 rfl
    · rw [if_neg hc] at hf
      refine y_iload (i := 5) dX11_begins_43 rfl ?_
      refine y_if_eq (tgt := 93) dX11_begins_45 (by decide) (fun hc => ?_) (fun hc => ?_)
      · rw [if_pos hc] at hf
        refine y_iload (i := 5) dX11_begins_93 rfl ?_
        obtain rfl := Option.some.inj hf
        exact y_ret (v := some (.inl x5)) dX11_begins_95 rfl
      · rw [if_neg hc] at hf
        refine y_aload_n (i := 0) dX11_begins_48 rfl rfl ?_
        replace hf := bnd hf
        obtain ⟨r104, er104, hf⟩ := hf
        refine y_getR er104 fl11_20 dX11_begins_49 ?_
        refine y_bipush (v := 6) dX11_begins_52 (by decide) ?_
        refine y_iload_n (i := 1) dX11_begins_54 rfl rfl ?_
        refine y_imul dX11_begins_55 ?_
        refine y_iload_n (i := 2) dX11_begins_56 rfl rfl ?_
        refine y_iadd dX11_begins_57 ?_
        refine y_iload (i := 6) dX11_begins_58 rfl ?_
        refine y_iadd dX11_begins_60 ?_
        replace hf := bnd hf
        obtain ⟨a105, rfl, hf⟩ := hf
        replace hf := bnd hf
        obtain ⟨x106, ex106, hf⟩ := hf
        refine y_iaload ex106 dX11_begins_61 ?_
        refine y_aload_n (i := 0) dX11_begins_62 rfl rfl ?_
        replace hf := bnd hf
        obtain ⟨r107, er107, hf⟩ := hf
        refine y_getR er107 fl11_20 dX11_begins_63 ?_
        refine y_bipush (v := 6) dX11_begins_66 (by decide) ?_
        refine y_iload_n (i := 3) dX11_begins_68 rfl rfl ?_
        refine y_imul dX11_begins_69 ?_
        refine y_iload (i := 4) dX11_begins_70 rfl ?_
        refine y_iadd dX11_begins_72 ?_
        refine y_iload (i := 6) dX11_begins_73 rfl ?_
        refine y_iadd dX11_begins_75 ?_
        replace hf := bnd hf
        obtain ⟨a108, rfl, hf⟩ := hf
        replace hf := bnd hf
        obtain ⟨x109, ex109, hf⟩ := hf
        refine y_iaload ex109 dX11_begins_76 ?_
        refine y_icmp_ne (tgt := 84) dX11_begins_77 (by decide) (fun hc => ?_) (fun hc => ?_)
        · rw [if_neg hc] at hf
          refine y_iconst (v := 0) dX11_begins_84 (by decide) ?_
          refine y_istore (i := 5) (lv2 := [some (.inr (.inr (some a0))), some (.inl x1), some (.inl x2), some (.inl x3), some (.inl x4), some (.inl 0), some (.inl x6)]) dX11_begins_85 (by decide) rfl ?_
          refine y_iinc (i := 6) (y := 1) (lv2 := [some (.inr (.inr (some a0))), some (.inl x1), some (.inl x2), some (.inl x3), some (.inl x4), some (.inl 0), some (.inl (x6 + 1))]) dX11_begins_87 rfl (by decide) (by decide) rfl ?_
          refine y_goto (tgt := 30) dX11_begins_90 (by decide) ?_
          refine Y.weak (lv2 := [some (.inr (.inr (some a0))), some (.inl x1), some (.inl x2), some (.inl x3), some (.inl x4), some (.inl 0), some (.inl (x6 + 1))]) [true, true, true, true, true, true, true] rfl ?_
          exact ih _ _ _ _ _ _ _ _ _ hf
        · rw [if_pos hc] at hf
          refine y_iconst (v := 1) dX11_begins_80 (by decide) ?_
          refine y_goto (tgt := 85) dX11_begins_81 (by decide) ?_
          refine y_istore (i := 5) (lv2 := [some (.inr (.inr (some a0))), some (.inl x1), some (.inl x2), some (.inl x3), some (.inl x4), some (.inl 1), some (.inl x6)]) dX11_begins_85 (by decide) rfl ?_
          refine y_iinc (i := 6) (y := 1) (lv2 := [some (.inr (.inr (some a0))), some (.inl x1), some (.inl x2), some (.inl x3), some (.inl x4), some (.inl 1), some (.inl (x6 + 1))]) dX11_begins_87 rfl (by decide) (by decide) rfl ?_
          refine y_goto (tgt := 30) dX11_begins_90 (by decide) ?_
          refine Y.weak (lv2 := [some (.inr (.inr (some a0))), some (.inl x1), some (.inl x2), some (.inl x3), some (.inl x4), some (.inl 1), some (.inl (x6 + 1))]) [true, true, true, true, true, true, true] rfl ?_
          exact ih _ _ _ _ _ _ _ _ _ hf
def fX11_begins_e (z : Nat → Nat) (a0 : Nat) (x1 : Int32) (x2 : Int32) (x3 : Int32) (x4 : Int32) (h : aH) : Option (Int32 × aH) :=
  (rdR h a0 [9] 3).bind fun r101 =>
  (r101).bind fun a102 =>
  (arI h a102 x1).bind fun x103 =>
  (rdR h a0 [9] 3).bind fun r104 =>
  (r104).bind fun a105 =>
  (arI h a105 x3).bind fun x106 =>
  (if (x106 - x4) < (x103 - x2) then
  fX11_begins_30 z 4000 a0 x1 x2 x3 x4 0 0 h
  else
  fX11_begins_30 z 4000 a0 x1 x2 x3 x4 1 0 h)
def fX11_begins (z : Nat → Nat) (a0 : Nat) (x1 : Int32) (x2 : Int32) (x3 : Int32) (x4 : Int32) (h : aH) : Option (Int32 × aH) := chkB (fX11_begins_e z a0 x1 x2 x3 x4 h)
set_option maxHeartbeats 4000000 in
set_option maxRecDepth 100000 in
theorem xX11_begins {l : Launch} {g : aG} {d : Nat} (hK : 0 ≤ d) {a0 : Nat} {x1 : Int32} {x2 : Int32} {x3 : Int32} {x4 : Int32} {h : aH} {q : Int32 × aH} (hf : fX11_begins g.2.2 a0 x1 x2 x3 x4 h = some q) : Ev l g miX11_begins d [.inr (.inr (some a0)), .inl x1, .inl x2, .inl x3, .inl x4] h (some (.inl q.1), q.2) := by
  replace hf := chkB_spec hf
  obtain ⟨hf, hb⟩ := hf
  refine ⟨?_, Or.inr ⟨rfl, hb⟩, Nat.le_of_ble_eq_true rfl⟩
  unfold fX11_begins_e at hf
  show Y l g miX11_begins d 0 [some (.inr (.inr (some a0))), some (.inl x1), some (.inl x2), some (.inl x3), some (.inl x4), none, none] [] h _
  refine y_aload_n (i := 0) dX11_begins_0 rfl rfl ?_
  replace hf := bnd hf
  obtain ⟨r101, er101, hf⟩ := hf
  refine y_getR er101 fl11_17 dX11_begins_1 ?_
  refine y_iload_n (i := 1) dX11_begins_4 rfl rfl ?_
  replace hf := bnd hf
  obtain ⟨a102, rfl, hf⟩ := hf
  replace hf := bnd hf
  obtain ⟨x103, ex103, hf⟩ := hf
  refine y_iaload ex103 dX11_begins_5 ?_
  refine y_iload_n (i := 2) dX11_begins_6 rfl rfl ?_
  refine y_isub dX11_begins_7 ?_
  refine y_aload_n (i := 0) dX11_begins_8 rfl rfl ?_
  replace hf := bnd hf
  obtain ⟨r104, er104, hf⟩ := hf
  refine y_getR er104 fl11_17 dX11_begins_9 ?_
  refine y_iload_n (i := 3) dX11_begins_12 rfl rfl ?_
  replace hf := bnd hf
  obtain ⟨a105, rfl, hf⟩ := hf
  replace hf := bnd hf
  obtain ⟨x106, ex106, hf⟩ := hf
  refine y_iaload ex106 dX11_begins_13 ?_
  refine y_iload (i := 4) dX11_begins_14 rfl ?_
  refine y_isub dX11_begins_16 ?_
  refine y_icmp_gt (tgt := 24) dX11_begins_17 (by decide) (fun hc => ?_) (fun hc => ?_)
  · rw [if_pos hc] at hf
    refine y_iconst (v := 0) dX11_begins_24 (by decide) ?_
    refine y_istore (i := 5) (lv2 := [some (.inr (.inr (some a0))), some (.inl x1), some (.inl x2), some (.inl x3), some (.inl x4), some (.inl 0), none]) dX11_begins_25 (by decide) rfl ?_
    refine y_iconst (v := 0) dX11_begins_27 (by decide) ?_
    refine y_istore (i := 6) (lv2 := [some (.inr (.inr (some a0))), some (.inl x1), some (.inl x2), some (.inl x3), some (.inl x4), some (.inl 0), some (.inl 0)]) dX11_begins_28 (by decide) rfl ?_
    refine Y.weak (lv2 := [some (.inr (.inr (some a0))), some (.inl x1), some (.inl x2), some (.inl x3), some (.inl x4), some (.inl 0), some (.inl 0)]) [true, true, true, true, true, true, true] rfl ?_
    exact xX11_begins_30 hK 4000 _ _ _ _ _ _ _ _ _ hf
  · rw [if_neg hc] at hf
    refine y_iconst (v := 1) dX11_begins_20 (by decide) ?_
    refine y_goto (tgt := 25) dX11_begins_21 (by decide) ?_
    refine y_istore (i := 5) (lv2 := [some (.inr (.inr (some a0))), some (.inl x1), some (.inl x2), some (.inl x3), some (.inl x4), some (.inl 1), none]) dX11_begins_25 (by decide) rfl ?_
    refine y_iconst (v := 0) dX11_begins_27 (by decide) ?_
    refine y_istore (i := 6) (lv2 := [some (.inr (.inr (some a0))), some (.inl x1), some (.inl x2), some (.inl x3), some (.inl x4), some (.inl 1), some (.inl 0)]) dX11_begins_28 (by decide) rfl ?_
    refine Y.weak (lv2 := [some (.inr (.inr (some a0))), some (.inl x1), some (.inl x2), some (.inl x3), some (.inl x4), some (.inl 1), some (.inl 0)]) [true, true, true, true, true, true, true] rfl ?_
    exact xX11_begins_30 hK 4000 _ _ _ _ _ _ _ _ _ hf
set_option maxRecDepth 100000 in
theorem dX11_canAdapt_0 : decode prog_13_method_12_code 0 = .ok (.iload_n 0, 1) := by decide +kernel
set_option maxRecDepth 100000 in
theorem dX11_canAdapt_1 : decode prog_13_method_12_code 1 = .ok (.iload_n 1, 1) := by decide +kernel
set_option maxRecDepth 100000 in
theorem dX11_canAdapt_2 : decode prog_13_method_12_code 2 = .ok (.if_icmp .eq 51, 3) := by decide +kernel
set_option maxRecDepth 100000 in
theorem dX11_canAdapt_5 : decode prog_13_method_12_code 5 = .ok (.iload_n 1, 1) := by decide +kernel
set_option maxRecDepth 100000 in
theorem dX11_canAdapt_6 : decode prog_13_method_12_code 6 = .ok (.iconst 4, 1) := by decide +kernel
set_option maxRecDepth 100000 in
theorem dX11_canAdapt_7 : decode prog_13_method_12_code 7 = .ok (.if_icmp .eq 46, 3) := by decide +kernel
set_option maxRecDepth 100000 in
theorem dX11_canAdapt_10 : decode prog_13_method_12_code 10 = .ok (.iload_n 0, 1) := by decide +kernel
set_option maxRecDepth 100000 in
theorem dX11_canAdapt_11 : decode prog_13_method_12_code 11 = .ok (.iconst 4, 1) := by decide +kernel
set_option maxRecDepth 100000 in
theorem dX11_canAdapt_12 : decode prog_13_method_12_code 12 = .ok (.if_icmp .eq 41, 3) := by decide +kernel
set_option maxRecDepth 100000 in
theorem dX11_canAdapt_15 : decode prog_13_method_12_code 15 = .ok (.iload_n 0, 1) := by decide +kernel
set_option maxRecDepth 100000 in
theorem dX11_canAdapt_16 : decode prog_13_method_12_code 16 = .ok (.ifCond .ne 13, 3) := by decide +kernel
set_option maxRecDepth 100000 in
theorem dX11_canAdapt_19 : decode prog_13_method_12_code 19 = .ok (.iload_n 1, 1) := by decide +kernel
set_option maxRecDepth 100000 in
theorem dX11_canAdapt_20 : decode prog_13_method_12_code 20 = .ok (.iconst 1, 1) := by decide +kernel
set_option maxRecDepth 100000 in
theorem dX11_canAdapt_21 : decode prog_13_method_12_code 21 = .ok (.if_icmp .eq 32, 3) := by decide +kernel
set_option maxRecDepth 100000 in
theorem dX11_canAdapt_24 : decode prog_13_method_12_code 24 = .ok (.iload_n 1, 1) := by decide +kernel
set_option maxRecDepth 100000 in
theorem dX11_canAdapt_25 : decode prog_13_method_12_code 25 = .ok (.iconst 2, 1) := by decide +kernel
set_option maxRecDepth 100000 in
theorem dX11_canAdapt_26 : decode prog_13_method_12_code 26 = .ok (.if_icmp .eq 27, 3) := by decide +kernel
set_option maxRecDepth 100000 in
theorem dX11_canAdapt_29 : decode prog_13_method_12_code 29 = .ok (.iload_n 0, 1) := by decide +kernel
set_option maxRecDepth 100000 in
theorem dX11_canAdapt_30 : decode prog_13_method_12_code 30 = .ok (.iconst 1, 1) := by decide +kernel
set_option maxRecDepth 100000 in
theorem dX11_canAdapt_31 : decode prog_13_method_12_code 31 = .ok (.if_icmp .ne 8, 3) := by decide +kernel
set_option maxRecDepth 100000 in
theorem dX11_canAdapt_34 : decode prog_13_method_12_code 34 = .ok (.iload_n 1, 1) := by decide +kernel
set_option maxRecDepth 100000 in
theorem dX11_canAdapt_35 : decode prog_13_method_12_code 35 = .ok (.iconst 2, 1) := by decide +kernel
set_option maxRecDepth 100000 in
theorem dX11_canAdapt_36 : decode prog_13_method_12_code 36 = .ok (.if_icmp .eq 17, 3) := by decide +kernel
set_option maxRecDepth 100000 in
theorem dX11_canAdapt_39 : decode prog_13_method_12_code 39 = .ok (.iload_n 0, 1) := by decide +kernel
set_option maxRecDepth 100000 in
theorem dX11_canAdapt_40 : decode prog_13_method_12_code 40 = .ok (.iconst 2, 1) := by decide +kernel
set_option maxRecDepth 100000 in
theorem dX11_canAdapt_41 : decode prog_13_method_12_code 41 = .ok (.if_icmp .ne 16, 3) := by decide +kernel
set_option maxRecDepth 100000 in
theorem dX11_canAdapt_44 : decode prog_13_method_12_code 44 = .ok (.iload_n 1, 1) := by decide +kernel
set_option maxRecDepth 100000 in
theorem dX11_canAdapt_45 : decode prog_13_method_12_code 45 = .ok (.ifCond .eq 8, 3) := by decide +kernel
set_option maxRecDepth 100000 in
theorem dX11_canAdapt_48 : decode prog_13_method_12_code 48 = .ok (.iload_n 1, 1) := by decide +kernel
set_option maxRecDepth 100000 in
theorem dX11_canAdapt_49 : decode prog_13_method_12_code 49 = .ok (.iconst 1, 1) := by decide +kernel
set_option maxRecDepth 100000 in
theorem dX11_canAdapt_50 : decode prog_13_method_12_code 50 = .ok (.if_icmp .ne 7, 3) := by decide +kernel
set_option maxRecDepth 100000 in
theorem dX11_canAdapt_53 : decode prog_13_method_12_code 53 = .ok (.iconst 1, 1) := by decide +kernel
set_option maxRecDepth 100000 in
theorem dX11_canAdapt_54 : decode prog_13_method_12_code 54 = .ok (.goto 4, 3) := by decide +kernel
set_option maxRecDepth 100000 in
theorem dX11_canAdapt_57 : decode prog_13_method_12_code 57 = .ok (.iconst 0, 1) := by decide +kernel
set_option maxRecDepth 100000 in
theorem dX11_canAdapt_58 : decode prog_13_method_12_code 58 = .ok (.ireturn, 1) := by decide +kernel

def fX11_canAdapt_39 (z : Nat → Nat) (x0 : Int32) (x1 : Int32) (h : aH) : Option (Int32 × aH) :=
  (if x0 = 2 then
  (if x1 = 0 then
  some (1, h)
  else
  (if x1 = 1 then
  some (1, h)
  else
  some (0, h)))
  else
  some (0, h))
set_option maxHeartbeats 4000000 in
set_option maxRecDepth 100000 in
theorem xX11_canAdapt_39 {l : Launch} {g : aG} {d : Nat} (hK : 0 ≤ d) {x0 : Int32} {x1 : Int32} {h : aH} {q : Int32 × aH} (hf : fX11_canAdapt_39 g.2.2 x0 x1 h = some q) : Y l g miX11_canAdapt d 39 [some (.inl x0), some (.inl x1)] [] h (some (.inl q.1), q.2) := by
  unfold fX11_canAdapt_39 at hf
  refine y_iload_n (i := 0) dX11_canAdapt_39 rfl rfl ?_
  refine y_iconst (v := 2) dX11_canAdapt_40 (by decide) ?_
  refine y_icmp_ne (tgt := 57) dX11_canAdapt_41 (by decide) (fun hc => ?_) (fun hc => ?_)
  · rw [if_neg hc] at hf
    refine y_iconst (v := 0) dX11_canAdapt_57 (by decide) ?_
    obtain rfl := Option.some.inj hf
    exact y_ret (v := some (.inl 0)) dX11_canAdapt_58 rfl
  · rw [if_pos hc] at hf
    refine y_iload_n (i := 1) dX11_canAdapt_44 rfl rfl ?_
    refine y_if_eq (tgt := 53) dX11_canAdapt_45 (by decide) (fun hc => ?_) (fun hc => ?_)
    · rw [if_pos hc] at hf
      refine y_iconst (v := 1) dX11_canAdapt_53 (by decide) ?_
      refine y_goto (tgt := 58) dX11_canAdapt_54 (by decide) ?_
      obtain rfl := Option.some.inj hf
      exact y_ret (v := some (.inl 1)) dX11_canAdapt_58 rfl
    · rw [if_neg hc] at hf
      refine y_iload_n (i := 1) dX11_canAdapt_48 rfl rfl ?_
      refine y_iconst (v := 1) dX11_canAdapt_49 (by decide) ?_
      refine y_icmp_ne (tgt := 57) dX11_canAdapt_50 (by decide) (fun hc => ?_) (fun hc => ?_)
      · rw [if_neg hc] at hf
        refine y_iconst (v := 0) dX11_canAdapt_57 (by decide) ?_
        obtain rfl := Option.some.inj hf
        exact y_ret (v := some (.inl 0)) dX11_canAdapt_58 rfl
      · rw [if_pos hc] at hf
        refine y_iconst (v := 1) dX11_canAdapt_53 (by decide) ?_
        refine y_goto (tgt := 58) dX11_canAdapt_54 (by decide) ?_
        obtain rfl := Option.some.inj hf
        exact y_ret (v := some (.inl 1)) dX11_canAdapt_58 rfl
def fX11_canAdapt_29 (z : Nat → Nat) (x0 : Int32) (x1 : Int32) (h : aH) : Option (Int32 × aH) :=
  (if x0 = 1 then
  (if x1 = 2 then
  some (1, h)
  else
  fX11_canAdapt_39 z x0 x1 h)
  else
  fX11_canAdapt_39 z x0 x1 h)
set_option maxHeartbeats 4000000 in
set_option maxRecDepth 100000 in
theorem xX11_canAdapt_29 {l : Launch} {g : aG} {d : Nat} (hK : 0 ≤ d) {x0 : Int32} {x1 : Int32} {h : aH} {q : Int32 × aH} (hf : fX11_canAdapt_29 g.2.2 x0 x1 h = some q) : Y l g miX11_canAdapt d 29 [some (.inl x0), some (.inl x1)] [] h (some (.inl q.1), q.2) := by
  unfold fX11_canAdapt_29 at hf
  refine y_iload_n (i := 0) dX11_canAdapt_29 rfl rfl ?_
  refine y_iconst (v := 1) dX11_canAdapt_30 (by decide) ?_
  refine y_icmp_ne (tgt := 39) dX11_canAdapt_31 (by decide) (fun hc => ?_) (fun hc => ?_)
  · rw [if_neg hc] at hf
    refine Y.weak (lv2 := [some (.inl x0), some (.inl x1)]) [true, true] rfl ?_
    exact xX11_canAdapt_39 hK hf
  · rw [if_pos hc] at hf
    refine y_iload_n (i := 1) dX11_canAdapt_34 rfl rfl ?_
    refine y_iconst (v := 2) dX11_canAdapt_35 (by decide) ?_
    refine y_icmp_eq (tgt := 53) dX11_canAdapt_36 (by decide) (fun hc => ?_) (fun hc => ?_)
    · rw [if_pos hc] at hf
      refine y_iconst (v := 1) dX11_canAdapt_53 (by decide) ?_
      refine y_goto (tgt := 58) dX11_canAdapt_54 (by decide) ?_
      obtain rfl := Option.some.inj hf
      exact y_ret (v := some (.inl 1)) dX11_canAdapt_58 rfl
    · rw [if_neg hc] at hf
      refine Y.weak (lv2 := [some (.inl x0), some (.inl x1)]) [true, true] rfl ?_
      exact xX11_canAdapt_39 hK hf
def fX11_canAdapt_e (z : Nat → Nat) (x0 : Int32) (x1 : Int32) (h : aH) : Option (Int32 × aH) :=
  (if x0 = x1 then
  some (1, h)
  else
  (if x1 = 4 then
  some (1, h)
  else
  (if x0 = 4 then
  some (1, h)
  else
  (if x0 = 0 then
  (if x1 = 1 then
  some (1, h)
  else
  (if x1 = 2 then
  some (1, h)
  else
  fX11_canAdapt_29 z x0 x1 h))
  else
  fX11_canAdapt_29 z x0 x1 h))))
def fX11_canAdapt (z : Nat → Nat) (x0 : Int32) (x1 : Int32) (h : aH) : Option (Int32 × aH) := chkB (fX11_canAdapt_e z x0 x1 h)
set_option maxHeartbeats 4000000 in
set_option maxRecDepth 100000 in
theorem xX11_canAdapt {l : Launch} {g : aG} {d : Nat} (hK : 0 ≤ d) {x0 : Int32} {x1 : Int32} {h : aH} {q : Int32 × aH} (hf : fX11_canAdapt g.2.2 x0 x1 h = some q) : Ev l g miX11_canAdapt d [.inl x0, .inl x1] h (some (.inl q.1), q.2) := by
  replace hf := chkB_spec hf
  obtain ⟨hf, hb⟩ := hf
  refine ⟨?_, Or.inr ⟨rfl, hb⟩, Nat.le_of_ble_eq_true rfl⟩
  unfold fX11_canAdapt_e at hf
  show Y l g miX11_canAdapt d 0 [some (.inl x0), some (.inl x1)] [] h _
  refine y_iload_n (i := 0) dX11_canAdapt_0 rfl rfl ?_
  refine y_iload_n (i := 1) dX11_canAdapt_1 rfl rfl ?_
  refine y_icmp_eq (tgt := 53) dX11_canAdapt_2 (by decide) (fun hc => ?_) (fun hc => ?_)
  · rw [if_pos hc] at hf
    refine y_iconst (v := 1) dX11_canAdapt_53 (by decide) ?_
    refine y_goto (tgt := 58) dX11_canAdapt_54 (by decide) ?_
    obtain rfl := Option.some.inj hf
    exact y_ret (v := some (.inl 1)) dX11_canAdapt_58 rfl
  · rw [if_neg hc] at hf
    refine y_iload_n (i := 1) dX11_canAdapt_5 rfl rfl ?_
    refine y_iconst (v := 4) dX11_canAdapt_6 (by decide) ?_
    refine y_icmp_eq (tgt := 53) dX11_canAdapt_7 (by decide) (fun hc => ?_) (fun hc => ?_)
    · rw [if_pos hc] at hf
      refine y_iconst (v := 1) dX11_canAdapt_53 (by decide) ?_
      refine y_goto (tgt := 58) dX11_canAdapt_54 (by decide) ?_
      obtain rfl := Option.some.inj hf
      exact y_ret (v := some (.inl 1)) dX11_canAdapt_58 rfl
    · rw [if_neg hc] at hf
      refine y_iload_n (i := 0) dX11_canAdapt_10 rfl rfl ?_
      refine y_iconst (v := 4) dX11_canAdapt_11 (by decide) ?_
      refine y_icmp_eq (tgt := 53) dX11_canAdapt_12 (by decide) (fun hc => ?_) (fun hc => ?_)
      · rw [if_pos hc] at hf
        refine y_iconst (v := 1) dX11_canAdapt_53 (by decide) ?_
        refine y_goto (tgt := 58) dX11_canAdapt_54 (by decide) ?_
        obtain rfl := Option.some.inj hf
        exact y_ret (v := some (.inl 1)) dX11_canAdapt_58 rfl
      · rw [if_neg hc] at hf
        refine y_iload_n (i := 0) dX11_canAdapt_15 rfl rfl ?_
        refine y_if_ne (tgt := 29) dX11_canAdapt_16 (by decide) (fun hc => ?_) (fun hc => ?_)
        · rw [if_neg hc] at hf
          refine Y.weak (lv2 := [some (.inl x0), some (.inl x1)]) [true, true] rfl ?_
          exact xX11_canAdapt_29 hK hf
        · rw [if_pos hc] at hf
          refine y_iload_n (i := 1) dX11_canAdapt_19 rfl rfl ?_
          refine y_iconst (v := 1) dX11_canAdapt_20 (by decide) ?_
          refine y_icmp_eq (tgt := 53) dX11_canAdapt_21 (by decide) (fun hc => ?_) (fun hc => ?_)
          · rw [if_pos hc] at hf
            refine y_iconst (v := 1) dX11_canAdapt_53 (by decide) ?_
            refine y_goto (tgt := 58) dX11_canAdapt_54 (by decide) ?_
            obtain rfl := Option.some.inj hf
            exact y_ret (v := some (.inl 1)) dX11_canAdapt_58 rfl
          · rw [if_neg hc] at hf
            refine y_iload_n (i := 1) dX11_canAdapt_24 rfl rfl ?_
            refine y_iconst (v := 2) dX11_canAdapt_25 (by decide) ?_
            refine y_icmp_eq (tgt := 53) dX11_canAdapt_26 (by decide) (fun hc => ?_) (fun hc => ?_)
            · rw [if_pos hc] at hf
              refine y_iconst (v := 1) dX11_canAdapt_53 (by decide) ?_
              refine y_goto (tgt := 58) dX11_canAdapt_54 (by decide) ?_
              obtain rfl := Option.some.inj hf
              exact y_ret (v := some (.inl 1)) dX11_canAdapt_58 rfl
            · rw [if_neg hc] at hf
              refine Y.weak (lv2 := [some (.inl x0), some (.inl x1)]) [true, true] rfl ?_
              exact xX11_canAdapt_29 hK hf
set_option maxRecDepth 100000 in
theorem dX11_comes_0 : decode prog_13_method_27_code 0 = .ok (.aload_n 0, 1) := by decide +kernel
set_option maxRecDepth 100000 in
theorem dX11_comes_1 : decode prog_13_method_27_code 1 = .ok (.iconst 0, 1) := by decide +kernel
set_option maxRecDepth 100000 in
theorem dX11_comes_2 : decode prog_13_method_27_code 2 = .ok (.putfield 173, 3) := by decide +kernel
set_option maxRecDepth 100000 in
theorem dX11_comes_5 : decode prog_13_method_27_code 5 = .ok (.aload_n 0, 1) := by decide +kernel
set_option maxRecDepth 100000 in
theorem dX11_comes_6 : decode prog_13_method_27_code 6 = .ok (.iload_n 1, 1) := by decide +kernel
set_option maxRecDepth 100000 in
theorem dX11_comes_7 : decode prog_13_method_27_code 7 = .ok (.putfield 207, 3) := by decide +kernel
set_option maxRecDepth 100000 in
theorem dX11_comes_10 : decode prog_13_method_27_code 10 = .ok (.aload_n 0, 1) := by decide +kernel
set_option maxRecDepth 100000 in
theorem dX11_comes_11 : decode prog_13_method_27_code 11 = .ok (.lload_n 2, 1) := by decide +kernel
set_option maxRecDepth 100000 in
theorem dX11_comes_12 : decode prog_13_method_27_code 12 = .ok (.putfield 210, 3) := by decide +kernel
set_option maxRecDepth 100000 in
theorem dX11_comes_15 : decode prog_13_method_27_code 15 = .ok (.return_, 1) := by decide +kernel
set_option maxRecDepth 100000 in
theorem fl11_173 : ∀ c ∈ ([9] : List Nat), FL "HandleModelsModel" 173 c 29 := fun c hc => by
  cases List.mem_singleton.mp hc
  exact ⟨_, "HandleModelsModel", rfl, by decide, (gd_of 757 rfl rfl), Or.inl rfl⟩
set_option maxRecDepth 100000 in
theorem pl11_173_m {mi : aM} {x : Int32} (ho : "HandleModelsModel" = mi.1.cls) : ∀ c ∈ ([9] : List Nat), FL mi.1.cls 173 c 29 ∧ FT c 29 (.inl x) ∧ FW mi c 29 := fun c h9 => by
  have h8 := fl11_173 c h9
  rw [← ho]
  refine ⟨h8, ?_⟩
  simp only [List.mem_cons, List.not_mem_nil, or_false] at h9
  rcases h9 with rfl
  · exact ⟨ft_int rfl (by decide +kernel), ⟨_, rfl, Or.inl rfl⟩⟩
set_option maxRecDepth 100000 in
theorem fl11_207 : ∀ c ∈ ([9] : List Nat), FL "HandleModelsModel" 207 c 30 := fun c hc => by
  cases List.mem_singleton.mp hc
  exact ⟨_, "HandleModelsModel", rfl, by decide, (gd_of 758 rfl rfl), Or.inl rfl⟩
set_option maxRecDepth 100000 in
theorem pl11_207_m {mi : aM} {x : Int32} (ho : "HandleModelsModel" = mi.1.cls) : ∀ c ∈ ([9] : List Nat), FL mi.1.cls 207 c 30 ∧ FT c 30 (.inl x) ∧ FW mi c 30 := fun c h9 => by
  have h8 := fl11_207 c h9
  rw [← ho]
  refine ⟨h8, ?_⟩
  simp only [List.mem_cons, List.not_mem_nil, or_false] at h9
  rcases h9 with rfl
  · exact ⟨ft_int rfl (by decide +kernel), ⟨_, rfl, Or.inl rfl⟩⟩
set_option maxRecDepth 100000 in
theorem fl11_210 : ∀ c ∈ ([9] : List Nat), FL "HandleModelsModel" 210 c 31 := fun c hc => by
  cases List.mem_singleton.mp hc
  exact ⟨_, "HandleModelsModel", rfl, by decide, (gd_of 759 rfl rfl), Or.inl rfl⟩
set_option maxRecDepth 100000 in
theorem pl11_210_m {mi : aM} {x : Int64} (ho : "HandleModelsModel" = mi.1.cls) : ∀ c ∈ ([9] : List Nat), FL mi.1.cls 210 c 31 ∧ FT c 31 (.inr (.inl x)) ∧ FW mi c 31 := fun c h9 => by
  have h8 := fl11_210 c h9
  rw [← ho]
  refine ⟨h8, ?_⟩
  simp only [List.mem_cons, List.not_mem_nil, or_false] at h9
  rcases h9 with rfl
  · exact ⟨ft_long rfl (by decide +kernel), ⟨_, rfl, Or.inl rfl⟩⟩
def fX11_comes (z : Nat → Nat) (a0 : Nat) (x1 : Int32) (j2 : Int64) (h : aH) : Option aH :=
  (wrF h a0 [9] 29 (.inl 0)).bind fun h101 =>
  (wrF h101 a0 [9] 30 (.inl x1)).bind fun h102 =>
  (wrF h102 a0 [9] 31 (.inr (.inl j2))).bind fun h103 =>
  some h103
set_option maxHeartbeats 4000000 in
set_option maxRecDepth 100000 in
theorem xX11_comes {l : Launch} {g : aG} {d : Nat} (hK : 0 ≤ d) {a0 : Nat} {x1 : Int32} {j2 : Int64} {h : aH} {q : aH} (hf : fX11_comes g.2.2 a0 x1 j2 h = some q) : Ev l g miX11_comes d [.inr (.inr (some a0)), .inl x1, .inr (.inl j2)] h (none, q) := by
  refine ⟨?_, rfl, Nat.le_of_ble_eq_true rfl⟩
  unfold fX11_comes at hf
  show Y l g miX11_comes d 0 [some (.inr (.inr (some a0))), some (.inl x1), some (.inr (.inl j2)), none] [] h _
  refine y_aload_n (i := 0) dX11_comes_0 rfl rfl ?_
  refine y_iconst (v := 0) dX11_comes_1 (by decide) ?_
  replace hf := bnd hf
  obtain ⟨h101, eh101, hf⟩ := hf
  refine y_put eh101 (pl11_173_m rfl) dX11_comes_2 ?_
  refine y_aload_n (i := 0) dX11_comes_5 rfl rfl ?_
  refine y_iload_n (i := 1) dX11_comes_6 rfl rfl ?_
  replace hf := bnd hf
  obtain ⟨h102, eh102, hf⟩ := hf
  refine y_put eh102 (pl11_207_m rfl) dX11_comes_7 ?_
  refine y_aload_n (i := 0) dX11_comes_10 rfl rfl ?_
  refine y_lload_n (i := 2) dX11_comes_11 rfl rfl ?_
  replace hf := bnd hf
  obtain ⟨h103, eh103, hf⟩ := hf
  refine y_put eh103 (pl11_210_m rfl) dX11_comes_12 ?_
  obtain rfl := Option.some.inj hf
  exact y_ret (v := none) dX11_comes_15 rfl
set_option maxRecDepth 100000 in
theorem dX11_adapt_0 : decode prog_13_method_28_code 0 = .ok (.aload_n 0, 1) := by decide +kernel
set_option maxRecDepth 100000 in
theorem dX11_adapt_1 : decode prog_13_method_28_code 1 = .ok (.iload_n 3, 1) := by decide +kernel
set_option maxRecDepth 100000 in
theorem dX11_adapt_2 : decode prog_13_method_28_code 2 = .ok (.lload 4, 2) := by decide +kernel
set_option maxRecDepth 100000 in
theorem dX11_adapt_4 : decode prog_13_method_28_code 4 = .ok (.invokevirtual 223, 3) := by decide +kernel
set_option maxRecDepth 100000 in
theorem dX11_adapt_7 : decode prog_13_method_28_code 7 = .ok (.iload_n 1, 1) := by decide +kernel
set_option maxRecDepth 100000 in
theorem dX11_adapt_8 : decode prog_13_method_28_code 8 = .ok (.iload_n 2, 1) := by decide +kernel
set_option maxRecDepth 100000 in
theorem dX11_adapt_9 : decode prog_13_method_28_code 9 = .ok (.if_icmp .ne 4, 3) := by decide +kernel
set_option maxRecDepth 100000 in
theorem dX11_adapt_12 : decode prog_13_method_28_code 12 = .ok (.return_, 1) := by decide +kernel
set_option maxRecDepth 100000 in
theorem dX11_adapt_13 : decode prog_13_method_28_code 13 = .ok (.iload_n 2, 1) := by decide +kernel
set_option maxRecDepth 100000 in
theorem dX11_adapt_14 : decode prog_13_method_28_code 14 = .ok (.iconst 4, 1) := by decide +kernel
set_option maxRecDepth 100000 in
theorem dX11_adapt_15 : decode prog_13_method_28_code 15 = .ok (.if_icmp .ne 12, 3) := by decide +kernel
set_option maxRecDepth 100000 in
theorem dX11_adapt_18 : decode prog_13_method_28_code 18 = .ok (.aload_n 0, 1) := by decide +kernel
set_option maxRecDepth 100000 in
theorem dX11_adapt_19 : decode prog_13_method_28_code 19 = .ok (.iconst 3, 1) := by decide +kernel
set_option maxRecDepth 100000 in
theorem dX11_adapt_20 : decode prog_13_method_28_code 20 = .ok (.lconst 0, 1) := by decide +kernel
set_option maxRecDepth 100000 in
theorem dX11_adapt_21 : decode prog_13_method_28_code 21 = .ok (.invokevirtual 223, 3) := by decide +kernel
set_option maxRecDepth 100000 in
theorem dX11_adapt_24 : decode prog_13_method_28_code 24 = .ok (.goto 84, 3) := by decide +kernel
set_option maxRecDepth 100000 in
theorem dX11_adapt_27 : decode prog_13_method_28_code 27 = .ok (.iload_n 1, 1) := by decide +kernel
set_option maxRecDepth 100000 in
theorem dX11_adapt_28 : decode prog_13_method_28_code 28 = .ok (.iconst 4, 1) := by decide +kernel
set_option maxRecDepth 100000 in
theorem dX11_adapt_29 : decode prog_13_method_28_code 29 = .ok (.if_icmp .ne 29, 3) := by decide +kernel
set_option maxRecDepth 100000 in
theorem dX11_adapt_32 : decode prog_13_method_28_code 32 = .ok (.aload_n 0, 1) := by decide +kernel
set_option maxRecDepth 100000 in
theorem dX11_adapt_33 : decode prog_13_method_28_code 33 = .ok (.iload_n 2, 1) := by decide +kernel
set_option maxRecDepth 100000 in
theorem dX11_adapt_34 : decode prog_13_method_28_code 34 = .ok (.ifCond .ne 7, 3) := by decide +kernel
set_option maxRecDepth 100000 in
theorem dX11_adapt_37 : decode prog_13_method_28_code 37 = .ok (.iconst 0, 1) := by decide +kernel
set_option maxRecDepth 100000 in
theorem dX11_adapt_38 : decode prog_13_method_28_code 38 = .ok (.goto 13, 3) := by decide +kernel
set_option maxRecDepth 100000 in
theorem dX11_adapt_41 : decode prog_13_method_28_code 41 = .ok (.iload_n 2, 1) := by decide +kernel
set_option maxRecDepth 100000 in
theorem dX11_adapt_42 : decode prog_13_method_28_code 42 = .ok (.iconst 1, 1) := by decide +kernel
set_option maxRecDepth 100000 in
theorem dX11_adapt_43 : decode prog_13_method_28_code 43 = .ok (.if_icmp .ne 7, 3) := by decide +kernel
set_option maxRecDepth 100000 in
theorem dX11_adapt_46 : decode prog_13_method_28_code 46 = .ok (.iconst 1, 1) := by decide +kernel
set_option maxRecDepth 100000 in
theorem dX11_adapt_47 : decode prog_13_method_28_code 47 = .ok (.goto 4, 3) := by decide +kernel
set_option maxRecDepth 100000 in
theorem dX11_adapt_50 : decode prog_13_method_28_code 50 = .ok (.iconst 3, 1) := by decide +kernel
set_option maxRecDepth 100000 in
theorem dX11_adapt_51 : decode prog_13_method_28_code 51 = .ok (.lconst 0, 1) := by decide +kernel
set_option maxRecDepth 100000 in
theorem dX11_adapt_52 : decode prog_13_method_28_code 52 = .ok (.invokevirtual 223, 3) := by decide +kernel
set_option maxRecDepth 100000 in
theorem dX11_adapt_55 : decode prog_13_method_28_code 55 = .ok (.goto 53, 3) := by decide +kernel
set_option maxRecDepth 100000 in
theorem dX11_adapt_58 : decode prog_13_method_28_code 58 = .ok (.iload_n 1, 1) := by decide +kernel
set_option maxRecDepth 100000 in
theorem dX11_adapt_59 : decode prog_13_method_28_code 59 = .ok (.iconst 2, 1) := by decide +kernel
set_option maxRecDepth 100000 in
theorem dX11_adapt_60 : decode prog_13_method_28_code 60 = .ok (.if_icmp .ne 38, 3) := by decide +kernel
set_option maxRecDepth 100000 in
theorem dX11_adapt_63 : decode prog_13_method_28_code 63 = .ok (.aload_n 0, 1) := by decide +kernel
set_option maxRecDepth 100000 in
theorem dX11_adapt_64 : decode prog_13_method_28_code 64 = .ok (.iload_n 3, 1) := by decide +kernel
set_option maxRecDepth 100000 in
theorem dX11_adapt_65 : decode prog_13_method_28_code 65 = .ok (.iconst 3, 1) := by decide +kernel
set_option maxRecDepth 100000 in
theorem dX11_adapt_66 : decode prog_13_method_28_code 66 = .ok (.if_icmp .ne 7, 3) := by decide +kernel
set_option maxRecDepth 100000 in
theorem dX11_adapt_69 : decode prog_13_method_28_code 69 = .ok (.iconst 3, 1) := by decide +kernel
set_option maxRecDepth 100000 in
theorem dX11_adapt_70 : decode prog_13_method_28_code 70 = .ok (.goto 17, 3) := by decide +kernel
set_option maxRecDepth 100000 in
theorem dX11_adapt_73 : decode prog_13_method_28_code 73 = .ok (.iload_n 2, 1) := by decide +kernel
set_option maxRecDepth 100000 in
theorem dX11_adapt_74 : decode prog_13_method_28_code 74 = .ok (.ifCond .ne 12, 3) := by decide +kernel
set_option maxRecDepth 100000 in
theorem dX11_adapt_77 : decode prog_13_method_28_code 77 = .ok (.iload_n 3, 1) := by decide +kernel
set_option maxRecDepth 100000 in
theorem dX11_adapt_78 : decode prog_13_method_28_code 78 = .ok (.iconst 1, 1) := by decide +kernel
set_option maxRecDepth 100000 in
theorem dX11_adapt_79 : decode prog_13_method_28_code 79 = .ok (.if_icmp .ne 7, 3) := by decide +kernel
set_option maxRecDepth 100000 in
theorem dX11_adapt_82 : decode prog_13_method_28_code 82 = .ok (.iconst 2, 1) := by decide +kernel
set_option maxRecDepth 100000 in
theorem dX11_adapt_83 : decode prog_13_method_28_code 83 = .ok (.goto 4, 3) := by decide +kernel
set_option maxRecDepth 100000 in
theorem dX11_adapt_86 : decode prog_13_method_28_code 86 = .ok (.iconst 0, 1) := by decide +kernel
set_option maxRecDepth 100000 in
theorem dX11_adapt_87 : decode prog_13_method_28_code 87 = .ok (.putfield 173, 3) := by decide +kernel
set_option maxRecDepth 100000 in
theorem dX11_adapt_90 : decode prog_13_method_28_code 90 = .ok (.aload_n 0, 1) := by decide +kernel
set_option maxRecDepth 100000 in
theorem dX11_adapt_91 : decode prog_13_method_28_code 91 = .ok (.iload_n 2, 1) := by decide +kernel
set_option maxRecDepth 100000 in
theorem dX11_adapt_92 : decode prog_13_method_28_code 92 = .ok (.putfield 207, 3) := by decide +kernel
set_option maxRecDepth 100000 in
theorem dX11_adapt_95 : decode prog_13_method_28_code 95 = .ok (.goto 13, 3) := by decide +kernel
set_option maxRecDepth 100000 in
theorem dX11_adapt_98 : decode prog_13_method_28_code 98 = .ok (.iload_n 2, 1) := by decide +kernel
set_option maxRecDepth 100000 in
theorem dX11_adapt_99 : decode prog_13_method_28_code 99 = .ok (.iconst 1, 1) := by decide +kernel
set_option maxRecDepth 100000 in
theorem dX11_adapt_100 : decode prog_13_method_28_code 100 = .ok (.if_icmp .ne 8, 3) := by decide +kernel
set_option maxRecDepth 100000 in
theorem dX11_adapt_103 : decode prog_13_method_28_code 103 = .ok (.aload_n 0, 1) := by decide +kernel
set_option maxRecDepth 100000 in
theorem dX11_adapt_104 : decode prog_13_method_28_code 104 = .ok (.iconst 1, 1) := by decide +kernel
set_option maxRecDepth 100000 in
theorem dX11_adapt_105 : decode prog_13_method_28_code 105 = .ok (.putfield 207, 3) := by decide +kernel
set_option maxRecDepth 100000 in
theorem dX11_adapt_108 : decode prog_13_method_28_code 108 = .ok (.return_, 1) := by decide +kernel
set_option maxRecDepth 100000 in
theorem okX11_comes : mOk miX11_comes 2 := ⟨(gd_of 943 rfl rfl), (gd_of 76 rfl rfl), by decide +kernel, ⟨by decide +kernel, by decide +kernel, by decide +kernel⟩, by decide⟩
def fX11_adapt (z : Nat → Nat) (a0 : Nat) (x1 : Int32) (x2 : Int32) (x3 : Int32) (j4 : Int64) (h : aH) : Option aH :=
  (obO h a0 9).bind fun fs102 =>
  (fX11_comes z a0 x3 j4 h).bind fun q101 =>
  (if x1 = x2 then
  some q101
  else
  (if x2 = 4 then
  (obO q101 a0 9).bind fun fs119 =>
  (fX11_comes z a0 3 0 q101).bind fun q118 =>
  some q118
  else
  (if x1 = 4 then
  (if x2 = 0 then
  (obO q101 a0 9).bind fun fs117 =>
  (fX11_comes z a0 0 0 q101).bind fun q116 =>
  some q116
  else
  (if x2 = 1 then
  (obO q101 a0 9).bind fun fs115 =>
  (fX11_comes z a0 1 0 q101).bind fun q114 =>
  some q114
  else
  (obO q101 a0 9).bind fun fs113 =>
  (fX11_comes z a0 3 0 q101).bind fun q112 =>
  some q112))
  else
  (if x1 = 2 then
  (if x3 = 3 then
  (wrF q101 a0 [9] 29 (.inl 3)).bind fun h110 =>
  (wrF h110 a0 [9] 30 (.inl x2)).bind fun h111 =>
  some h111
  else
  (if x2 = 0 then
  (if x3 = 1 then
  (wrF q101 a0 [9] 29 (.inl 2)).bind fun h108 =>
  (wrF h108 a0 [9] 30 (.inl x2)).bind fun h109 =>
  some h109
  else
  (wrF q101 a0 [9] 29 (.inl 0)).bind fun h106 =>
  (wrF h106 a0 [9] 30 (.inl x2)).bind fun h107 =>
  some h107)
  else
  (wrF q101 a0 [9] 29 (.inl 0)).bind fun h104 =>
  (wrF h104 a0 [9] 30 (.inl x2)).bind fun h105 =>
  some h105))
  else
  (if x2 = 1 then
  (wrF q101 a0 [9] 30 (.inl 1)).bind fun h103 =>
  some h103
  else
  some q101)))))
set_option maxHeartbeats 4000000 in
set_option maxRecDepth 100000 in
theorem xX11_adapt {l : Launch} {g : aG} {d : Nat} (hK : 1 ≤ d) {a0 : Nat} {x1 : Int32} {x2 : Int32} {x3 : Int32} {j4 : Int64} {h : aH} {q : aH} (hf : fX11_adapt g.2.2 a0 x1 x2 x3 j4 h = some q) : Ev l g miX11_adapt d [.inr (.inr (some a0)), .inl x1, .inl x2, .inl x3, .inr (.inl j4)] h (none, q) := by
  obtain ⟨d, rfl⟩ : ∃ e, d = e + 1 := ⟨d - 1, by omega⟩
  refine ⟨?_, rfl, Nat.le_of_ble_eq_true rfl⟩
  unfold fX11_adapt at hf
  show Y l g miX11_adapt (d + 1) 0 [some (.inr (.inr (some a0))), some (.inl x1), some (.inl x2), some (.inl x3), some (.inr (.inl j4)), none] [] h _
  refine y_aload_n (i := 0) dX11_adapt_0 rfl rfl ?_
  refine y_iload_n (i := 3) dX11_adapt_1 rfl rfl ?_
  refine y_lload (i := 4) dX11_adapt_2 rfl ?_
  replace hf := bnd hf
  obtain ⟨fs102, efs102, hf⟩ := hf
  replace hf := bnd hf
  obtain ⟨q101, eq101, hf⟩ := hf
  refine y_callV (mj := miX11_comes) (args := [.inl x3, .inr (.inl j4)]) (st := []) dX11_adapt_4 (gd_of 940 rfl rfl) (gd_of 942 rfl rfl) (gd_of 45 rfl rfl) okX11_comes (obO_spec efs102) rfl rfl (xX11_comes (by omega) eq101) (Nat.le_of_ble_eq_true rfl) rfl ?_
  show Y l g miX11_adapt (d + 1) 7 [some (.inr (.inr (some a0))), some (.inl x1), some (.inl x2), some (.inl x3), some (.inr (.inl j4)), none] [] q101 _
  refine y_iload_n (i := 1) dX11_adapt_7 rfl rfl ?_
  refine y_iload_n (i := 2) dX11_adapt_8 rfl rfl ?_
  refine y_icmp_ne (tgt := 13) dX11_adapt_9 (by decide) (fun hc => ?_) (fun hc => ?_)
  · rw [if_neg hc] at hf
    refine y_iload_n (i := 2) dX11_adapt_13 rfl rfl ?_
    refine y_iconst (v := 4) dX11_adapt_14 (by decide) ?_
    refine y_icmp_ne (tgt := 27) dX11_adapt_15 (by decide) (fun hc => ?_) (fun hc => ?_)
    · rw [if_neg hc] at hf
      refine y_iload_n (i := 1) dX11_adapt_27 rfl rfl ?_
      refine y_iconst (v := 4) dX11_adapt_28 (by decide) ?_
      refine y_icmp_ne (tgt := 58) dX11_adapt_29 (by decide) (fun hc => ?_) (fun hc => ?_)
      · rw [if_neg hc] at hf
        refine y_iload_n (i := 1) dX11_adapt_58 rfl rfl ?_
        refine y_iconst (v := 2) dX11_adapt_59 (by decide) ?_
        refine y_icmp_ne (tgt := 98) dX11_adapt_60 (by decide) (fun hc => ?_) (fun hc => ?_)
        · rw [if_neg hc] at hf
          refine y_iload_n (i := 2) dX11_adapt_98 rfl rfl ?_
          refine y_iconst (v := 1) dX11_adapt_99 (by decide) ?_
          refine y_icmp_ne (tgt := 108) dX11_adapt_100 (by decide) (fun hc => ?_) (fun hc => ?_)
          · rw [if_neg hc] at hf
            obtain rfl := Option.some.inj hf
            exact y_ret (v := none) dX11_adapt_108 rfl
          · rw [if_pos hc] at hf
            refine y_aload_n (i := 0) dX11_adapt_103 rfl rfl ?_
            refine y_iconst (v := 1) dX11_adapt_104 (by decide) ?_
            replace hf := bnd hf
            obtain ⟨h103, eh103, hf⟩ := hf
            refine y_put eh103 (pl11_207_m rfl) dX11_adapt_105 ?_
            obtain rfl := Option.some.inj hf
            exact y_ret (v := none) dX11_adapt_108 rfl
        · rw [if_pos hc] at hf
          refine y_aload_n (i := 0) dX11_adapt_63 rfl rfl ?_
          refine y_iload_n (i := 3) dX11_adapt_64 rfl rfl ?_
          refine y_iconst (v := 3) dX11_adapt_65 (by decide) ?_
          refine y_icmp_ne (tgt := 73) dX11_adapt_66 (by decide) (fun hc => ?_) (fun hc => ?_)
          · rw [if_neg hc] at hf
            refine y_iload_n (i := 2) dX11_adapt_73 rfl rfl ?_
            refine y_if_ne (tgt := 86) dX11_adapt_74 (by decide) (fun hc => ?_) (fun hc => ?_)
            · rw [if_neg hc] at hf
              refine y_iconst (v := 0) dX11_adapt_86 (by decide) ?_
              replace hf := bnd hf
              obtain ⟨h104, eh104, hf⟩ := hf
              refine y_put eh104 (pl11_173_m rfl) dX11_adapt_87 ?_
              refine y_aload_n (i := 0) dX11_adapt_90 rfl rfl ?_
              refine y_iload_n (i := 2) dX11_adapt_91 rfl rfl ?_
              replace hf := bnd hf
              obtain ⟨h105, eh105, hf⟩ := hf
              refine y_put eh105 (pl11_207_m rfl) dX11_adapt_92 ?_
              refine y_goto (tgt := 108) dX11_adapt_95 (by decide) ?_
              obtain rfl := Option.some.inj hf
              exact y_ret (v := none) dX11_adapt_108 rfl
            · rw [if_pos hc] at hf
              refine y_iload_n (i := 3) dX11_adapt_77 rfl rfl ?_
              refine y_iconst (v := 1) dX11_adapt_78 (by decide) ?_
              refine y_icmp_ne (tgt := 86) dX11_adapt_79 (by decide) (fun hc => ?_) (fun hc => ?_)
              · rw [if_neg hc] at hf
                refine y_iconst (v := 0) dX11_adapt_86 (by decide) ?_
                replace hf := bnd hf
                obtain ⟨h106, eh106, hf⟩ := hf
                refine y_put eh106 (pl11_173_m rfl) dX11_adapt_87 ?_
                refine y_aload_n (i := 0) dX11_adapt_90 rfl rfl ?_
                refine y_iload_n (i := 2) dX11_adapt_91 rfl rfl ?_
                replace hf := bnd hf
                obtain ⟨h107, eh107, hf⟩ := hf
                refine y_put eh107 (pl11_207_m rfl) dX11_adapt_92 ?_
                refine y_goto (tgt := 108) dX11_adapt_95 (by decide) ?_
                obtain rfl := Option.some.inj hf
                exact y_ret (v := none) dX11_adapt_108 rfl
              · rw [if_pos hc] at hf
                refine y_iconst (v := 2) dX11_adapt_82 (by decide) ?_
                refine y_goto (tgt := 87) dX11_adapt_83 (by decide) ?_
                replace hf := bnd hf
                obtain ⟨h108, eh108, hf⟩ := hf
                refine y_put eh108 (pl11_173_m rfl) dX11_adapt_87 ?_
                refine y_aload_n (i := 0) dX11_adapt_90 rfl rfl ?_
                refine y_iload_n (i := 2) dX11_adapt_91 rfl rfl ?_
                replace hf := bnd hf
                obtain ⟨h109, eh109, hf⟩ := hf
                refine y_put eh109 (pl11_207_m rfl) dX11_adapt_92 ?_
                refine y_goto (tgt := 108) dX11_adapt_95 (by decide) ?_
                obtain rfl := Option.some.inj hf
                exact y_ret (v := none) dX11_adapt_108 rfl
          · rw [if_pos hc] at hf
            refine y_iconst (v := 3) dX11_adapt_69 (by decide) ?_
            refine y_goto (tgt := 87) dX11_adapt_70 (by decide) ?_
            replace hf := bnd hf
            obtain ⟨h110, eh110, hf⟩ := hf
            refine y_put eh110 (pl11_173_m rfl) dX11_adapt_87 ?_
            refine y_aload_n (i := 0) dX11_adapt_90 rfl rfl ?_
            refine y_iload_n (i := 2) dX11_adapt_91 rfl rfl ?_
            replace hf := bnd hf
            obtain ⟨h111, eh111, hf⟩ := hf
            refine y_put eh111 (pl11_207_m rfl) dX11_adapt_92 ?_
            refine y_goto (tgt := 108) dX11_adapt_95 (by decide) ?_
            obtain rfl := Option.some.inj hf
            exact y_ret (v := none) dX11_adapt_108 rfl
      · rw [if_pos hc] at hf
        refine y_aload_n (i := 0) dX11_adapt_32 rfl rfl ?_
        refine y_iload_n (i := 2) dX11_adapt_33 rfl rfl ?_
        refine y_if_ne (tgt := 41) dX11_adapt_34 (by decide) (fun hc => ?_) (fun hc => ?_)
        · rw [if_neg hc] at hf
          refine y_iload_n (i := 2) dX11_adapt_41 rfl rfl ?_
          refine y_iconst (v := 1) dX11_adapt_42 (by decide) ?_
          refine y_icmp_ne (tgt := 50) dX11_adapt_43 (by decide) (fun hc => ?_) (fun hc => ?_)
          · rw [if_neg hc] at hf
            refine y_iconst (v := 3) dX11_adapt_50 (by decide) ?_
            refine y_lconst (v := 0) dX11_adapt_51 (by decide) ?_
            replace hf := bnd hf
            obtain ⟨fs113, efs113, hf⟩ := hf
            replace hf := bnd hf
            obtain ⟨q112, eq112, hf⟩ := hf
            refine y_callV (mj := miX11_comes) (args := [.inl 3, .inr (.inl 0)]) (st := []) dX11_adapt_52 (gd_of 940 rfl rfl) (gd_of 942 rfl rfl) (gd_of 45 rfl rfl) okX11_comes (obO_spec efs113) rfl rfl (xX11_comes (by omega) eq112) (Nat.le_of_ble_eq_true rfl) rfl ?_
            show Y l g miX11_adapt (d + 1) 55 [some (.inr (.inr (some a0))), some (.inl x1), some (.inl x2), some (.inl x3), some (.inr (.inl j4)), none] [] q112 _
            refine y_goto (tgt := 108) dX11_adapt_55 (by decide) ?_
            obtain rfl := Option.some.inj hf
            exact y_ret (v := none) dX11_adapt_108 rfl
          · rw [if_pos hc] at hf
            refine y_iconst (v := 1) dX11_adapt_46 (by decide) ?_
            refine y_goto (tgt := 51) dX11_adapt_47 (by decide) ?_
            refine y_lconst (v := 0) dX11_adapt_51 (by decide) ?_
            replace hf := bnd hf
            obtain ⟨fs115, efs115, hf⟩ := hf
            replace hf := bnd hf
            obtain ⟨q114, eq114, hf⟩ := hf
            refine y_callV (mj := miX11_comes) (args := [.inl 1, .inr (.inl 0)]) (st := []) dX11_adapt_52 (gd_of 940 rfl rfl) (gd_of 942 rfl rfl) (gd_of 45 rfl rfl) okX11_comes (obO_spec efs115) rfl rfl (xX11_comes (by omega) eq114) (Nat.le_of_ble_eq_true rfl) rfl ?_
            show Y l g miX11_adapt (d + 1) 55 [some (.inr (.inr (some a0))), some (.inl x1), some (.inl x2), some (.inl x3), some (.inr (.inl j4)), none] [] q114 _
            refine y_goto (tgt := 108) dX11_adapt_55 (by decide) ?_
            obtain rfl := Option.some.inj hf
            exact y_ret (v := none) dX11_adapt_108 rfl
        · rw [if_pos hc] at hf
          refine y_iconst (v := 0) dX11_adapt_37 (by decide) ?_
          refine y_goto (tgt := 51) dX11_adapt_38 (by decide) ?_
          refine y_lconst (v := 0) dX11_adapt_51 (by decide) ?_
          replace hf := bnd hf
          obtain ⟨fs117, efs117, hf⟩ := hf
          replace hf := bnd hf
          obtain ⟨q116, eq116, hf⟩ := hf
          refine y_callV (mj := miX11_comes) (args := [.inl 0, .inr (.inl 0)]) (st := []) dX11_adapt_52 (gd_of 940 rfl rfl) (gd_of 942 rfl rfl) (gd_of 45 rfl rfl) okX11_comes (obO_spec efs117) rfl rfl (xX11_comes (by omega) eq116) (Nat.le_of_ble_eq_true rfl) rfl ?_
          show Y l g miX11_adapt (d + 1) 55 [some (.inr (.inr (some a0))), some (.inl x1), some (.inl x2), some (.inl x3), some (.inr (.inl j4)), none] [] q116 _
          refine y_goto (tgt := 108) dX11_adapt_55 (by decide) ?_
          obtain rfl := Option.some.inj hf
          exact y_ret (v := none) dX11_adapt_108 rfl
    · rw [if_pos hc] at hf
      refine y_aload_n (i := 0) dX11_adapt_18 rfl rfl ?_
      refine y_iconst (v := 3) dX11_adapt_19 (by decide) ?_
      refine y_lconst (v := 0) dX11_adapt_20 (by decide) ?_
      replace hf := bnd hf
      obtain ⟨fs119, efs119, hf⟩ := hf
      replace hf := bnd hf
      obtain ⟨q118, eq118, hf⟩ := hf
      refine y_callV (mj := miX11_comes) (args := [.inl 3, .inr (.inl 0)]) (st := []) dX11_adapt_21 (gd_of 940 rfl rfl) (gd_of 942 rfl rfl) (gd_of 45 rfl rfl) okX11_comes (obO_spec efs119) rfl rfl (xX11_comes (by omega) eq118) (Nat.le_of_ble_eq_true rfl) rfl ?_
      show Y l g miX11_adapt (d + 1) 24 [some (.inr (.inr (some a0))), some (.inl x1), some (.inl x2), some (.inl x3), some (.inr (.inl j4)), none] [] q118 _
      refine y_goto (tgt := 108) dX11_adapt_24 (by decide) ?_
      obtain rfl := Option.some.inj hf
      exact y_ret (v := none) dX11_adapt_108 rfl
  · rw [if_pos hc] at hf
    obtain rfl := Option.some.inj hf
    exact y_ret (v := none) dX11_adapt_12 rfl
set_option maxRecDepth 100000 in
theorem dX11_typeOfValue_0 : decode prog_13_method_17_code 0 = .ok (.aload_n 0, 1) := by decide +kernel
set_option maxRecDepth 100000 in
theorem dX11_typeOfValue_1 : decode prog_13_method_17_code 1 = .ok (.getfield 63, 3) := by decide +kernel
set_option maxRecDepth 100000 in
theorem dX11_typeOfValue_4 : decode prog_13_method_17_code 4 = .ok (.iload_n 1, 1) := by decide +kernel
set_option maxRecDepth 100000 in
theorem dX11_typeOfValue_5 : decode prog_13_method_17_code 5 = .ok (.iaload, 1) := by decide +kernel
set_option maxRecDepth 100000 in
theorem dX11_typeOfValue_6 : decode prog_13_method_17_code 6 = .ok (.iconst 3, 1) := by decide +kernel
set_option maxRecDepth 100000 in
theorem dX11_typeOfValue_7 : decode prog_13_method_17_code 7 = .ok (.if_icmp .ne 16, 3) := by decide +kernel
set_option maxRecDepth 100000 in
theorem dX11_typeOfValue_10 : decode prog_13_method_17_code 10 = .ok (.iload_n 2, 1) := by decide +kernel
set_option maxRecDepth 100000 in
theorem dX11_typeOfValue_11 : decode prog_13_method_17_code 11 = .ok (.iconst 3, 1) := by decide +kernel
set_option maxRecDepth 100000 in
theorem dX11_typeOfValue_12 : decode prog_13_method_17_code 12 = .ok (.if_icmp .ne 7, 3) := by decide +kernel
set_option maxRecDepth 100000 in
theorem dX11_typeOfValue_15 : decode prog_13_method_17_code 15 = .ok (.iconst 3, 1) := by decide +kernel
set_option maxRecDepth 100000 in
theorem dX11_typeOfValue_16 : decode prog_13_method_17_code 16 = .ok (.goto 27, 3) := by decide +kernel
set_option maxRecDepth 100000 in
theorem dX11_typeOfValue_19 : decode prog_13_method_17_code 19 = .ok (.iconst 2, 1) := by decide +kernel
set_option maxRecDepth 100000 in
theorem dX11_typeOfValue_20 : decode prog_13_method_17_code 20 = .ok (.goto 23, 3) := by decide +kernel
set_option maxRecDepth 100000 in
theorem dX11_typeOfValue_23 : decode prog_13_method_17_code 23 = .ok (.aload_n 0, 1) := by decide +kernel
set_option maxRecDepth 100000 in
theorem dX11_typeOfValue_24 : decode prog_13_method_17_code 24 = .ok (.getfield 63, 3) := by decide +kernel
set_option maxRecDepth 100000 in
theorem dX11_typeOfValue_27 : decode prog_13_method_17_code 27 = .ok (.iload_n 1, 1) := by decide +kernel
set_option maxRecDepth 100000 in
theorem dX11_typeOfValue_28 : decode prog_13_method_17_code 28 = .ok (.iaload, 1) := by decide +kernel
set_option maxRecDepth 100000 in
theorem dX11_typeOfValue_29 : decode prog_13_method_17_code 29 = .ok (.iconst 2, 1) := by decide +kernel
set_option maxRecDepth 100000 in
theorem dX11_typeOfValue_30 : decode prog_13_method_17_code 30 = .ok (.if_icmp .ne 7, 3) := by decide +kernel
set_option maxRecDepth 100000 in
theorem dX11_typeOfValue_33 : decode prog_13_method_17_code 33 = .ok (.iconst 3, 1) := by decide +kernel
set_option maxRecDepth 100000 in
theorem dX11_typeOfValue_34 : decode prog_13_method_17_code 34 = .ok (.goto 9, 3) := by decide +kernel
set_option maxRecDepth 100000 in
theorem dX11_typeOfValue_37 : decode prog_13_method_17_code 37 = .ok (.aload_n 0, 1) := by decide +kernel
set_option maxRecDepth 100000 in
theorem dX11_typeOfValue_38 : decode prog_13_method_17_code 38 = .ok (.getfield 63, 3) := by decide +kernel
set_option maxRecDepth 100000 in
theorem dX11_typeOfValue_41 : decode prog_13_method_17_code 41 = .ok (.iload_n 1, 1) := by decide +kernel
set_option maxRecDepth 100000 in
theorem dX11_typeOfValue_42 : decode prog_13_method_17_code 42 = .ok (.iaload, 1) := by decide +kernel
set_option maxRecDepth 100000 in
theorem dX11_typeOfValue_43 : decode prog_13_method_17_code 43 = .ok (.ireturn, 1) := by decide +kernel

def fX11_typeOfValue (z : Nat → Nat) (a0 : Nat) (x1 : Int32) (x2 : Int32) (h : aH) : Option (Int32 × aH) :=
  (rdR h a0 [9] 21).bind fun r101 =>
  (r101).bind fun a102 =>
  (arI h a102 x1).bind fun x103 =>
  (if x103 = 3 then
  (if x2 = 3 then
  some (3, h)
  else
  some (2, h))
  else
  (rdR h a0 [9] 21).bind fun r104 =>
  (r104).bind fun a105 =>
  (arI h a105 x1).bind fun x106 =>
  (if x106 = 2 then
  some (3, h)
  else
  (rdR h a0 [9] 21).bind fun r107 =>
  (r107).bind fun a108 =>
  (arI h a108 x1).bind fun x109 =>
  some (x109, h)))
set_option maxHeartbeats 4000000 in
set_option maxRecDepth 100000 in
theorem xX11_typeOfValue {l : Launch} {g : aG} {d : Nat} (hK : 0 ≤ d) {a0 : Nat} {x1 : Int32} {x2 : Int32} {h : aH} {q : Int32 × aH} (hf : fX11_typeOfValue g.2.2 a0 x1 x2 h = some q) : Ev l g miX11_typeOfValue d [.inr (.inr (some a0)), .inl x1, .inl x2] h (some (.inl q.1), q.2) := by
  refine ⟨?_, Or.inl rfl, Nat.le_of_ble_eq_true rfl⟩
  unfold fX11_typeOfValue at hf
  show Y l g miX11_typeOfValue d 0 [some (.inr (.inr (some a0))), some (.inl x1), some (.inl x2)] [] h _
  refine y_aload_n (i := 0) dX11_typeOfValue_0 rfl rfl ?_
  replace hf := bnd hf
  obtain ⟨r101, er101, hf⟩ := hf
  refine y_getR er101 fl11_63 dX11_typeOfValue_1 ?_
  refine y_iload_n (i := 1) dX11_typeOfValue_4 rfl rfl ?_
  replace hf := bnd hf
  obtain ⟨a102, rfl, hf⟩ := hf
  replace hf := bnd hf
  obtain ⟨x103, ex103, hf⟩ := hf
  refine y_iaload ex103 dX11_typeOfValue_5 ?_
  refine y_iconst (v := 3) dX11_typeOfValue_6 (by decide) ?_
  refine y_icmp_ne (tgt := 23) dX11_typeOfValue_7 (by decide) (fun hc => ?_) (fun hc => ?_)
  · rw [if_neg hc] at hf
    refine y_aload_n (i := 0) dX11_typeOfValue_23 rfl rfl ?_
    replace hf := bnd hf
    obtain ⟨r104, er104, hf⟩ := hf
    refine y_getR er104 fl11_63 dX11_typeOfValue_24 ?_
    refine y_iload_n (i := 1) dX11_typeOfValue_27 rfl rfl ?_
    replace hf := bnd hf
    obtain ⟨a105, rfl, hf⟩ := hf
    replace hf := bnd hf
    obtain ⟨x106, ex106, hf⟩ := hf
    refine y_iaload ex106 dX11_typeOfValue_28 ?_
    refine y_iconst (v := 2) dX11_typeOfValue_29 (by decide) ?_
    refine y_icmp_ne (tgt := 37) dX11_typeOfValue_30 (by decide) (fun hc => ?_) (fun hc => ?_)
    · rw [if_neg hc] at hf
      refine y_aload_n (i := 0) dX11_typeOfValue_37 rfl rfl ?_
      replace hf := bnd hf
      obtain ⟨r107, er107, hf⟩ := hf
      refine y_getR er107 fl11_63 dX11_typeOfValue_38 ?_
      refine y_iload_n (i := 1) dX11_typeOfValue_41 rfl rfl ?_
      replace hf := bnd hf
      obtain ⟨a108, rfl, hf⟩ := hf
      replace hf := bnd hf
      obtain ⟨x109, ex109, hf⟩ := hf
      refine y_iaload ex109 dX11_typeOfValue_42 ?_
      obtain rfl := Option.some.inj hf
      exact y_ret (v := some (.inl x109)) dX11_typeOfValue_43 rfl
    · rw [if_pos hc] at hf
      refine y_iconst (v := 3) dX11_typeOfValue_33 (by decide) ?_
      refine y_goto (tgt := 43) dX11_typeOfValue_34 (by decide) ?_
      obtain rfl := Option.some.inj hf
      exact y_ret (v := some (.inl 3)) dX11_typeOfValue_43 rfl
  · rw [if_pos hc] at hf
    refine y_iload_n (i := 2) dX11_typeOfValue_10 rfl rfl ?_
    refine y_iconst (v := 3) dX11_typeOfValue_11 (by decide) ?_
    refine y_icmp_ne (tgt := 19) dX11_typeOfValue_12 (by decide) (fun hc => ?_) (fun hc => ?_)
    · rw [if_neg hc] at hf
      refine y_iconst (v := 2) dX11_typeOfValue_19 (by decide) ?_
      refine y_goto (tgt := 43) dX11_typeOfValue_20 (by decide) ?_
      obtain rfl := Option.some.inj hf
      exact y_ret (v := some (.inl 2)) dX11_typeOfValue_43 rfl
    · rw [if_pos hc] at hf
      refine y_iconst (v := 3) dX11_typeOfValue_15 (by decide) ?_
      refine y_goto (tgt := 43) dX11_typeOfValue_16 (by decide) ?_
      obtain rfl := Option.some.inj hf
      exact y_ret (v := some (.inl 3)) dX11_typeOfValue_43 rfl
set_option maxRecDepth 100000 in
theorem dX11_isBound_0 : decode prog_13_method_18_code 0 = .ok (.aload_n 0, 1) := by decide +kernel
set_option maxRecDepth 100000 in
theorem dX11_isBound_1 : decode prog_13_method_18_code 1 = .ok (.getfield 159, 3) := by decide +kernel
set_option maxRecDepth 100000 in
theorem dX11_isBound_4 : decode prog_13_method_18_code 4 = .ok (.ifCond .ne 5, 3) := by decide +kernel
set_option maxRecDepth 100000 in
theorem dX11_isBound_7 : decode prog_13_method_18_code 7 = .ok (.iconst 0, 1) := by decide +kernel
set_option maxRecDepth 100000 in
theorem dX11_isBound_8 : decode prog_13_method_18_code 8 = .ok (.ireturn, 1) := by decide +kernel
set_option maxRecDepth 100000 in
theorem dX11_isBound_9 : decode prog_13_method_18_code 9 = .ok (.aload_n 0, 1) := by decide +kernel
set_option maxRecDepth 100000 in
theorem dX11_isBound_10 : decode prog_13_method_18_code 10 = .ok (.getfield 20, 3) := by decide +kernel
set_option maxRecDepth 100000 in
theorem dX11_isBound_13 : decode prog_13_method_18_code 13 = .ok (.bipush 6, 2) := by decide +kernel
set_option maxRecDepth 100000 in
theorem dX11_isBound_15 : decode prog_13_method_18_code 15 = .ok (.iload_n 1, 1) := by decide +kernel
set_option maxRecDepth 100000 in
theorem dX11_isBound_16 : decode prog_13_method_18_code 16 = .ok (.imul, 1) := by decide +kernel
set_option maxRecDepth 100000 in
theorem dX11_isBound_17 : decode prog_13_method_18_code 17 = .ok (.iload_n 2, 1) := by decide +kernel
set_option maxRecDepth 100000 in
theorem dX11_isBound_18 : decode prog_13_method_18_code 18 = .ok (.iadd, 1) := by decide +kernel
set_option maxRecDepth 100000 in
theorem dX11_isBound_19 : decode prog_13_method_18_code 19 = .ok (.iaload, 1) := by decide +kernel
set_option maxRecDepth 100000 in
theorem dX11_isBound_20 : decode prog_13_method_18_code 20 = .ok (.istore_n 3, 1) := by decide +kernel
set_option maxRecDepth 100000 in
theorem dX11_isBound_21 : decode prog_13_method_18_code 21 = .ok (.aload_n 0, 1) := by decide +kernel
set_option maxRecDepth 100000 in
theorem dX11_isBound_22 : decode prog_13_method_18_code 22 = .ok (.iconst 0, 1) := by decide +kernel
set_option maxRecDepth 100000 in
theorem dX11_isBound_23 : decode prog_13_method_18_code 23 = .ok (.iload_n 3, 1) := by decide +kernel
set_option maxRecDepth 100000 in
theorem dX11_isBound_24 : decode prog_13_method_18_code 24 = .ok (.invokevirtual 162, 3) := by decide +kernel
set_option maxRecDepth 100000 in
theorem dX11_isBound_27 : decode prog_13_method_18_code 27 = .ok (.istore 4, 2) := by decide +kernel
set_option maxRecDepth 100000 in
theorem dX11_isBound_29 : decode prog_13_method_18_code 29 = .ok (.iload 4, 2) := by decide +kernel
set_option maxRecDepth 100000 in
theorem dX11_isBound_31 : decode prog_13_method_18_code 31 = .ok (.iload_n 3, 1) := by decide +kernel
set_option maxRecDepth 100000 in
theorem dX11_isBound_32 : decode prog_13_method_18_code 32 = .ok (.invokestatic 166, 3) := by decide +kernel
set_option maxRecDepth 100000 in
theorem dX11_isBound_35 : decode prog_13_method_18_code 35 = .ok (.ifCond .ne 5, 3) := by decide +kernel
set_option maxRecDepth 100000 in
theorem dX11_isBound_38 : decode prog_13_method_18_code 38 = .ok (.iconst 0, 1) := by decide +kernel
set_option maxRecDepth 100000 in
theorem dX11_isBound_39 : decode prog_13_method_18_code 39 = .ok (.ireturn, 1) := by decide +kernel
set_option maxRecDepth 100000 in
theorem dX11_isBound_40 : decode prog_13_method_18_code 40 = .ok (.aload_n 0, 1) := by decide +kernel
set_option maxRecDepth 100000 in
theorem dX11_isBound_41 : decode prog_13_method_18_code 41 = .ok (.iload 4, 2) := by decide +kernel
set_option maxRecDepth 100000 in
theorem dX11_isBound_43 : decode prog_13_method_18_code 43 = .ok (.iload_n 3, 1) := by decide +kernel
set_option maxRecDepth 100000 in
theorem dX11_isBound_44 : decode prog_13_method_18_code 44 = .ok (.aload_n 0, 1) := by decide +kernel
set_option maxRecDepth 100000 in
theorem dX11_isBound_45 : decode prog_13_method_18_code 45 = .ok (.getfield 63, 3) := by decide +kernel
set_option maxRecDepth 100000 in
theorem dX11_isBound_48 : decode prog_13_method_18_code 48 = .ok (.iconst 0, 1) := by decide +kernel
set_option maxRecDepth 100000 in
theorem dX11_isBound_49 : decode prog_13_method_18_code 49 = .ok (.iaload, 1) := by decide +kernel
set_option maxRecDepth 100000 in
theorem dX11_isBound_50 : decode prog_13_method_18_code 50 = .ok (.aload_n 0, 1) := by decide +kernel
set_option maxRecDepth 100000 in
theorem dX11_isBound_51 : decode prog_13_method_18_code 51 = .ok (.getfield 66, 3) := by decide +kernel
set_option maxRecDepth 100000 in
theorem dX11_isBound_54 : decode prog_13_method_18_code 54 = .ok (.iconst 0, 1) := by decide +kernel
set_option maxRecDepth 100000 in
theorem dX11_isBound_55 : decode prog_13_method_18_code 55 = .ok (.laload, 1) := by decide +kernel
set_option maxRecDepth 100000 in
theorem dX11_isBound_56 : decode prog_13_method_18_code 56 = .ok (.invokevirtual 169, 3) := by decide +kernel
set_option maxRecDepth 100000 in
theorem dX11_isBound_59 : decode prog_13_method_18_code 59 = .ok (.aload_n 0, 1) := by decide +kernel
set_option maxRecDepth 100000 in
theorem dX11_isBound_60 : decode prog_13_method_18_code 60 = .ok (.getfield 173, 3) := by decide +kernel
set_option maxRecDepth 100000 in
theorem dX11_isBound_63 : decode prog_13_method_18_code 63 = .ok (.ifCond .ne 7, 3) := by decide +kernel
set_option maxRecDepth 100000 in
theorem dX11_isBound_66 : decode prog_13_method_18_code 66 = .ok (.iconst 1, 1) := by decide +kernel
set_option maxRecDepth 100000 in
theorem dX11_isBound_67 : decode prog_13_method_18_code 67 = .ok (.goto 4, 3) := by decide +kernel
set_option maxRecDepth 100000 in
theorem dX11_isBound_70 : decode prog_13_method_18_code 70 = .ok (.iconst 0, 1) := by decide +kernel
set_option maxRecDepth 100000 in
theorem dX11_isBound_71 : decode prog_13_method_18_code 71 = .ok (.ireturn, 1) := by decide +kernel
set_option maxRecDepth 100000 in
theorem okX11_typeOfValue : mOk miX11_typeOfValue 2 := ⟨(gd_of 932 rfl rfl), (gd_of 76 rfl rfl), by decide +kernel, ⟨by decide +kernel, by decide +kernel, by decide +kernel⟩, by decide⟩
set_option maxRecDepth 100000 in
theorem okX11_canAdapt : mOk miX11_canAdapt 2 := ⟨(gd_of 935 rfl rfl), (gd_of 76 rfl rfl), by decide +kernel, ⟨by decide +kernel, by decide +kernel, by decide +kernel⟩, by decide⟩
set_option maxRecDepth 100000 in
theorem okX11_adapt : mOk miX11_adapt 4 := ⟨(gd_of 939 rfl rfl), (gd_of 76 rfl rfl), by decide +kernel, ⟨by decide +kernel, by decide +kernel, by decide +kernel⟩, by decide⟩
def fX11_isBound_e (z : Nat → Nat) (a0 : Nat) (x1 : Int32) (x2 : Int32) (h : aH) : Option (Int32 × aH) :=
  (rdI h a0 [9] 20).bind fun x101 =>
  (if x101 = 0 then
  some (0, h)
  else
  (rdR h a0 [9] 4).bind fun r102 =>
  (r102).bind fun a103 =>
  (arI h a103 ((6 * x1) + x2)).bind fun x104 =>
  (obO h a0 9).bind fun fs106 =>
  (fX11_typeOfValue z a0 0 x104 h).bind fun q105 =>
  (fX11_canAdapt z q105.1 x104 q105.2).bind fun q107 =>
  (if q107.1 = 0 then
  some (0, q107.2)
  else
  (rdR q107.2 a0 [9] 21).bind fun r108 =>
  (r108).bind fun a109 =>
  (arI q107.2 a109 0).bind fun x110 =>
  (rdR q107.2 a0 [9] 22).bind fun r111 =>
  (r111).bind fun a112 =>
  (arJ q107.2 a112 0).bind fun j113 =>
  (obO q107.2 a0 9).bind fun fs115 =>
  (fX11_adapt z a0 q105.1 x104 x110 j113 q107.2).bind fun q114 =>
  (rdI q114 a0 [9] 29).bind fun x116 =>
  (if x116 = 0 then
  some (1, q114)
  else
  some (0, q114))))
def fX11_isBound (z : Nat → Nat) (a0 : Nat) (x1 : Int32) (x2 : Int32) (h : aH) : Option (Int32 × aH) := chkB (fX11_isBound_e z a0 x1 x2 h)
set_option maxHeartbeats 4000000 in
set_option maxRecDepth 100000 in
theorem xX11_isBound {l : Launch} {g : aG} {d : Nat} (hK : 2 ≤ d) {a0 : Nat} {x1 : Int32} {x2 : Int32} {h : aH} {q : Int32 × aH} (hf : fX11_isBound g.2.2 a0 x1 x2 h = some q) : Ev l g miX11_isBound d [.inr (.inr (some a0)), .inl x1, .inl x2] h (some (.inl q.1), q.2) := by
  obtain ⟨d, rfl⟩ : ∃ e, d = e + 1 := ⟨d - 1, by omega⟩
  replace hf := chkB_spec hf
  obtain ⟨hf, hb⟩ := hf
  refine ⟨?_, Or.inr ⟨rfl, hb⟩, Nat.le_of_ble_eq_true rfl⟩
  unfold fX11_isBound_e at hf
  show Y l g miX11_isBound (d + 1) 0 [some (.inr (.inr (some a0))), some (.inl x1), some (.inl x2), none, none] [] h _
  refine y_aload_n (i := 0) dX11_isBound_0 rfl rfl ?_
  replace hf := bnd hf
  obtain ⟨x101, ex101, hf⟩ := hf
  refine y_getI ex101 fl11_159 dX11_isBound_1 ?_
  refine y_if_ne (tgt := 9) dX11_isBound_4 (by decide) (fun hc => ?_) (fun hc => ?_)
  · rw [if_neg hc] at hf
    refine y_aload_n (i := 0) dX11_isBound_9 rfl rfl ?_
    replace hf := bnd hf
    obtain ⟨r102, er102, hf⟩ := hf
    refine y_getR er102 fl11_20 dX11_isBound_10 ?_
    refine y_bipush (v := 6) dX11_isBound_13 (by decide) ?_
    refine y_iload_n (i := 1) dX11_isBound_15 rfl rfl ?_
    refine y_imul dX11_isBound_16 ?_
    refine y_iload_n (i := 2) dX11_isBound_17 rfl rfl ?_
    refine y_iadd dX11_isBound_18 ?_
    replace hf := bnd hf
    obtain ⟨a103, rfl, hf⟩ := hf
    replace hf := bnd hf
    obtain ⟨x104, ex104, hf⟩ := hf
    refine y_iaload ex104 dX11_isBound_19 ?_
    refine y_istore_n (i := 3) (lv2 := [some (.inr (.inr (some a0))), some (.inl x1), some (.inl x2), some (.inl x104), none]) dX11_isBound_20 rfl (by decide) rfl ?_
    refine y_aload_n (i := 0) dX11_isBound_21 rfl rfl ?_
    refine y_iconst (v := 0) dX11_isBound_22 (by decide) ?_
    refine y_iload_n (i := 3) dX11_isBound_23 rfl rfl ?_
    replace hf := bnd hf
    obtain ⟨fs106, efs106, hf⟩ := hf
    replace hf := bnd hf
    obtain ⟨q105, eq105, hf⟩ := hf
    refine y_callV (mj := miX11_typeOfValue) (args := [.inl 0, .inl x104]) (st := []) dX11_isBound_24 (gd_of 929 rfl rfl) (gd_of 931 rfl rfl) (gd_of 43 rfl rfl) okX11_typeOfValue (obO_spec efs106) rfl rfl (xX11_typeOfValue (by omega) eq105) (Nat.le_of_ble_eq_true rfl) rfl ?_
    show Y l g miX11_isBound (d + 1) 27 [some (.inr (.inr (some a0))), some (.inl x1), some (.inl x2), some (.inl x104), none] [.inl q105.1] q105.2 _
    refine y_istore (i := 4) (lv2 := [some (.inr (.inr (some a0))), some (.inl x1), some (.inl x2), some (.inl x104), some (.inl q105.1)]) dX11_isBound_27 (by decide) rfl ?_
    refine y_iload (i := 4) dX11_isBound_29 rfl ?_
    refine y_iload_n (i := 3) dX11_isBound_31 rfl rfl ?_
    replace hf := bnd hf
    obtain ⟨q107, eq107, hf⟩ := hf
    refine y_callS (mj := miX11_canAdapt) (args := [.inl q105.1, .inl x104]) (st := []) dX11_isBound_32 (gd_of 933 rfl rfl) (gd_of 934 rfl rfl) okX11_canAdapt (xX11_canAdapt (by omega) eq107) (Nat.le_of_ble_eq_true rfl) rfl ?_
    show Y l g miX11_isBound (d + 1) 35 [some (.inr (.inr (some a0))), some (.inl x1), some (.inl x2), some (.inl x104), some (.inl q105.1)] [.inl q107.1] q107.2 _
    refine y_if_ne (tgt := 40) dX11_isBound_35 (by decide) (fun hc => ?_) (fun hc => ?_)
    · rw [if_neg hc] at hf
      refine y_aload_n (i := 0) dX11_isBound_40 rfl rfl ?_
      refine y_iload (i := 4) dX11_isBound_41 rfl ?_
      refine y_iload_n (i := 3) dX11_isBound_43 rfl rfl ?_
      refine y_aload_n (i := 0) dX11_isBound_44 rfl rfl ?_
      replace hf := bnd hf
      obtain ⟨r108, er108, hf⟩ := hf
      refine y_getR er108 fl11_63 dX11_isBound_45 ?_
      refine y_iconst (v := 0) dX11_isBound_48 (by decide) ?_
      replace hf := bnd hf
      obtain ⟨a109, rfl, hf⟩ := hf
      replace hf := bnd hf
      obtain ⟨x110, ex110, hf⟩ := hf
      refine y_iaload ex110 dX11_isBound_49 ?_
      refine y_aload_n (i := 0) dX11_isBound_50 rfl rfl ?_
      replace hf := bnd hf
      obtain ⟨r111, er111, hf⟩ := hf
      refine y_getR er111 fl11_66 dX11_isBound_51 ?_
      refine y_iconst (v := 0) dX11_isBound_54 (by decide) ?_
      replace hf := bnd hf
      obtain ⟨a112, rfl, hf⟩ := hf
      replace hf := bnd hf
      obtain ⟨j113, ej113, hf⟩ := hf
      refine y_laload ej113 dX11_isBound_55 ?_
      replace hf := bnd hf
      obtain ⟨fs115, efs115, hf⟩ := hf
      replace hf := bnd hf
      obtain ⟨q114, eq114, hf⟩ := hf
      refine y_callV (mj := miX11_adapt) (args := [.inl q105.1, .inl x104, .inl x110, .inr (.inl j113)]) (st := []) dX11_isBound_56 (gd_of 936 rfl rfl) (gd_of 938 rfl rfl) (gd_of 44 rfl rfl) okX11_adapt (obO_spec efs115) rfl rfl (xX11_adapt (by omega) eq114) (Nat.le_of_ble_eq_true rfl) rfl ?_
      show Y l g miX11_isBound (d + 1) 59 [some (.inr (.inr (some a0))), some (.inl x1), some (.inl x2), some (.inl x104), some (.inl q105.1)] [] q114 _
      refine y_aload_n (i := 0) dX11_isBound_59 rfl rfl ?_
      replace hf := bnd hf
      obtain ⟨x116, ex116, hf⟩ := hf
      refine y_getI ex116 fl11_173 dX11_isBound_60 ?_
      refine y_if_ne (tgt := 70) dX11_isBound_63 (by decide) (fun hc => ?_) (fun hc => ?_)
      · rw [if_neg hc] at hf
        refine y_iconst (v := 0) dX11_isBound_70 (by decide) ?_
        obtain rfl := Option.some.inj hf
        exact y_ret (v := some (.inl 0)) dX11_isBound_71 rfl
      · rw [if_pos hc] at hf
        refine y_iconst (v := 1) dX11_isBound_66 (by decide) ?_
        refine y_goto (tgt := 71) dX11_isBound_67 (by decide) ?_
        obtain rfl := Option.some.inj hf
        exact y_ret (v := some (.inl 1)) dX11_isBound_71 rfl
    · rw [if_pos hc] at hf
      refine y_iconst (v := 0) dX11_isBound_38 (by decide) ?_
      obtain rfl := Option.some.inj hf
      exact y_ret (v := some (.inl 0)) dX11_isBound_39 rfl
  · rw [if_pos hc] at hf
    refine y_iconst (v := 0) dX11_isBound_7 (by decide) ?_
    obtain rfl := Option.some.inj hf
    exact y_ret (v := some (.inl 0)) dX11_isBound_8 rfl
