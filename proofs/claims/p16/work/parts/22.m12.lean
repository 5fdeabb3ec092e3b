set_option maxRecDepth 100000 in
theorem dX11_other_0 : decode prog_13_method_20_code 0 = .ok (.aload_n 0, 1) := by decide +kernel
set_option maxRecDepth 100000 in
theorem dX11_other_1 : decode prog_13_method_20_code 1 = .ok (.iconst 0, 1) := by decide +kernel
set_option maxRecDepth 100000 in
theorem dX11_other_2 : decode prog_13_method_20_code 2 = .ok (.putfield 1, 3) := by decide +kernel
set_option maxRecDepth 100000 in
theorem dX11_other_5 : decode prog_13_method_20_code 5 = .ok (.aload_n 0, 1) := by decide +kernel
set_option maxRecDepth 100000 in
theorem dX11_other_6 : decode prog_13_method_20_code 6 = .ok (.iload_n 2, 1) := by decide +kernel
set_option maxRecDepth 100000 in
theorem dX11_other_7 : decode prog_13_method_20_code 7 = .ok (.invokevirtual 194, 3) := by decide +kernel
set_option maxRecDepth 100000 in
theorem dX11_other_10 : decode prog_13_method_20_code 10 = .ok (.ifCond .eq 52, 3) := by decide +kernel
set_option maxRecDepth 100000 in
theorem dX11_other_13 : decode prog_13_method_20_code 13 = .ok (.iload_n 1, 1) := by decide +kernel
set_option maxRecDepth 100000 in
theorem dX11_other_14 : decode prog_13_method_20_code 14 = .ok (.i2l, 1) := by decide +kernel
set_option maxRecDepth 100000 in
theorem dX11_other_15 : decode prog_13_method_20_code 15 = .ok (.ldc2_w 129, 3) := by decide +kernel
set_option maxRecDepth 100000 in
theorem dX11_other_18 : decode prog_13_method_20_code 18 = .ok (.ldc2_w 198, 3) := by decide +kernel
set_option maxRecDepth 100000 in
theorem dX11_other_21 : decode prog_13_method_20_code 21 = .ok (.invokestatic 111, 3) := by decide +kernel
set_option maxRecDepth 100000 in
theorem dX11_other_24 : decode prog_13_method_20_code 24 = .ok (.ifCond .ne 9, 3) := by decide +kernel
set_option maxRecDepth 100000 in
theorem dX11_other_27 : decode prog_13_method_20_code 27 = .ok (.iload_n 1, 1) := by decide +kernel
set_option maxRecDepth 100000 in
theorem dX11_other_28 : decode prog_13_method_20_code 28 = .ok (.bipush 12, 2) := by decide +kernel
set_option maxRecDepth 100000 in
theorem dX11_other_30 : decode prog_13_method_20_code 30 = .ok (.if_icmp .ne 11, 3) := by decide +kernel
set_option maxRecDepth 100000 in
theorem dX11_other_33 : decode prog_13_method_20_code 33 = .ok (.aload_n 0, 1) := by decide +kernel
set_option maxRecDepth 100000 in
theorem dX11_other_34 : decode prog_13_method_20_code 34 = .ok (.iload_n 3, 1) := by decide +kernel
set_option maxRecDepth 100000 in
theorem dX11_other_35 : decode prog_13_method_20_code 35 = .ok (.invokevirtual 194, 3) := by decide +kernel
set_option maxRecDepth 100000 in
theorem dX11_other_38 : decode prog_13_method_20_code 38 = .ok (.ifCond .eq 24, 3) := by decide +kernel
set_option maxRecDepth 100000 in
theorem dX11_other_41 : decode prog_13_method_20_code 41 = .ok (.iload_n 1, 1) := by decide +kernel
set_option maxRecDepth 100000 in
theorem dX11_other_42 : decode prog_13_method_20_code 42 = .ok (.bipush 6, 2) := by decide +kernel
set_option maxRecDepth 100000 in
theorem dX11_other_44 : decode prog_13_method_20_code 44 = .ok (.if_icmp .eq 9, 3) := by decide +kernel
set_option maxRecDepth 100000 in
theorem dX11_other_47 : decode prog_13_method_20_code 47 = .ok (.iload_n 1, 1) := by decide +kernel
set_option maxRecDepth 100000 in
theorem dX11_other_48 : decode prog_13_method_20_code 48 = .ok (.bipush 9, 2) := by decide +kernel
set_option maxRecDepth 100000 in
theorem dX11_other_50 : decode prog_13_method_20_code 50 = .ok (.if_icmp .ne 15, 3) := by decide +kernel
set_option maxRecDepth 100000 in
theorem dX11_other_53 : decode prog_13_method_20_code 53 = .ok (.aload_n 0, 1) := by decide +kernel
set_option maxRecDepth 100000 in
theorem dX11_other_54 : decode prog_13_method_20_code 54 = .ok (.iload 4, 2) := by decide +kernel
set_option maxRecDepth 100000 in
theorem dX11_other_56 : decode prog_13_method_20_code 56 = .ok (.invokevirtual 194, 3) := by decide +kernel
set_option maxRecDepth 100000 in
theorem dX11_other_59 : decode prog_13_method_20_code 59 = .ok (.ifCond .ne 6, 3) := by decide +kernel
set_option maxRecDepth 100000 in
theorem dX11_other_62 : decode prog_13_method_20_code 62 = .ok (.bipush (-2), 2) := by decide +kernel
set_option maxRecDepth 100000 in
theorem dX11_other_64 : decode prog_13_method_20_code 64 = .ok (.ireturn, 1) := by decide +kernel
set_option maxRecDepth 100000 in
theorem dX11_other_65 : decode prog_13_method_20_code 65 = .ok (.aload_n 0, 1) := by decide +kernel
set_option maxRecDepth 100000 in
theorem dX11_other_66 : decode prog_13_method_20_code 66 = .ok (.iload_n 1, 1) := by decide +kernel
set_option maxRecDepth 100000 in
theorem dX11_other_67 : decode prog_13_method_20_code 67 = .ok (.iload_n 2, 1) := by decide +kernel
set_option maxRecDepth 100000 in
theorem dX11_other_68 : decode prog_13_method_20_code 68 = .ok (.iload 5, 2) := by decide +kernel
set_option maxRecDepth 100000 in
theorem dX11_other_70 : decode prog_13_method_20_code 70 = .ok (.iload 6, 2) := by decide +kernel
set_option maxRecDepth 100000 in
theorem dX11_other_72 : decode prog_13_method_20_code 72 = .ok (.invokevirtual 200, 3) := by decide +kernel
set_option maxRecDepth 100000 in
theorem dX11_other_75 : decode prog_13_method_20_code 75 = .ok (.ifCond .eq 6, 3) := by decide +kernel
set_option maxRecDepth 100000 in
theorem dX11_other_78 : decode prog_13_method_20_code 78 = .ok (.bipush (-3), 2) := by decide +kernel
set_option maxRecDepth 100000 in
theorem dX11_other_80 : decode prog_13_method_20_code 80 = .ok (.ireturn, 1) := by decide +kernel
set_option maxRecDepth 100000 in
theorem dX11_other_81 : decode prog_13_method_20_code 81 = .ok (.aload_n 0, 1) := by decide +kernel
set_option maxRecDepth 100000 in
theorem dX11_other_82 : decode prog_13_method_20_code 82 = .ok (.iload_n 1, 1) := by decide +kernel
set_option maxRecDepth 100000 in
theorem dX11_other_83 : decode prog_13_method_20_code 83 = .ok (.iload_n 2, 1) := by decide +kernel
set_option maxRecDepth 100000 in
theorem dX11_other_84 : decode prog_13_method_20_code 84 = .ok (.iload_n 3, 1) := by decide +kernel
set_option maxRecDepth 100000 in
theorem dX11_other_85 : decode prog_13_method_20_code 85 = .ok (.iload 4, 2) := by decide +kernel
set_option maxRecDepth 100000 in
theorem dX11_other_87 : decode prog_13_method_20_code 87 = .ok (.iload 5, 2) := by decide +kernel
set_option maxRecDepth 100000 in
theorem dX11_other_89 : decode prog_13_method_20_code 89 = .ok (.iload 6, 2) := by decide +kernel
set_option maxRecDepth 100000 in
theorem dX11_other_91 : decode prog_13_method_20_code 91 = .ok (.invokevirtual 203, 3) := by decide +kernel
set_option maxRecDepth 100000 in
theorem dX11_other_94 : decode prog_13_method_20_code 94 = .ok (.istore 7, 2) := by decide +kernel
set_option maxRecDepth 100000 in
theorem dX11_other_96 : decode prog_13_method_20_code 96 = .ok (.iload 7, 2) := by decide +kernel
set_option maxRecDepth 100000 in
theorem dX11_other_98 : decode prog_13_method_20_code 98 = .ok (.ifCond .ge 6, 3) := by decide +kernel
set_option maxRecDepth 100000 in
theorem dX11_other_101 : decode prog_13_method_20_code 101 = .ok (.bipush (-4), 2) := by decide +kernel
set_option maxRecDepth 100000 in
theorem dX11_other_103 : decode prog_13_method_20_code 103 = .ok (.ireturn, 1) := by decide +kernel
set_option maxRecDepth 100000 in
theorem dX11_other_104 : decode prog_13_method_20_code 104 = .ok (.aload_n 0, 1) := by decide +kernel
set_option maxRecDepth 100000 in
theorem dX11_other_105 : decode prog_13_method_20_code 105 = .ok (.getfield 108, 3) := by decide +kernel
set_option maxRecDepth 100000 in
theorem dX11_other_108 : decode prog_13_method_20_code 108 = .ok (.bipush 60, 2) := by decide +kernel
set_option maxRecDepth 100000 in
theorem dX11_other_110 : decode prog_13_method_20_code 110 = .ok (.if_icmp .ne 6, 3) := by decide +kernel
set_option maxRecDepth 100000 in
theorem dX11_other_113 : decode prog_13_method_20_code 113 = .ok (.bipush (-5), 2) := by decide +kernel
set_option maxRecDepth 100000 in
theorem dX11_other_115 : decode prog_13_method_20_code 115 = .ok (.ireturn, 1) := by decide +kernel
set_option maxRecDepth 100000 in
theorem dX11_other_116 : decode prog_13_method_20_code 116 = .ok (.aload_n 0, 1) := by decide +kernel
set_option maxRecDepth 100000 in
theorem dX11_other_117 : decode prog_13_method_20_code 117 = .ok (.bipush 20, 2) := by decide +kernel
set_option maxRecDepth 100000 in
theorem dX11_other_119 : decode prog_13_method_20_code 119 = .ok (.iload_n 1, 1) := by decide +kernel
set_option maxRecDepth 100000 in
theorem dX11_other_120 : decode prog_13_method_20_code 120 = .ok (.iadd, 1) := by decide +kernel
set_option maxRecDepth 100000 in
theorem dX11_other_121 : decode prog_13_method_20_code 121 = .ok (.iload 7, 2) := by decide +kernel
set_option maxRecDepth 100000 in
theorem dX11_other_123 : decode prog_13_method_20_code 123 = .ok (.iload_n 2, 1) := by decide +kernel
set_option maxRecDepth 100000 in
theorem dX11_other_124 : decode prog_13_method_20_code 124 = .ok (.iload_n 3, 1) := by decide +kernel
set_option maxRecDepth 100000 in
theorem dX11_other_125 : decode prog_13_method_20_code 125 = .ok (.iload 4, 2) := by decide +kernel
set_option maxRecDepth 100000 in
theorem dX11_other_127 : decode prog_13_method_20_code 127 = .ok (.iload 5, 2) := by decide +kernel
set_option maxRecDepth 100000 in
theorem dX11_other_129 : decode prog_13_method_20_code 129 = .ok (.iload 6, 2) := by decide +kernel
set_option maxRecDepth 100000 in
theorem dX11_other_131 : decode prog_13_method_20_code 131 = .ok (.invokevirtual 137, 3) := by decide +kernel
set_option maxRecDepth 100000 in
theorem dX11_other_134 : decode prog_13_method_20_code 134 = .ok (.istore 8, 2) := by decide +kernel
set_option maxRecDepth 100000 in
theorem dX11_other_136 : decode prog_13_method_20_code 136 = .ok (.aload_n 0, 1) := by decide +kernel
set_option maxRecDepth 100000 in
theorem dX11_other_137 : decode prog_13_method_20_code 137 = .ok (.getfield 41, 3) := by decide +kernel
set_option maxRecDepth 100000 in
theorem dX11_other_140 : decode prog_13_method_20_code 140 = .ok (.iload 8, 2) := by decide +kernel
set_option maxRecDepth 100000 in
theorem dX11_other_142 : decode prog_13_method_20_code 142 = .ok (.aload_n 0, 1) := by decide +kernel
set_option maxRecDepth 100000 in
theorem dX11_other_143 : decode prog_13_method_20_code 143 = .ok (.getfield 207, 3) := by decide +kernel
set_option maxRecDepth 100000 in
theorem dX11_other_146 : decode prog_13_method_20_code 146 = .ok (.iastore, 1) := by decide +kernel
set_option maxRecDepth 100000 in
theorem dX11_other_147 : decode prog_13_method_20_code 147 = .ok (.aload_n 0, 1) := by decide +kernel
set_option maxRecDepth 100000 in
theorem dX11_other_148 : decode prog_13_method_20_code 148 = .ok (.getfield 44, 3) := by decide +kernel
set_option maxRecDepth 100000 in
theorem dX11_other_151 : decode prog_13_method_20_code 151 = .ok (.iload 8, 2) := by decide +kernel
set_option maxRecDepth 100000 in
theorem dX11_other_153 : decode prog_13_method_20_code 153 = .ok (.aload_n 0, 1) := by decide +kernel
set_option maxRecDepth 100000 in
theorem dX11_other_154 : decode prog_13_method_20_code 154 = .ok (.getfield 210, 3) := by decide +kernel
set_option maxRecDepth 100000 in
theorem dX11_other_157 : decode prog_13_method_20_code 157 = .ok (.lastore, 1) := by decide +kernel
set_option maxRecDepth 100000 in
theorem dX11_other_158 : decode prog_13_method_20_code 158 = .ok (.iload 8, 2) := by decide +kernel
set_option maxRecDepth 100000 in
theorem dX11_other_160 : decode prog_13_method_20_code 160 = .ok (.ireturn, 1) := by decide +kernel
set_option maxRecDepth 100000 in
theorem okX11_isOutside : mOk miX11_isOutside 4 := ⟨(gd_of 905 rfl rfl), (gd_of 76 rfl rfl), by decide +kernel, ⟨by decide +kernel, by decide +kernel, by decide +kernel⟩, by decide⟩
set_option maxRecDepth 100000 in
theorem okX11_shape : mOk miX11_shape 6 := ⟨(gd_of 920 rfl rfl), (gd_of 76 rfl rfl), by decide +kernel, ⟨by decide +kernel, by decide +kernel, by decide +kernel⟩, by decide⟩
set_option maxRecDepth 100000 in
theorem okX11_newHandle : mOk miX11_newHandle 7 := ⟨(gd_of 892 rfl rfl), (gd_of 76 rfl rfl), by decide +kernel, ⟨by decide +kernel, by decide +kernel, by decide +kernel⟩, by decide⟩
def fX11_other_65 (z : Nat → Nat) (a0 : Nat) (x1 : Int32) (x2 : Int32) (x3 : Int32) (x4 : Int32) (x5 : Int32) (x6 : Int32) (h : aH) : Option (Int32 × aH) :=
  (obO h a0 9).bind fun fs102 =>
  (fX11_isOutside z a0 x1 x2 x5 x6 h).bind fun q101 =>
  (if q101.1 = 0 then
  (obO q101.2 a0 9).bind fun fs104 =>
  (fX11_shape z a0 x1 x2 x3 x4 x5 x6 q101.2).bind fun q103 =>
  (if 0 ≤ q103.1 then
  (rdI q103.2 a0 [9] 1).bind fun x105 =>
  (if x105 = 60 then
  some ((-5), q103.2)
  else
  (obO q103.2 a0 9).bind fun fs107 =>
  (fX11_newHandle z a0 (20 + x1) q103.1 x2 x3 x4 x5 x6 q103.2).bind fun q106 =>
  (rdR q106.2 a0 [9] 11).bind fun r108 =>
  (rdI q106.2 a0 [9] 30).bind fun x109 =>
  (r108).bind fun a110 =>
  (awI q106.2 a110 q106.1 x109).bind fun h111 =>
  (rdR h111 a0 [9] 12).bind fun r112 =>
  (rdJ h111 a0 [9] 31).bind fun j113 =>
  (r112).bind fun a114 =>
  (awJ h111 a114 q106.1 j113).bind fun h115 =>
  some (q106.1, h115))
  else
  some ((-4), q103.2))
  else
  some ((-3), q101.2))
set_option maxHeartbeats 4000000 in
set_option maxRecDepth 100000 in
theorem xX11_other_65 {l : Launch} {g : aG} {d : Nat} (hK : 4 ≤ d + 1) {a0 : Nat} {x1 : Int32} {x2 : Int32} {x3 : Int32} {x4 : Int32} {x5 : Int32} {x6 : Int32} {h : aH} {q : Int32 × aH} (hf : fX11_other_65 g.2.2 a0 x1 x2 x3 x4 x5 x6 h = some q) : Y l g miX11_other (d + 1) 65 [some (.inr (.inr (some a0))), some (.inl x1), some (.inl x2), some (.inl x3), some (.inl x4), some (.inl x5), some (.inl x6), none, none] [] h (some (.inl q.1), q.2) := by
  unfold fX11_other_65 at hf
  refine y_aload_n (i := 0) dX11_other_65 rfl rfl ?_
  refine y_iload_n (i := 1) dX11_other_66 rfl rfl ?_
  refine y_iload_n (i := 2) dX11_other_67 rfl rfl ?_
  refine y_iload (i := 5) dX11_other_68 rfl ?_
  refine y_iload (i := 6) dX11_other_70 rfl ?_
  replace hf := bnd hf
  obtain ⟨fs102, efs102, hf⟩ := hf
  replace hf := bnd hf
  obtain ⟨q101, eq101, hf⟩ := hf
  refine y_callV (mj := miX11_isOutside) (args := [.inl x1, .inl x2, .inl x5, .inl x6]) (st := []) dX11_other_72 (gd_of 902 rfl rfl) (gd_of 904 rfl rfl) (gd_of 39 rfl rfl) okX11_isOutside (obO_spec efs102) rfl rfl (xX11_isOutside (by omega) eq101) (Nat.le_of_ble_eq_true rfl) rfl ?_
  show Y l g miX11_other (d + 1) 75 [some (.inr (.inr (some a0))), some (.inl x1), some (.inl x2), some (.inl x3), some (.inl x4), some (.inl x5), some (.inl x6), none, none] [.inl q101.1] q101.2 _
  refine y_if_eq (tgt := 81) dX11_other_75 (by decide) (fun hc => ?_) (fun hc => ?_)
  · rw [if_pos hc] at hf
    refine y_aload_n (i := 0) dX11_other_81 rfl rfl ?_
    refine y_iload_n (i := 1) dX11_other_82 rfl rfl ?_
    refine y_iload_n (i := 2) dX11_other_83 rfl rfl ?_
    refine y_iload_n (i := 3) dX11_other_84 rfl rfl ?_
    refine y_iload (i := 4) dX11_other_85 rfl ?_
    refine y_iload (i := 5) dX11_other_87 rfl ?_
    refine y_iload (i := 6) dX11_other_89 rfl ?_
    replace hf := bnd hf
    obtain ⟨fs104, efs104, hf⟩ := hf
    replace hf := bnd hf
    obtain ⟨q103, eq103, hf⟩ := hf
    refine y_callV (mj := miX11_shape) (args := [.inl x1, .inl x2, .inl x3, .inl x4, .inl x5, .inl x6]) (st := []) dX11_other_91 (gd_of 917 rfl rfl) (gd_of 919 rfl rfl) (gd_of 40 rfl rfl) okX11_shape (obO_spec efs104) rfl rfl (xX11_shape (by omega) eq103) (Nat.le_of_ble_eq_true rfl) rfl ?_
    show Y l g miX11_other (d + 1) 94 [some (.inr (.inr (some a0))), some (.inl x1), some (.inl x2), some (.inl x3), some (.inl x4), some (.inl x5), some (.inl x6), none, none] [.inl q103.1] q103.2 _
    refine y_istore (i := 7) (lv2 := [some (.inr (.inr (some a0))), some (.inl x1), some (.inl x2), some (.inl x3), some (.inl x4), some (.inl x5), some (.inl x6), some (.inl q103.1), none]) dX11_other_94 (by decide) rfl ?_
    refine y_iload (i := 7) dX11_other_96 rfl ?_
    refine y_if_ge (tgt := 104) dX11_other_98 (by decide) (fun hc => ?_) (fun hc => ?_)
    · rw [if_pos hc] at hf
      refine y_aload_n (i := 0) dX11_other_104 rfl rfl ?_
      replace hf := bnd hf
      obtain ⟨x105, ex105, hf⟩ := hf
      refine y_getI ex105 fl11_108 dX11_other_105 ?_
      refine y_bipush (v := 60) dX11_other_108 (by decide) ?_
      refine y_icmp_ne (tgt := 116) dX11_other_110 (by decide) (fun hc => ?_) (fun hc => ?_)
      · rw [if_neg hc] at hf
        refine y_aload_n (i := 0) dX11_other_116 rfl rfl ?_
        refine y_bipush (v := 20) dX11_other_117 (by decide) ?_
        refine y_iload_n (i := 1) dX11_other_119 rfl rfl ?_
        refine y_iadd dX11_other_120 ?_
        refine y_iload (i := 7) dX11_other_121 rfl ?_
        refine y_iload_n (i := 2) dX11_other_123 rfl rfl ?_
        refine y_iload_n (i := 3) dX11_other_124 rfl rfl ?_
        refine y_iload (i := 4) dX11_other_125 rfl ?_
        refine y_iload (i := 5) dX11_other_127 rfl ?_
        refine y_iload (i := 6) dX11_other_129 rfl ?_
        replace hf := bnd hf
        obtain ⟨fs107, efs107, hf⟩ := hf
        replace hf := bnd hf
        obtain ⟨q106, eq106, hf⟩ := hf
        refine y_callV (mj := miX11_newHandle) (args := [.inl (20 + x1), .inl q103.1, .inl x2, .inl x3, .inl x4, .inl x5, .inl x6]) (st := []) dX11_other_131 (gd_of 889 rfl rfl) (gd_of 891 rfl rfl) (gd_of 37 rfl rfl) okX11_newHandle (obO_spec efs107) rfl rfl (xX11_newHandle (by omega) eq106) (Nat.le_of_ble_eq_true rfl) rfl ?_
        show Y l g miX11_other (d + 1) 134 [some (.inr (.inr (some a0))), some (.inl x1), some (.inl x2), some (.inl x3), some (.inl x4), some (.inl x5), some (.inl x6), some (.inl q103.1), none] [.inl q106.1] q106.2 _
        refine y_istore (i := 8) (lv2 := [some (.inr (.inr (some a0))), some (.inl x1), some (.inl x2), some (.inl x3), some (.inl x4), some (.inl x5), some (.inl x6), some (.inl q103.1), some (.inl q106.1)]) dX11_other_134 (by decide) rfl ?_
        refine y_aload_n (i := 0) dX11_other_136 rfl rfl ?_
        replace hf := bnd hf
        obtain ⟨r108, er108, hf⟩ := hf
        refine y_getR er108 fl11_41 dX11_other_137 ?_
        refine y_iload (i := 8) dX11_other_140 rfl ?_
        refine y_aload_n (i := 0) dX11_other_142 rfl rfl ?_
        replace hf := bnd hf
        obtain ⟨x109, ex109, hf⟩ := hf
        refine y_getI ex109 fl11_207 dX11_other_143 ?_
        replace hf := bnd hf
        obtain ⟨a110, rfl, hf⟩ := hf
        replace hf := bnd hf
        obtain ⟨h111, eh111, hf⟩ := hf
        refine y_iastore eh111 dX11_other_146 ?_
        refine y_aload_n (i := 0) dX11_other_147 rfl rfl ?_
        replace hf := bnd hf
        obtain ⟨r112, er112, hf⟩ := hf
        refine y_getR er112 fl11_44 dX11_other_148 ?_
        refine y_iload (i := 8) dX11_other_151 rfl ?_
        refine y_aload_n (i := 0) dX11_other_153 rfl rfl ?_
        replace hf := bnd hf
        obtain ⟨j113, ej113, hf⟩ := hf
        refine y_getJ ej113 fl11_210 dX11_other_154 ?_
        replace hf := bnd hf
        obtain ⟨a114, rfl, hf⟩ := hf
        replace hf := bnd hf
        obtain ⟨h115, eh115, hf⟩ := hf
        refine y_lastore eh115 dX11_other_157 ?_
        refine y_iload (i := 8) dX11_other_158 rfl ?_
        obtain rfl := Option.some.inj hf
        exact y_ret (v := some (.inl q106.1)) dX11_other_160 rfl
      · rw [if_pos hc] at hf
        refine y_bipush (v := (-5)) dX11_other_113 (by decide) ?_
        obtain rfl := Option.some.inj hf
        exact y_ret (v := some (.inl (-5))) dX11_other_115 rfl
    · rw [if_neg hc] at hf
      refine y_bipush (v := (-4)) dX11_other_101 (by decide) ?_
      obtain rfl := Option.some.inj hf
      exact y_ret (v := some (.inl (-4))) dX11_other_103 rfl
  · rw [if_neg hc] at hf
    refine y_bipush (v := (-3)) dX11_other_78 (by decide) ?_
    obtain rfl := Option.some.inj hf
    exact y_ret (v := some (.inl (-3))) dX11_other_80 rfl
def fX11_other_53 (z : Nat → Nat) (a0 : Nat) (x1 : Int32) (x2 : Int32) (x3 : Int32) (x4 : Int32) (x5 : Int32) (x6 : Int32) (h : aH) : Option (Int32 × aH) :=
  (obO h a0 9).bind fun fs102 =>
  (fX11_isHandle z a0 x4 h).bind fun q101 =>
  (if q101.1 = 0 then
  some ((-2), q101.2)
  else
  fX11_other_65 z a0 x1 x2 x3 x4 x5 x6 q101.2)
set_option maxHeartbeats 4000000 in
set_option maxRecDepth 100000 in
theorem xX11_other_53 {l : Launch} {g : aG} {d : Nat} (hK : 4 ≤ d + 1) {a0 : Nat} {x1 : Int32} {x2 : Int32} {x3 : Int32} {x4 : Int32} {x5 : Int32} {x6 : Int32} {h : aH} {q : Int32 × aH} (hf : fX11_other_53 g.2.2 a0 x1 x2 x3 x4 x5 x6 h = some q) : Y l g miX11_other (d + 1) 53 [some (.inr (.inr (some a0))), some (.inl x1), some (.inl x2), some (.inl x3), some (.inl x4), some (.inl x5), some (.inl x6), none, none] [] h (some (.inl q.1), q.2) := by
  unfold fX11_other_53 at hf
  refine y_aload_n (i := 0) dX11_other_53 rfl rfl ?_
  refine y_iload (i := 4) dX11_other_54 rfl ?_
  replace hf := bnd hf
  obtain ⟨fs102, efs102, hf⟩ := hf
  replace hf := bnd hf
  obtain ⟨q101, eq101, hf⟩ := hf
  refine y_callV (mj := miX11_isHandle) (args := [.inl x4]) (st := []) dX11_other_56 (gd_of 897 rfl rfl) (gd_of 899 rfl rfl) (gd_of 38 rfl rfl) okX11_isHandle (obO_spec efs102) rfl rfl (xX11_isHandle (by omega) eq101) (Nat.le_of_ble_eq_true rfl) rfl ?_
  show Y l g miX11_other (d + 1) 59 [some (.inr (.inr (some a0))), some (.inl x1), some (.inl x2), some (.inl x3), some (.inl x4), some (.inl x5), some (.inl x6), none, none] [.inl q101.1] q101.2 _
  refine y_if_ne (tgt := 65) dX11_other_59 (by decide) (fun hc => ?_) (fun hc => ?_)
  · rw [if_neg hc] at hf
    refine Y.weak (lv2 := [some (.inr (.inr (some a0))), some (.inl x1), some (.inl x2), some (.inl x3), some (.inl x4), some (.inl x5), some (.inl x6), none, none]) [true, true, true, true, true, true, true, false, false] rfl ?_
    exact xX11_other_65 hK hf
  · rw [if_pos hc] at hf
    refine y_bipush (v := (-2)) dX11_other_62 (by decide) ?_
    obtain rfl := Option.some.inj hf
    exact y_ret (v := some (.inl (-2))) dX11_other_64 rfl
def fX11_other_41 (z : Nat → Nat) (a0 : Nat) (x1 : Int32) (x2 : Int32) (x3 : Int32) (x4 : Int32) (x5 : Int32) (x6 : Int32) (h : aH) : Option (Int32 × aH) :=
  (if x1 = 6 then
  fX11_other_53 z a0 x1 x2 x3 x4 x5 x6 h
  else
  (if x1 = 9 then
  fX11_other_53 z a0 x1 x2 x3 x4 x5 x6 h
  else
  fX11_other_65 z a0 x1 x2 x3 x4 x5 x6 h))
set_option maxHeartbeats 4000000 in
set_option maxRecDepth 100000 in
theorem xX11_other_41 {l : Launch} {g : aG} {d : Nat} (hK : 4 ≤ d + 1) {a0 : Nat} {x1 : Int32} {x2 : Int32} {x3 : Int32} {x4 : Int32} {x5 : Int32} {x6 : Int32} {h : aH} {q : Int32 × aH} (hf : fX11_other_41 g.2.2 a0 x1 x2 x3 x4 x5 x6 h = some q) : Y l g miX11_other (d + 1) 41 [some (.inr (.inr (some a0))), some (.inl x1), some (.inl x2), some (.inl x3), some (.inl x4), some (.inl x5), some (.inl x6), none, none] [] h (some (.inl q.1), q.2) := by
  unfold fX11_other_41 at hf
  refine y_iload_n (i := 1) dX11_other_41 rfl rfl ?_
  refine y_bipush (v := 6) dX11_other_42 (by decide) ?_
  refine y_icmp_eq (tgt := 53) dX11_other_44 (by decide) (fun hc => ?_) (fun hc => ?_)
  · rw [if_pos hc] at hf
    refine Y.weak (lv2 := [some (.inr (.inr (some a0))), some (.inl x1), some (.inl x2), some (.inl x3), some (.inl x4), some (.inl x5), some (.inl x6), none, none]) [true, true, true, true, true, true, true, false, false] rfl ?_
    exact xX11_other_53 hK hf
  · rw [if_neg hc] at hf
    refine y_iload_n (i := 1) dX11_other_47 rfl rfl ?_
    refine y_bipush (v := 9) dX11_other_48 (by decide) ?_
    refine y_icmp_ne (tgt := 65) dX11_other_50 (by decide) (fun hc => ?_) (fun hc => ?_)
    · rw [if_neg hc] at hf
      refine Y.weak (lv2 := [some (.inr (.inr (some a0))), some (.inl x1), some (.inl x2), some (.inl x3), some (.inl x4), some (.inl x5), some (.inl x6), none, none]) [true, true, true, true, true, true, true, false, false] rfl ?_
      exact xX11_other_65 hK hf
    · rw [if_pos hc] at hf
      refine Y.weak (lv2 := [some (.inr (.inr (some a0))), some (.inl x1), some (.inl x2), some (.inl x3), some (.inl x4), some (.inl x5), some (.inl x6), none, none]) [true, true, true, true, true, true, true, false, false] rfl ?_
      exact xX11_other_53 hK hf
def fX11_other_33 (z : Nat → Nat) (a0 : Nat) (x1 : Int32) (x2 : Int32) (x3 : Int32) (x4 : Int32) (x5 : Int32) (x6 : Int32) (h : aH) : Option (Int32 × aH) :=
  (obO h a0 9).bind fun fs102 =>
  (fX11_isHandle z a0 x3 h).bind fun q101 =>
  (if q101.1 = 0 then
  some ((-2), q101.2)
  else
  fX11_other_41 z a0 x1 x2 x3 x4 x5 x6 q101.2)
set_option maxHeartbeats 4000000 in
set_option maxRecDepth 100000 in
theorem xX11_other_33 {l : Launch} {g : aG} {d : Nat} (hK : 4 ≤ d + 1) {a0 : Nat} {x1 : Int32} {x2 : Int32} {x3 : Int32} {x4 : Int32} {x5 : Int32} {x6 : Int32} {h : aH} {q : Int32 × aH} (hf : fX11_other_33 g.2.2 a0 x1 x2 x3 x4 x5 x6 h = some q) : Y l g miX11_other (d + 1) 33 [some (.inr (.inr (some a0))), some (.inl x1), some (.inl x2), some (.inl x3), some (.inl x4), some (.inl x5), some (.inl x6), none, none] [] h (some (.inl q.1), q.2) := by
  unfold fX11_other_33 at hf
  refine y_aload_n (i := 0) dX11_other_33 rfl rfl ?_
  refine y_iload_n (i := 3) dX11_other_34 rfl rfl ?_
  replace hf := bnd hf
  obtain ⟨fs102, efs102, hf⟩ := hf
  replace hf := bnd hf
  obtain ⟨q101, eq101, hf⟩ := hf
  refine y_callV (mj := miX11_isHandle) (args := [.inl x3]) (st := []) dX11_other_35 (gd_of 897 rfl rfl) (gd_of 899 rfl rfl) (gd_of 38 rfl rfl) okX11_isHandle (obO_spec efs102) rfl rfl (xX11_isHandle (by omega) eq101) (Nat.le_of_ble_eq_true rfl) rfl ?_
  show Y l g miX11_other (d + 1) 38 [some (.inr (.inr (some a0))), some (.inl x1), some (.inl x2), some (.inl x3), some (.inl x4), some (.inl x5), some (.inl x6), none, none] [.inl q101.1] q101.2 _
  refine y_if_eq (tgt := 62) dX11_other_38 (by decide) (fun hc => ?_) (fun hc => ?_)
  · rw [if_pos hc] at hf
    refine y_bipush (v := (-2)) dX11_other_62 (by decide) ?_
    obtain rfl := Option.some.inj hf
    exact y_ret (v := some (.inl (-2))) dX11_other_64 rfl
  · rw [if_neg hc] at hf
    refine Y.weak (lv2 := [some (.inr (.inr (some a0))), some (.inl x1), some (.inl x2), some (.inl x3), some (.inl x4), some (.inl x5), some (.inl x6), none, none]) [true, true, true, true, true, true, true, false, false] rfl ?_
    exact xX11_other_41 hK hf
def fX11_other (z : Nat → Nat) (a0 : Nat) (x1 : Int32) (x2 : Int32) (x3 : Int32) (x4 : Int32) (x5 : Int32) (x6 : Int32) (h : aH) : Option (Int32 × aH) :=
  (wrF h a0 [9] 0 (.inl 0)).bind fun h101 =>
  (obO h101 a0 9).bind fun fs103 =>
  (fX11_isHandle z a0 x2 h101).bind fun q102 =>
  (if q102.1 = 0 then
  some ((-2), q102.2)
  else
  (fX11_in z (Int32.toInt64 x1) 3 9 q102.2).bind fun q104 =>
  (if q104.1 = 0 then
  (if x1 = 12 then
  fX11_other_33 z a0 x1 x2 x3 x4 x5 x6 q104.2
  else
  fX11_other_41 z a0 x1 x2 x3 x4 x5 x6 q104.2)
  else
  fX11_other_33 z a0 x1 x2 x3 x4 x5 x6 q104.2))
set_option maxHeartbeats 4000000 in
set_option maxRecDepth 100000 in
theorem xX11_other {l : Launch} {g : aG} {d : Nat} (hK : 4 ≤ d) {a0 : Nat} {x1 : Int32} {x2 : Int32} {x3 : Int32} {x4 : Int32} {x5 : Int32} {x6 : Int32} {h : aH} {q : Int32 × aH} (hf : fX11_other g.2.2 a0 x1 x2 x3 x4 x5 x6 h = some q) : Ev l g miX11_other d [.inr (.inr (some a0)), .inl x1, .inl x2, .inl x3, .inl x4, .inl x5, .inl x6] h (some (.inl q.1), q.2) := by
  obtain ⟨d, rfl⟩ : ∃ e, d = e + 1 := ⟨d - 1, by omega⟩
  refine ⟨?_, Or.inl rfl, Nat.le_of_ble_eq_true rfl⟩
  unfold fX11_other at hf
  show Y l g miX11_other (d + 1) 0 [some (.inr (.inr (some a0))), some (.inl x1), some (.inl x2), some (.inl x3), some (.inl x4), some (.inl x5), some (.inl x6), none, none] [] h _
  refine y_aload_n (i := 0) dX11_other_0 rfl rfl ?_
  refine y_iconst (v := 0) dX11_other_1 (by decide) ?_
  replace hf := bnd hf
  obtain ⟨h101, eh101, hf⟩ := hf
  refine y_put eh101 (pl11_1_m rfl) dX11_other_2 ?_
  refine y_aload_n (i := 0) dX11_other_5 rfl rfl ?_
  refine y_iload_n (i := 2) dX11_other_6 rfl rfl ?_
  replace hf := bnd hf
  obtain ⟨fs103, efs103, hf⟩ := hf
  replace hf := bnd hf
  obtain ⟨q102, eq102, hf⟩ := hf
  refine y_callV (mj := miX11_isHandle) (args := [.inl x2]) (st := []) dX11_other_7 (gd_of 897 rfl rfl) (gd_of 899 rfl rfl) (gd_of 38 rfl rfl) okX11_isHandle (obO_spec efs103) rfl rfl (xX11_isHandle (by omega) eq102) (Nat.le_of_ble_eq_true rfl) rfl ?_
  show Y l g miX11_other (d + 1) 10 [some (.inr (.inr (some a0))), some (.inl x1), some (.inl x2), some (.inl x3), some (.inl x4), some (.inl x5), some (.inl x6), none, none] [.inl q102.1] q102.2 _
  refine y_if_eq (tgt := 62) dX11_other_10 (by decide) (fun hc => ?_) (fun hc => ?_)
  · rw [if_pos hc] at hf
    refine y_bipush (v := (-2)) dX11_other_62 (by decide) ?_
    obtain rfl := Option.some.inj hf
    exact y_ret (v := some (.inl (-2))) dX11_other_64 rfl
  · rw [if_neg hc] at hf
    refine y_iload_n (i := 1) dX11_other_13 rfl rfl ?_
    refine y_i2l dX11_other_14 ?_
    refine y_ldc2 (v := 3) dX11_other_15 (gd_of 883 rfl rfl) ?_
    refine y_ldc2 (v := 9) dX11_other_18 (gd_of 901 rfl rfl) ?_
    replace hf := bnd hf
    obtain ⟨q104, eq104, hf⟩ := hf
    refine y_callS (mj := miX11_in) (args := [.inr (.inl (Int32.toInt64 x1)), .inr (.inl 3), .inr (.inl 9)]) (st := []) dX11_other_21 (gd_of 878 rfl rfl) (gd_of 879 rfl rfl) okX11_in (xX11_in (by omega) eq104) (Nat.le_of_ble_eq_true rfl) rfl ?_
    show Y l g miX11_other (d + 1) 24 [some (.inr (.inr (some a0))), some (.inl x1), some (.inl x2), some (.inl x3), some (.inl x4), some (.inl x5), some (.inl x6), none, none] [.inl q104.1] q104.2 _
    refine y_if_ne (tgt := 33) dX11_other_24 (by decide) (fun hc => ?_) (fun hc => ?_)
    · rw [if_neg hc] at hf
      refine Y.weak (lv2 := [some (.inr (.inr (some a0))), some (.inl x1), some (.inl x2), some (.inl x3), some (.inl x4), some (.inl x5), some (.inl x6), none, none]) [true, true, true, true, true, true, true, false, false] rfl ?_
      exact xX11_other_33 hK hf
    · rw [if_pos hc] at hf
      refine y_iload_n (i := 1) dX11_other_27 rfl rfl ?_
      refine y_bipush (v := 12) dX11_other_28 (by decide) ?_
      refine y_icmp_ne (tgt := 41) dX11_other_30 (by decide) (fun hc => ?_) (fun hc => ?_)
      · rw [if_neg hc] at hf
        refine Y.weak (lv2 := [some (.inr (.inr (some a0))), some (.inl x1), some (.inl x2), some (.inl x3), some (.inl x4), some (.inl x5), some (.inl x6), none, none]) [true, true, true, true, true, true, true, false, false] rfl ?_
        exact xX11_other_41 hK hf
      · rw [if_pos hc] at hf
        refine Y.weak (lv2 := [some (.inr (.inr (some a0))), some (.inl x1), some (.inl x2), some (.inl x3), some (.inl x4), some (.inl x5), some (.inl x6), none, none]) [true, true, true, true, true, true, true, false, false] rfl ?_
        exact xX11_other_33 hK hf
set_option maxRecDepth 100000 in
theorem dX11_take_0 : decode prog_13_method_7_code 0 = .ok (.aload_n 0, 1) := by decide +kernel
set_option maxRecDepth 100000 in
theorem dX11_take_1 : decode prog_13_method_7_code 1 = .ok (.iload_n 1, 1) := by decide +kernel
set_option maxRecDepth 100000 in
theorem dX11_take_2 : decode prog_13_method_7_code 2 = .ok (.putfield 118, 3) := by decide +kernel
set_option maxRecDepth 100000 in
theorem dX11_take_5 : decode prog_13_method_7_code 5 = .ok (.aload_n 0, 1) := by decide +kernel
set_option maxRecDepth 100000 in
theorem dX11_take_6 : decode prog_13_method_7_code 6 = .ok (.getfield 72, 3) := by decide +kernel
set_option maxRecDepth 100000 in
theorem dX11_take_9 : decode prog_13_method_7_code 9 = .ok (.iconst 0, 1) := by decide +kernel
set_option maxRecDepth 100000 in
theorem dX11_take_10 : decode prog_13_method_7_code 10 = .ok (.iload_n 2, 1) := by decide +kernel
set_option maxRecDepth 100000 in
theorem dX11_take_11 : decode prog_13_method_7_code 11 = .ok (.iastore, 1) := by decide +kernel
set_option maxRecDepth 100000 in
theorem dX11_take_12 : decode prog_13_method_7_code 12 = .ok (.aload_n 0, 1) := by decide +kernel
set_option maxRecDepth 100000 in
theorem dX11_take_13 : decode prog_13_method_7_code 13 = .ok (.getfield 72, 3) := by decide +kernel
set_option maxRecDepth 100000 in
theorem dX11_take_16 : decode prog_13_method_7_code 16 = .ok (.iconst 1, 1) := by decide +kernel
set_option maxRecDepth 100000 in
theorem dX11_take_17 : decode prog_13_method_7_code 17 = .ok (.iload_n 3, 1) := by decide +kernel
set_option maxRecDepth 100000 in
theorem dX11_take_18 : decode prog_13_method_7_code 18 = .ok (.iastore, 1) := by decide +kernel
set_option maxRecDepth 100000 in
theorem dX11_take_19 : decode prog_13_method_7_code 19 = .ok (.aload_n 0, 1) := by decide +kernel
set_option maxRecDepth 100000 in
theorem dX11_take_20 : decode prog_13_method_7_code 20 = .ok (.getfield 72, 3) := by decide +kernel
set_option maxRecDepth 100000 in
theorem dX11_take_23 : decode prog_13_method_7_code 23 = .ok (.iconst 2, 1) := by decide +kernel
set_option maxRecDepth 100000 in
theorem dX11_take_24 : decode prog_13_method_7_code 24 = .ok (.iload 4, 2) := by decide +kernel
set_option maxRecDepth 100000 in
theorem dX11_take_26 : decode prog_13_method_7_code 26 = .ok (.iastore, 1) := by decide +kernel
set_option maxRecDepth 100000 in
theorem dX11_take_27 : decode prog_13_method_7_code 27 = .ok (.return_, 1) := by decide +kernel

def fX11_take (z : Nat → Nat) (a0 : Nat) (x1 : Int32) (x2 : Int32) (x3 : Int32) (x4 : Int32) (h : aH) : Option aH :=
  (wrF h a0 [9] 28 (.inl x1)).bind fun h101 =>
  (rdR h101 a0 [9] 27).bind fun r102 =>
  (r102).bind fun a103 =>
  (awI h101 a103 0 x2).bind fun h104 =>
  (rdR h104 a0 [9] 27).bind fun r105 =>
  (r105).bind fun a106 =>
  (awI h104 a106 1 x3).bind fun h107 =>
  (rdR h107 a0 [9] 27).bind fun r108 =>
  (r108).bind fun a109 =>
  (awI h107 a109 2 x4).bind fun h110 =>
  some h110
set_option maxHeartbeats 4000000 in
set_option maxRecDepth 100000 in
theorem xX11_take {l : Launch} {g : aG} {d : Nat} (hK : 0 ≤ d) {a0 : Nat} {x1 : Int32} {x2 : Int32} {x3 : Int32} {x4 : Int32} {h : aH} {q : aH} (hf : fX11_take g.2.2 a0 x1 x2 x3 x4 h = some q) : Ev l g miX11_take d [.inr (.inr (some a0)), .inl x1, .inl x2, .inl x3, .inl x4] h (none, q) := by
  refine ⟨?_, rfl, Nat.le_of_ble_eq_true rfl⟩
  unfold fX11_take at hf
  show Y l g miX11_take d 0 [some (.inr (.inr (some a0))), some (.inl x1), some (.inl x2), some (.inl x3), some (.inl x4)] [] h _
  refine y_aload_n (i := 0) dX11_take_0 rfl rfl ?_
  refine y_iload_n (i := 1) dX11_take_1 rfl rfl ?_
  replace hf := bnd hf
  obtain ⟨h101, eh101, hf⟩ := hf
  refine y_put eh101 (pl11_118_m rfl) dX11_take_2 ?_
  refine y_aload_n (i := 0) dX11_take_5 rfl rfl ?_
  replace hf := bnd hf
  obtain ⟨r102, er102, hf⟩ := hf
  refine y_getR er102 fl11_72 dX11_take_6 ?_
  refine y_iconst (v := 0) dX11_take_9 (by decide) ?_
  refine y_iload_n (i := 2) dX11_take_10 rfl rfl ?_
  replace hf := bnd hf
  obtain ⟨a103, rfl, hf⟩ := hf
  replace hf := bnd hf
  obtain ⟨h104, eh104, hf⟩ := hf
  refine y_iastore eh104 dX11_take_11 ?_
  refine y_aload_n (i := 0) dX11_take_12 rfl rfl ?_
  replace hf := bnd hf
  obtain ⟨r105, er105, hf⟩ := hf
  refine y_getR er105 fl11_72 dX11_take_13 ?_
  refine y_iconst (v := 1) dX11_take_16 (by decide) ?_
  refine y_iload_n (i := 3) dX11_take_17 rfl rfl ?_
  replace hf := bnd hf
  obtain ⟨a106, rfl, hf⟩ := hf
  replace hf := bnd hf
  obtain ⟨h107, eh107, hf⟩ := hf
  refine y_iastore eh107 dX11_take_18 ?_
  refine y_aload_n (i := 0) dX11_take_19 rfl rfl ?_
  replace hf := bnd hf
  obtain ⟨r108, er108, hf⟩ := hf
  refine y_getR er108 fl11_72 dX11_take_20 ?_
  refine y_iconst (v := 2) dX11_take_23 (by decide) ?_
  refine y_iload (i := 4) dX11_take_24 rfl ?_
  replace hf := bnd hf
  obtain ⟨a109, rfl, hf⟩ := hf
  replace hf := bnd hf
  obtain ⟨h110, eh110, hf⟩ := hf
  refine y_iastore eh110 dX11_take_26 ?_
  obtain rfl := Option.some.inj hf
  exact y_ret (v := none) dX11_take_27 rfl
set_option maxRecDepth 100000 in
theorem dX11_plain_0 : decode prog_13_method_8_code 0 = .ok (.aload_n 0, 1) := by decide +kernel
set_option maxRecDepth 100000 in
theorem dX11_plain_1 : decode prog_13_method_8_code 1 = .ok (.iconst 0, 1) := by decide +kernel
set_option maxRecDepth 100000 in
theorem dX11_plain_2 : decode prog_13_method_8_code 2 = .ok (.putfield 1, 3) := by decide +kernel
set_option maxRecDepth 100000 in
theorem dX11_plain_5 : decode prog_13_method_8_code 5 = .ok (.iload_n 1, 1) := by decide +kernel
set_option maxRecDepth 100000 in
theorem dX11_plain_6 : decode prog_13_method_8_code 6 = .ok (.ifCond .ne 20, 3) := by decide +kernel
set_option maxRecDepth 100000 in
theorem dX11_plain_9 : decode prog_13_method_8_code 9 = .ok (.iload_n 2, 1) := by decide +kernel
set_option maxRecDepth 100000 in
theorem dX11_plain_10 : decode prog_13_method_8_code 10 = .ok (.iconst 3, 1) := by decide +kernel
set_option maxRecDepth 100000 in
theorem dX11_plain_11 : decode prog_13_method_8_code 11 = .ok (.if_icmp .ne 15, 3) := by decide +kernel
set_option maxRecDepth 100000 in
theorem dX11_plain_14 : decode prog_13_method_8_code 14 = .ok (.aload_n 0, 1) := by decide +kernel
set_option maxRecDepth 100000 in
theorem dX11_plain_15 : decode prog_13_method_8_code 15 = .ok (.iload_n 3, 1) := by decide +kernel
set_option maxRecDepth 100000 in
theorem dX11_plain_16 : decode prog_13_method_8_code 16 = .ok (.i2l, 1) := by decide +kernel
set_option maxRecDepth 100000 in
theorem dX11_plain_17 : decode prog_13_method_8_code 17 = .ok (.invokevirtual 121, 3) := by decide +kernel
set_option maxRecDepth 100000 in
theorem dX11_plain_20 : decode prog_13_method_8_code 20 = .ok (.ifCond .ne 6, 3) := by decide +kernel
set_option maxRecDepth 100000 in
theorem dX11_plain_23 : decode prog_13_method_8_code 23 = .ok (.bipush (-2), 2) := by decide +kernel
set_option maxRecDepth 100000 in
theorem dX11_plain_25 : decode prog_13_method_8_code 25 = .ok (.ireturn, 1) := by decide +kernel
set_option maxRecDepth 100000 in
theorem dX11_plain_26 : decode prog_13_method_8_code 26 = .ok (.iload_n 1, 1) := by decide +kernel
set_option maxRecDepth 100000 in
theorem dX11_plain_27 : decode prog_13_method_8_code 27 = .ok (.i2l, 1) := by decide +kernel
set_option maxRecDepth 100000 in
theorem dX11_plain_28 : decode prog_13_method_8_code 28 = .ok (.lconst 0, 1) := by decide +kernel
set_option maxRecDepth 100000 in
theorem dX11_plain_29 : decode prog_13_method_8_code 29 = .ok (.ldc2_w 125, 3) := by decide +kernel
set_option maxRecDepth 100000 in
theorem dX11_plain_32 : decode prog_13_method_8_code 32 = .ok (.invokestatic 111, 3) := by decide +kernel
set_option maxRecDepth 100000 in
theorem dX11_plain_35 : decode prog_13_method_8_code 35 = .ok (.ifCond .eq 60, 3) := by decide +kernel
set_option maxRecDepth 100000 in
theorem dX11_plain_38 : decode prog_13_method_8_code 38 = .ok (.iload_n 1, 1) := by decide +kernel
set_option maxRecDepth 100000 in
theorem dX11_plain_39 : decode prog_13_method_8_code 39 = .ok (.ifCond .eq 9, 3) := by decide +kernel
set_option maxRecDepth 100000 in
theorem dX11_plain_42 : decode prog_13_method_8_code 42 = .ok (.iload_n 1, 1) := by decide +kernel
set_option maxRecDepth 100000 in
theorem dX11_plain_43 : decode prog_13_method_8_code 43 = .ok (.bipush 12, 2) := by decide +kernel
set_option maxRecDepth 100000 in
theorem dX11_plain_45 : decode prog_13_method_8_code 45 = .ok (.if_icmp .ne 15, 3) := by decide +kernel
set_option maxRecDepth 100000 in
theorem dX11_plain_48 : decode prog_13_method_8_code 48 = .ok (.iload_n 2, 1) := by decide +kernel
set_option maxRecDepth 100000 in
theorem dX11_plain_49 : decode prog_13_method_8_code 49 = .ok (.i2l, 1) := by decide +kernel
set_option maxRecDepth 100000 in
theorem dX11_plain_50 : decode prog_13_method_8_code 50 = .ok (.lconst 0, 1) := by decide +kernel
set_option maxRecDepth 100000 in
theorem dX11_plain_51 : decode prog_13_method_8_code 51 = .ok (.ldc2_w 127, 3) := by decide +kernel
set_option maxRecDepth 100000 in
theorem dX11_plain_54 : decode prog_13_method_8_code 54 = .ok (.invokestatic 111, 3) := by decide +kernel
set_option maxRecDepth 100000 in
theorem dX11_plain_57 : decode prog_13_method_8_code 57 = .ok (.ifCond .eq 38, 3) := by decide +kernel
set_option maxRecDepth 100000 in
theorem dX11_plain_60 : decode prog_13_method_8_code 60 = .ok (.iload_n 1, 1) := by decide +kernel
set_option maxRecDepth 100000 in
theorem dX11_plain_61 : decode prog_13_method_8_code 61 = .ok (.iconst 1, 1) := by decide +kernel
set_option maxRecDepth 100000 in
theorem dX11_plain_62 : decode prog_13_method_8_code 62 = .ok (.if_icmp .ne 15, 3) := by decide +kernel
set_option maxRecDepth 100000 in
theorem dX11_plain_65 : decode prog_13_method_8_code 65 = .ok (.iload_n 2, 1) := by decide +kernel
set_option maxRecDepth 100000 in
theorem dX11_plain_66 : decode prog_13_method_8_code 66 = .ok (.i2l, 1) := by decide +kernel
set_option maxRecDepth 100000 in
theorem dX11_plain_67 : decode prog_13_method_8_code 67 = .ok (.lconst 0, 1) := by decide +kernel
set_option maxRecDepth 100000 in
theorem dX11_plain_68 : decode prog_13_method_8_code 68 = .ok (.ldc2_w 129, 3) := by decide +kernel
set_option maxRecDepth 100000 in
theorem dX11_plain_71 : decode prog_13_method_8_code 71 = .ok (.invokestatic 111, 3) := by decide +kernel
set_option maxRecDepth 100000 in
theorem dX11_plain_74 : decode prog_13_method_8_code 74 = .ok (.ifCond .eq 21, 3) := by decide +kernel
set_option maxRecDepth 100000 in
theorem dX11_plain_77 : decode prog_13_method_8_code 77 = .ok (.iload_n 1, 1) := by decide +kernel
set_option maxRecDepth 100000 in
theorem dX11_plain_78 : decode prog_13_method_8_code 78 = .ok (.bipush 12, 2) := by decide +kernel
set_option maxRecDepth 100000 in
theorem dX11_plain_80 : decode prog_13_method_8_code 80 = .ok (.if_icmp .ne 18, 3) := by decide +kernel
set_option maxRecDepth 100000 in
theorem dX11_plain_83 : decode prog_13_method_8_code 83 = .ok (.iload_n 3, 1) := by decide +kernel
set_option maxRecDepth 100000 in
theorem dX11_plain_84 : decode prog_13_method_8_code 84 = .ok (.i2l, 1) := by decide +kernel
set_option maxRecDepth 100000 in
theorem dX11_plain_85 : decode prog_13_method_8_code 85 = .ok (.lconst 0, 1) := by decide +kernel
set_option maxRecDepth 100000 in
theorem dX11_plain_86 : decode prog_13_method_8_code 86 = .ok (.ldc2_w 131, 3) := by decide +kernel
set_option maxRecDepth 100000 in
theorem dX11_plain_89 : decode prog_13_method_8_code 89 = .ok (.invokestatic 111, 3) := by decide +kernel
set_option maxRecDepth 100000 in
theorem dX11_plain_92 : decode prog_13_method_8_code 92 = .ok (.ifCond .ne 6, 3) := by decide +kernel
set_option maxRecDepth 100000 in
theorem dX11_plain_95 : decode prog_13_method_8_code 95 = .ok (.bipush (-3), 2) := by decide +kernel
set_option maxRecDepth 100000 in
theorem dX11_plain_97 : decode prog_13_method_8_code 97 = .ok (.ireturn, 1) := by decide +kernel
set_option maxRecDepth 100000 in
theorem dX11_plain_98 : decode prog_13_method_8_code 98 = .ok (.aload_n 0, 1) := by decide +kernel
set_option maxRecDepth 100000 in
theorem dX11_plain_99 : decode prog_13_method_8_code 99 = .ok (.getfield 108, 3) := by decide +kernel
set_option maxRecDepth 100000 in
theorem dX11_plain_102 : decode prog_13_method_8_code 102 = .ok (.bipush 60, 2) := by decide +kernel
set_option maxRecDepth 100000 in
theorem dX11_plain_104 : decode prog_13_method_8_code 104 = .ok (.if_icmp .ne 6, 3) := by decide +kernel
set_option maxRecDepth 100000 in
theorem dX11_plain_107 : decode prog_13_method_8_code 107 = .ok (.bipush (-5), 2) := by decide +kernel
set_option maxRecDepth 100000 in
theorem dX11_plain_109 : decode prog_13_method_8_code 109 = .ok (.ireturn, 1) := by decide +kernel
set_option maxRecDepth 100000 in
theorem dX11_plain_110 : decode prog_13_method_8_code 110 = .ok (.iconst 0, 1) := by decide +kernel
set_option maxRecDepth 100000 in
theorem dX11_plain_111 : decode prog_13_method_8_code 111 = .ok (.istore 4, 2) := by decide +kernel
set_option maxRecDepth 100000 in
theorem dX11_plain_113 : decode prog_13_method_8_code 113 = .ok (.iload_n 1, 1) := by decide +kernel
set_option maxRecDepth 100000 in
theorem dX11_plain_114 : decode prog_13_method_8_code 114 = .ok (.tableswitch 173 0 13 #[70, 84, 173, 173, 173, 173, 173, 98, 112, 123, 137, 148, 70, 162], 70) := by decide +kernel
set_option maxRecDepth 100000 in
theorem dX11_plain_184 : decode prog_13_method_8_code 184 = .ok (.aload_n 0, 1) := by decide +kernel
set_option maxRecDepth 100000 in
theorem dX11_plain_185 : decode prog_13_method_8_code 185 = .ok (.iconst 0, 1) := by decide +kernel
set_option maxRecDepth 100000 in
theorem dX11_plain_186 : decode prog_13_method_8_code 186 = .ok (.iconst 0, 1) := by decide +kernel
set_option maxRecDepth 100000 in
theorem dX11_plain_187 : decode prog_13_method_8_code 187 = .ok (.iconst 0, 1) := by decide +kernel
set_option maxRecDepth 100000 in
theorem dX11_plain_188 : decode prog_13_method_8_code 188 = .ok (.iconst 0, 1) := by decide +kernel
set_option maxRecDepth 100000 in
theorem dX11_plain_189 : decode prog_13_method_8_code 189 = .ok (.invokevirtual 133, 3) := by decide +kernel
set_option maxRecDepth 100000 in
theorem dX11_plain_192 : decode prog_13_method_8_code 192 = .ok (.iload_n 2, 1) := by decide +kernel
set_option maxRecDepth 100000 in
theorem dX11_plain_193 : decode prog_13_method_8_code 193 = .ok (.istore 4, 2) := by decide +kernel
set_option maxRecDepth 100000 in
theorem dX11_plain_195 : decode prog_13_method_8_code 195 = .ok (.goto 100, 3) := by decide +kernel
set_option maxRecDepth 100000 in
theorem dX11_plain_198 : decode prog_13_method_8_code 198 = .ok (.aload_n 0, 1) := by decide +kernel
set_option maxRecDepth 100000 in
theorem dX11_plain_199 : decode prog_13_method_8_code 199 = .ok (.iconst 1, 1) := by decide +kernel
set_option maxRecDepth 100000 in
theorem dX11_plain_200 : decode prog_13_method_8_code 200 = .ok (.iload_n 2, 1) := by decide +kernel
set_option maxRecDepth 100000 in
theorem dX11_plain_201 : decode prog_13_method_8_code 201 = .ok (.iconst 0, 1) := by decide +kernel
set_option maxRecDepth 100000 in
theorem dX11_plain_202 : decode prog_13_method_8_code 202 = .ok (.iconst 0, 1) := by decide +kernel
set_option maxRecDepth 100000 in
theorem dX11_plain_203 : decode prog_13_method_8_code 203 = .ok (.invokevirtual 133, 3) := by decide +kernel
set_option maxRecDepth 100000 in
theorem dX11_plain_206 : decode prog_13_method_8_code 206 = .ok (.iload_n 2, 1) := by decide +kernel
set_option maxRecDepth 100000 in
theorem dX11_plain_207 : decode prog_13_method_8_code 207 = .ok (.istore 4, 2) := by decide +kernel
set_option maxRecDepth 100000 in
theorem dX11_plain_209 : decode prog_13_method_8_code 209 = .ok (.goto 86, 3) := by decide +kernel
set_option maxRecDepth 100000 in
theorem dX11_plain_212 : decode prog_13_method_8_code 212 = .ok (.aload_n 0, 1) := by decide +kernel
set_option maxRecDepth 100000 in
theorem dX11_plain_213 : decode prog_13_method_8_code 213 = .ok (.iconst 2, 1) := by decide +kernel
set_option maxRecDepth 100000 in
theorem dX11_plain_214 : decode prog_13_method_8_code 214 = .ok (.iconst 1, 1) := by decide +kernel
set_option maxRecDepth 100000 in
theorem dX11_plain_215 : decode prog_13_method_8_code 215 = .ok (.iconst 1, 1) := by decide +kernel
set_option maxRecDepth 100000 in
theorem dX11_plain_216 : decode prog_13_method_8_code 216 = .ok (.iconst 0, 1) := by decide +kernel
set_option maxRecDepth 100000 in
theorem dX11_plain_217 : decode prog_13_method_8_code 217 = .ok (.invokevirtual 133, 3) := by decide +kernel
set_option maxRecDepth 100000 in
theorem dX11_plain_220 : decode prog_13_method_8_code 220 = .ok (.iconst 1, 1) := by decide +kernel
set_option maxRecDepth 100000 in
theorem dX11_plain_221 : decode prog_13_method_8_code 221 = .ok (.istore 4, 2) := by decide +kernel
set_option maxRecDepth 100000 in
theorem dX11_plain_223 : decode prog_13_method_8_code 223 = .ok (.goto 72, 3) := by decide +kernel
set_option maxRecDepth 100000 in
theorem dX11_plain_226 : decode prog_13_method_8_code 226 = .ok (.aload_n 0, 1) := by decide +kernel
set_option maxRecDepth 100000 in
theorem dX11_plain_227 : decode prog_13_method_8_code 227 = .ok (.iconst 2, 1) := by decide +kernel
set_option maxRecDepth 100000 in
theorem dX11_plain_228 : decode prog_13_method_8_code 228 = .ok (.iconst 3, 1) := by decide +kernel
set_option maxRecDepth 100000 in
theorem dX11_plain_229 : decode prog_13_method_8_code 229 = .ok (.iconst 0, 1) := by decide +kernel
set_option maxRecDepth 100000 in
theorem dX11_plain_230 : decode prog_13_method_8_code 230 = .ok (.iconst 0, 1) := by decide +kernel
set_option maxRecDepth 100000 in
theorem dX11_plain_231 : decode prog_13_method_8_code 231 = .ok (.invokevirtual 133, 3) := by decide +kernel
set_option maxRecDepth 100000 in
theorem dX11_plain_234 : decode prog_13_method_8_code 234 = .ok (.goto 61, 3) := by decide +kernel
set_option maxRecDepth 100000 in
theorem dX11_plain_237 : decode prog_13_method_8_code 237 = .ok (.aload_n 0, 1) := by decide +kernel
set_option maxRecDepth 100000 in
theorem dX11_plain_238 : decode prog_13_method_8_code 238 = .ok (.iconst 3, 1) := by decide +kernel
set_option maxRecDepth 100000 in
theorem dX11_plain_239 : decode prog_13_method_8_code 239 = .ok (.iconst 3, 1) := by decide +kernel
set_option maxRecDepth 100000 in
theorem dX11_plain_240 : decode prog_13_method_8_code 240 = .ok (.iconst 0, 1) := by decide +kernel
set_option maxRecDepth 100000 in
theorem dX11_plain_241 : decode prog_13_method_8_code 241 = .ok (.iconst 0, 1) := by decide +kernel
set_option maxRecDepth 100000 in
theorem dX11_plain_242 : decode prog_13_method_8_code 242 = .ok (.invokevirtual 133, 3) := by decide +kernel
set_option maxRecDepth 100000 in
theorem dX11_plain_245 : decode prog_13_method_8_code 245 = .ok (.iconst 4, 1) := by decide +kernel
set_option maxRecDepth 100000 in
theorem dX11_plain_246 : decode prog_13_method_8_code 246 = .ok (.istore 4, 2) := by decide +kernel
set_option maxRecDepth 100000 in
theorem dX11_plain_248 : decode prog_13_method_8_code 248 = .ok (.goto 47, 3) := by decide +kernel
set_option maxRecDepth 100000 in
theorem dX11_plain_251 : decode prog_13_method_8_code 251 = .ok (.aload_n 0, 1) := by decide +kernel
set_option maxRecDepth 100000 in
theorem dX11_plain_252 : decode prog_13_method_8_code 252 = .ok (.iconst 1, 1) := by decide +kernel
set_option maxRecDepth 100000 in
theorem dX11_plain_253 : decode prog_13_method_8_code 253 = .ok (.iconst 3, 1) := by decide +kernel
set_option maxRecDepth 100000 in
theorem dX11_plain_254 : decode prog_13_method_8_code 254 = .ok (.iconst 0, 1) := by decide +kernel
set_option maxRecDepth 100000 in
theorem dX11_plain_255 : decode prog_13_method_8_code 255 = .ok (.iconst 0, 1) := by decide +kernel
set_option maxRecDepth 100000 in
theorem dX11_plain_256 : decode prog_13_method_8_code 256 = .ok (.invokevirtual 133, 3) := by decide +kernel
set_option maxRecDepth 100000 in
theorem dX11_plain_259 : decode prog_13_method_8_code 259 = .ok (.goto 36, 3) := by decide +kernel
set_option maxRecDepth 100000 in
theorem dX11_plain_262 : decode prog_13_method_8_code 262 = .ok (.aload_n 0, 1) := by decide +kernel
set_option maxRecDepth 100000 in
theorem dX11_plain_263 : decode prog_13_method_8_code 263 = .ok (.iconst 1, 1) := by decide +kernel
set_option maxRecDepth 100000 in
theorem dX11_plain_264 : decode prog_13_method_8_code 264 = .ok (.iconst 0, 1) := by decide +kernel
set_option maxRecDepth 100000 in
theorem dX11_plain_265 : decode prog_13_method_8_code 265 = .ok (.iconst 0, 1) := by decide +kernel
set_option maxRecDepth 100000 in
theorem dX11_plain_266 : decode prog_13_method_8_code 266 = .ok (.iconst 0, 1) := by decide +kernel
set_option maxRecDepth 100000 in
theorem dX11_plain_267 : decode prog_13_method_8_code 267 = .ok (.invokevirtual 133, 3) := by decide +kernel
set_option maxRecDepth 100000 in
theorem dX11_plain_270 : decode prog_13_method_8_code 270 = .ok (.iconst 3, 1) := by decide +kernel
set_option maxRecDepth 100000 in
theorem dX11_plain_271 : decode prog_13_method_8_code 271 = .ok (.istore 4, 2) := by decide +kernel
set_option maxRecDepth 100000 in
theorem dX11_plain_273 : decode prog_13_method_8_code 273 = .ok (.goto 22, 3) := by decide +kernel
set_option maxRecDepth 100000 in
theorem dX11_plain_276 : decode prog_13_method_8_code 276 = .ok (.aload_n 0, 1) := by decide +kernel
set_option maxRecDepth 100000 in
theorem dX11_plain_277 : decode prog_13_method_8_code 277 = .ok (.iconst 0, 1) := by decide +kernel
set_option maxRecDepth 100000 in
theorem dX11_plain_278 : decode prog_13_method_8_code 278 = .ok (.iconst 0, 1) := by decide +kernel
set_option maxRecDepth 100000 in
theorem dX11_plain_279 : decode prog_13_method_8_code 279 = .ok (.iconst 0, 1) := by decide +kernel
set_option maxRecDepth 100000 in
theorem dX11_plain_280 : decode prog_13_method_8_code 280 = .ok (.iconst 0, 1) := by decide +kernel
set_option maxRecDepth 100000 in
theorem dX11_plain_281 : decode prog_13_method_8_code 281 = .ok (.invokevirtual 133, 3) := by decide +kernel
set_option maxRecDepth 100000 in
theorem dX11_plain_284 : decode prog_13_method_8_code 284 = .ok (.goto 11, 3) := by decide +kernel
set_option maxRecDepth 100000 in
theorem dX11_plain_287 : decode prog_13_method_8_code 287 = .ok (.aload_n 0, 1) := by decide +kernel
set_option maxRecDepth 100000 in
theorem dX11_plain_288 : decode prog_13_method_8_code 288 = .ok (.iconst 2, 1) := by decide +kernel
set_option maxRecDepth 100000 in
theorem dX11_plain_289 : decode prog_13_method_8_code 289 = .ok (.iconst 0, 1) := by decide +kernel
set_option maxRecDepth 100000 in
theorem dX11_plain_290 : decode prog_13_method_8_code 290 = .ok (.iconst 0, 1) := by decide +kernel
set_option maxRecDepth 100000 in
theorem dX11_plain_291 : decode prog_13_method_8_code 291 = .ok (.iconst 0, 1) := by decide +kernel
set_option maxRecDepth 100000 in
theorem dX11_plain_292 : decode prog_13_method_8_code 292 = .ok (.invokevirtual 133, 3) := by decide +kernel
set_option maxRecDepth 100000 in
theorem dX11_plain_295 : decode prog_13_method_8_code 295 = .ok (.aload_n 0, 1) := by decide +kernel
set_option maxRecDepth 100000 in
theorem dX11_plain_296 : decode prog_13_method_8_code 296 = .ok (.iload_n 1, 1) := by decide +kernel
set_option maxRecDepth 100000 in
theorem dX11_plain_297 : decode prog_13_method_8_code 297 = .ok (.iload 4, 2) := by decide +kernel
set_option maxRecDepth 100000 in
theorem dX11_plain_299 : decode prog_13_method_8_code 299 = .ok (.iconst 0, 1) := by decide +kernel
set_option maxRecDepth 100000 in
theorem dX11_plain_300 : decode prog_13_method_8_code 300 = .ok (.iconst 0, 1) := by decide +kernel
set_option maxRecDepth 100000 in
theorem dX11_plain_301 : decode prog_13_method_8_code 301 = .ok (.iconst 0, 1) := by decide +kernel
set_option maxRecDepth 100000 in
theorem dX11_plain_302 : decode prog_13_method_8_code 302 = .ok (.iload_n 2, 1) := by decide +kernel
set_option maxRecDepth 100000 in
theorem dX11_plain_303 : decode prog_13_method_8_code 303 = .ok (.iload_n 3, 1) := by decide +kernel
set_option maxRecDepth 100000 in
theorem dX11_plain_304 : decode prog_13_method_8_code 304 = .ok (.invokevirtual 137, 3) := by decide +kernel
set_option maxRecDepth 100000 in
theorem dX11_plain_307 : decode prog_13_method_8_code 307 = .ok (.ireturn, 1) := by decide +kernel
set_option maxRecDepth 100000 in
theorem okX11_take : mOk miX11_take 4 := ⟨(gd_of 888 rfl rfl), (gd_of 76 rfl rfl), by decide +kernel, ⟨by decide +kernel, by decide +kernel, by decide +kernel⟩, by decide⟩
def fX11_plain_295 (z : Nat → Nat) (a0 : Nat) (x1 : Int32) (x2 : Int32) (x3 : Int32) (x4 : Int32) (h : aH) : Option (Int32 × aH) :=
  (obO h a0 9).bind fun fs102 =>
  (fX11_newHandle z a0 x1 x4 0 0 0 x2 x3 h).bind fun q101 =>
  some (q101.1, q101.2)
set_option maxHeartbeats 4000000 in
set_option maxRecDepth 100000 in
theorem xX11_plain_295 {l : Launch} {g : aG} {d : Nat} (hK : 2 ≤ d + 1) {a0 : Nat} {x1 : Int32} {x2 : Int32} {x3 : Int32} {x4 : Int32} {h : aH} {q : Int32 × aH} (hf : fX11_plain_295 g.2.2 a0 x1 x2 x3 x4 h = some q) : Y l g miX11_plain (d + 1) 295 [some (.inr (.inr (some a0))), some (.inl x1), some (.inl x2), some (.inl x3), some (.inl x4)] [] h (some (.inl q.1), q.2) := by
  unfold fX11_plain_295 at hf
  refine y_aload_n (i := 0) dX11_plain_295 rfl rfl ?_
  refine y_iload_n (i := 1) dX11_plain_296 rfl rfl ?_
  refine y_iload (i := 4) dX11_plain_297 rfl ?_
  refine y_iconst (v := 0) dX11_plain_299 (by decide) ?_
  refine y_iconst (v := 0) dX11_plain_300 (by decide) ?_
  refine y_iconst (v := 0) dX11_plain_301 (by decide) ?_
  refine y_iload_n (i := 2) dX11_plain_302 rfl rfl ?_
  refine y_iload_n (i := 3) dX11_plain_303 rfl rfl ?_
  replace hf := bnd hf
  obtain ⟨fs102, efs102, hf⟩ := hf
  replace hf := bnd hf
  obtain ⟨q101, eq101, hf⟩ := hf
  refine y_callV (mj := miX11_newHandle) (args := [.inl x1, .inl x4, .inl 0, .inl 0, .inl 0, .inl x2, .inl x3]) (st := []) dX11_plain_304 (gd_of 889 rfl rfl) (gd_of 891 rfl rfl) (gd_of 37 rfl rfl) okX11_newHandle (obO_spec efs102) rfl rfl (xX11_newHandle (by omega) eq101) (Nat.le_of_ble_eq_true rfl) rfl ?_
  show Y l g miX11_plain (d + 1) 307 [some (.inr (.inr (some a0))), some (.inl x1), some (.inl x2), some (.inl x3), some (.inl x4)] [.inl q101.1] q101.2 _
  obtain rfl := Option.some.inj hf
  exact y_ret (v := some (.inl q101.1)) dX11_plain_307 rfl
def fX11_plain_184 (z : Nat → Nat) (a0 : Nat) (x1 : Int32) (x2 : Int32) (x3 : Int32) (h : aH) : Option (Int32 × aH) :=
  (obO h a0 9).bind fun fs102 =>
  (fX11_take z a0 0 0 0 0 h).bind fun q101 =>
  fX11_plain_295 z a0 x1 x2 x3 x2 q101
set_option maxHeartbeats 4000000 in
set_option maxRecDepth 100000 in
theorem xX11_plain_184 {l : Launch} {g : aG} {d : Nat} (hK : 2 ≤ d + 1) {a0 : Nat} {x1 : Int32} {x2 : Int32} {x3 : Int32} {h : aH} {q : Int32 × aH} (hf : fX11_plain_184 g.2.2 a0 x1 x2 x3 h = some q) : Y l g miX11_plain (d + 1) 184 [some (.inr (.inr (some a0))), some (.inl x1), some (.inl x2), some (.inl x3), none] [] h (some (.inl q.1), q.2) := by
  unfold fX11_plain_184 at hf
  refine y_aload_n (i := 0) dX11_plain_184 rfl rfl ?_
  refine y_iconst (v := 0) dX11_plain_185 (by decide) ?_
  refine y_iconst (v := 0) dX11_plain_186 (by decide) ?_
  refine y_iconst (v := 0) dX11_plain_187 (by decide) ?_
  refine y_iconst (v := 0) dX11_plain_188 (by decide) ?_
  replace hf := bnd hf
  obtain ⟨fs102, efs102, hf⟩ := hf
  replace hf := bnd hf
  obtain ⟨q101, eq101, hf⟩ := hf
  refine y_callV (mj := miX11_take) (args := [.inl 0, .inl 0, .inl 0, .inl 0]) (st := []) dX11_plain_189 (gd_of 885 rfl rfl) (gd_of 887 rfl rfl) (gd_of 36 rfl rfl) okX11_take (obO_spec efs102) rfl rfl (xX11_take (by omega) eq101) (Nat.le_of_ble_eq_true rfl) rfl ?_
  show Y l g miX11_plain (d + 1) 192 [some (.inr (.inr (some a0))), some (.inl x1), some (.inl x2), some (.inl x3), none] [] q101 _
  refine y_iload_n (i := 2) dX11_plain_192 rfl rfl ?_
  refine y_istore (i := 4) (lv2 := [some (.inr (.inr (some a0))), some (.inl x1), some (.inl x2), some (.inl x3), some (.inl x2)]) dX11_plain_193 (by decide) rfl ?_
  refine y_goto (tgt := 295) dX11_plain_195 (by decide) ?_
  refine Y.weak (lv2 := [some (.inr (.inr (some a0))), some (.inl x1), some (.inl x2), some (.inl x3), some (.inl x2)]) [true, true, true, true, true] rfl ?_
  exact xX11_plain_295 hK hf
def fX11_plain_287 (z : Nat → Nat) (a0 : Nat) (x1 : Int32) (x2 : Int32) (x3 : Int32) (x4 : Int32) (h : aH) : Option (Int32 × aH) :=
  (obO h a0 9).bind fun fs102 =>
  (fX11_take z a0 2 0 0 0 h).bind fun q101 =>
  fX11_plain_295 z a0 x1 x2 x3 x4 q101
set_option maxHeartbeats 4000000 in
set_option maxRecDepth 100000 in
theorem xX11_plain_287 {l : Launch} {g : aG} {d : Nat} (hK : 2 ≤ d + 1) {a0 : Nat} {x1 : Int32} {x2 : Int32} {x3 : Int32} {x4 : Int32} {h : aH} {q : Int32 × aH} (hf : fX11_plain_287 g.2.2 a0 x1 x2 x3 x4 h = some q) : Y l g miX11_plain (d + 1) 287 [some (.inr (.inr (some a0))), some (.inl x1), some (.inl x2), some (.inl x3), some (.inl x4)] [] h (some (.inl q.1), q.2) := by
  unfold fX11_plain_287 at hf
  refine y_aload_n (i := 0) dX11_plain_287 rfl rfl ?_
  refine y_iconst (v := 2) dX11_plain_288 (by decide) ?_
  refine y_iconst (v := 0) dX11_plain_289 (by decide) ?_
  refine y_iconst (v := 0) dX11_plain_290 (by decide) ?_
  refine y_iconst (v := 0) dX11_plain_291 (by decide) ?_
  replace hf := bnd hf
  obtain ⟨fs102, efs102, hf⟩ := hf
  replace hf := bnd hf
  obtain ⟨q101, eq101, hf⟩ := hf
  refine y_callV (mj := miX11_take) (args := [.inl 2, .inl 0, .inl 0, .inl 0]) (st := []) dX11_plain_292 (gd_of 885 rfl rfl) (gd_of 887 rfl rfl) (gd_of 36 rfl rfl) okX11_take (obO_spec efs102) rfl rfl (xX11_take (by omega) eq101) (Nat.le_of_ble_eq_true rfl) rfl ?_
  show Y l g miX11_plain (d + 1) 295 [some (.inr (.inr (some a0))), some (.inl x1), some (.inl x2), some (.inl x3), some (.inl x4)] [] q101 _
  refine Y.weak (lv2 := [some (.inr (.inr (some a0))), some (.inl x1), some (.inl x2), some (.inl x3), some (.inl x4)]) [true, true, true, true, true] rfl ?_
  exact xX11_plain_295 hK hf
def fX11_plain_98 (z : Nat → Nat) (a0 : Nat) (x1 : Int32) (x2 : Int32) (x3 : Int32) (h : aH) : Option (Int32 × aH) :=
  (rdI h a0 [9] 1).bind fun x101 =>
  (if x101 = 60 then
  some ((-5), h)
  else
  (if x1 = 0 then
  fX11_plain_184 z a0 x1 x2 x3 h
  else
  (if x1 = 1 then
  (obO h a0 9).bind fun fs103 =>
  (fX11_take z a0 1 x2 0 0 h).bind fun q102 =>
  fX11_plain_295 z a0 x1 x2 x3 x2 q102
  else
  (if x1 = 2 then
  fX11_plain_287 z a0 x1 x2 x3 0 h
  else
  (if x1 = 3 then
  fX11_plain_287 z a0 x1 x2 x3 0 h
  else
  (if x1 = 4 then
  fX11_plain_287 z a0 x1 x2 x3 0 h
  else
  (if x1 = 5 then
  fX11_plain_287 z a0 x1 x2 x3 0 h
  else
  (if x1 = 6 then
  fX11_plain_287 z a0 x1 x2 x3 0 h
  else
  (if x1 = 7 then
  (obO h a0 9).bind fun fs105 =>
  (fX11_take z a0 2 1 1 0 h).bind fun q104 =>
  fX11_plain_295 z a0 x1 x2 x3 1 q104
  else
  (if x1 = 8 then
  (obO h a0 9).bind fun fs107 =>
  (fX11_take z a0 2 3 0 0 h).bind fun q106 =>
  fX11_plain_295 z a0 x1 x2 x3 0 q106
  else
  (if x1 = 9 then
  (obO h a0 9).bind fun fs109 =>
  (fX11_take z a0 3 3 0 0 h).bind fun q108 =>
  fX11_plain_295 z a0 x1 x2 x3 4 q108
  else
  (if x1 = 10 then
  (obO h a0 9).bind fun fs111 =>
  (fX11_take z a0 1 3 0 0 h).bind fun q110 =>
  fX11_plain_295 z a0 x1 x2 x3 0 q110
  else
  (if x1 = 11 then
  (obO h a0 9).bind fun fs113 =>
  (fX11_take z a0 1 0 0 0 h).bind fun q112 =>
  fX11_plain_295 z a0 x1 x2 x3 3 q112
  else
  (if x1 = 12 then
  fX11_plain_184 z a0 x1 x2 x3 h
  else
  (if x1 = 13 then
  (obO h a0 9).bind fun fs115 =>
  (fX11_take z a0 0 0 0 0 h).bind fun q114 =>
  fX11_plain_295 z a0 x1 x2 x3 0 q114
  else
  fX11_plain_287 z a0 x1 x2 x3 0 h)))))))))))))))
set_option maxHeartbeats 4000000 in
set_option maxRecDepth 100000 in
theorem xX11_plain_98 {l : Launch} {g : aG} {d : Nat} (hK : 2 ≤ d + 1) {a0 : Nat} {x1 : Int32} {x2 : Int32} {x3 : Int32} {h : aH} {q : Int32 × aH} (hf : fX11_plain_98 g.2.2 a0 x1 x2 x3 h = some q) : Y l g miX11_plain (d + 1) 98 [some (.inr (.inr (some a0))), some (.inl x1), some (.inl x2), some (.inl x3), none] [] h (some (.inl q.1), q.2) := by
  unfold fX11_plain_98 at hf
  refine y_aload_n (i := 0) dX11_plain_98 rfl rfl ?_
  replace hf := bnd hf
  obtain ⟨x101, ex101, hf⟩ := hf
  refine y_getI ex101 fl11_108 dX11_plain_99 ?_
  refine y_bipush (v := 60) dX11_plain_102 (by decide) ?_
  refine y_icmp_ne (tgt := 110) dX11_plain_104 (by decide) (fun hc => ?_) (fun hc => ?_)
  · rw [if_neg hc] at hf
    refine y_iconst (v := 0) dX11_plain_110 (by decide) ?_
    refine y_istore (i := 4) (lv2 := [some (.inr (.inr (some a0))), some (.inl x1), some (.inl x2), some (.inl x3), some (.inl 0)]) dX11_plain_111 (by decide) rfl ?_
    refine y_iload_n (i := 1) dX11_plain_113 rfl rfl ?_
    refine y_table dX11_plain_114 [(0, 184), (1, 198), (2, 287), (3, 287), (4, 287), (5, 287), (6, 287), (7, 212), (8, 226), (9, 237), (10, 251), (11, 262), (12, 184), (13, 276)] 287 (by decide) (by decide) (by decide) (by decide) ?_
    refine y_swc (fun hc => ?_) (fun hc => ?_)
    · rw [if_pos hc] at hf
      refine Y.weak (lv2 := [some (.inr (.inr (some a0))), some (.inl x1), some (.inl x2), some (.inl x3), none]) [true, true, true, true, false] rfl ?_
      exact xX11_plain_184 hK hf
    rw [if_neg hc] at hf
    refine y_swc (fun hc => ?_) (fun hc => ?_)
    · rw [if_pos hc] at hf
      refine y_aload_n (i := 0) dX11_plain_198 rfl rfl ?_
      refine y_iconst (v := 1) dX11_plain_199 (by decide) ?_
      refine y_iload_n (i := 2) dX11_plain_200 rfl rfl ?_
      refine y_iconst (v := 0) dX11_plain_201 (by decide) ?_
      refine y_iconst (v := 0) dX11_plain_202 (by decide) ?_
      replace hf := bnd hf
      obtain ⟨fs103, efs103, hf⟩ := hf
      replace hf := bnd hf
      obtain ⟨q102, eq102, hf⟩ := hf
      refine y_callV (mj := miX11_take) (args := [.inl 1, .inl x2, .inl 0, .inl 0]) (st := []) dX11_plain_203 (gd_of 885 rfl rfl) (gd_of 887 rfl rfl) (gd_of 36 rfl rfl) okX11_take (obO_spec efs103) rfl rfl (xX11_take (by omega) eq102) (Nat.le_of_ble_eq_true rfl) rfl ?_
      show Y l g miX11_plain (d + 1) 206 [some (.inr (.inr (some a0))), some (.inl x1), some (.inl x2), some (.inl x3), some (.inl 0)] [] q102 _
      refine y_iload_n (i := 2) dX11_plain_206 rfl rfl ?_
      refine y_istore (i := 4) (lv2 := [some (.inr (.inr (some a0))), some (.inl x1), some (.inl x2), some (.inl x3), some (.inl x2)]) dX11_plain_207 (by decide) rfl ?_
      refine y_goto (tgt := 295) dX11_plain_209 (by decide) ?_
      refine Y.weak (lv2 := [some (.inr (.inr (some a0))), some (.inl x1), some (.inl x2), some (.inl x3), some (.inl x2)]) [true, true, true, true, true] rfl ?_
      exact xX11_plain_295 hK hf
    rw [if_neg hc] at hf
    refine y_swc (fun hc => ?_) (fun hc => ?_)
    · rw [if_pos hc] at hf
      refine Y.weak (lv2 := [some (.inr (.inr (some a0))), some (.inl x1), some (.inl x2), some (.inl x3), some (.inl 0)]) [true, true, true, true, true] rfl ?_
      exact xX11_plain_287 hK hf
    rw [if_neg hc] at hf
    refine y_swc (fun hc => ?_) (fun hc => ?_)
    · rw [if_pos hc] at hf
      refine Y.weak (lv2 := [some (.inr (.inr (some a0))), some (.inl x1), some (.inl x2), some (.inl x3), some (.inl 0)]) [true, true, true, true, true] rfl ?_
      exact xX11_plain_287 hK hf
    rw [if_neg hc] at hf
    refine y_swc (fun hc => ?_) (fun hc => ?_)
    · rw [if_pos hc] at hf
      refine Y.weak (lv2 := [some (.inr (.inr (some a0))), some (.inl x1), some (.inl x2), some (.inl x3), some (.inl 0)]) [true, true, true, true, true] rfl ?_
      exact xX11_plain_287 hK hf
    rw [if_neg hc] at hf
    refine y_swc (fun hc => ?_) (fun hc => ?_)
    · rw [if_pos hc] at hf
      refine Y.weak (lv2 := [some (.inr (.inr (some a0))), some (.inl x1), some (.inl x2), some (.inl x3), some (.inl 0)]) [true, true, true, true, true] rfl ?_
      exact xX11_plain_287 hK hf
    rw [if_neg hc] at hf
    refine y_swc (fun hc => ?_) (fun hc => ?_)
    · rw [if_pos hc] at hf
      refine Y.weak (lv2 := [some (.inr (.inr (some a0))), some (.inl x1), some (.inl x2), some (.inl x3), some (.inl 0)]) [true, true, true, true, true] rfl ?_
      exact xX11_plain_287 hK hf
    rw [if_neg hc] at hf
    refine y_swc (fun hc => ?_) (fun hc => ?_)
    · rw [if_pos hc] at hf
      refine y_aload_n (i := 0) dX11_plain_212 rfl rfl ?_
      refine y_iconst (v := 2) dX11_plain_213 (by decide) ?_
      refine y_iconst (v := 1) dX11_plain_214 (by decide) ?_
      refine y_iconst (v := 1) dX11_plain_215 (by decide) ?_
      refine y_iconst (v := 0) dX11_plain_216 (by decide) ?_
      replace hf := bnd hf
      obtain ⟨fs105, efs105, hf⟩ := hf
      replace hf := bnd hf
      obtain ⟨q104, eq104, hf⟩ := hf
      refine y_callV (mj := miX11_take) (args := [.inl 2, .inl 1, .inl 1, .inl 0]) (st := []) dX11_plain_217 (gd_of 885 rfl rfl) (gd_of 887 rfl rfl) (gd_of 36 rfl rfl) okX11_take (obO_spec efs105) rfl rfl (xX11_take (by omega) eq104) (Nat.le_of_ble_eq_true rfl) rfl ?_
      show Y l g miX11_plain (d + 1) 220 [some (.inr (.inr (some a0))), some (.inl x1), some (.inl x2), some (.inl x3), some (.inl 0)] [] q104 _
      refine y_iconst (v := 1) dX11_plain_220 (by decide) ?_
      refine y_istore (i := 4) (lv2 := [some (.inr (.inr (some a0))), some (.inl x1), some (.inl x2), some (.inl x3), some (.inl 1)]) dX11_plain_221 (by decide) rfl ?_
      refine y_goto (tgt := 295) dX11_plain_223 (by decide) ?_
      refine Y.weak (lv2 := [some (.inr (.inr (some a0))), some (.inl x1), some (.inl x2), some (.inl x3), some (.inl 1)]) [true, true, true, true, true] rfl ?_
      exact xX11_plain_295 hK hf
    rw [if_neg hc] at hf
    refine y_swc (fun hc => ?_) (fun hc => ?_)
    · rw [if_pos hc] at hf
      refine y_aload_n (i := 0) dX11_plain_226 rfl rfl ?_
      refine y_iconst (v := 2) dX11_plain_227 (by decide) ?_
      refine y_iconst (v := 3) dX11_plain_228 (by decide) ?_
      refine y_iconst (v := 0) dX11_plain_229 (by decide) ?_
      refine y_iconst (v := 0) dX11_plain_230 (by decide) ?_
      replace hf := bnd hf
      obtain ⟨fs107, efs107, hf⟩ := hf
      replace hf := bnd hf
      obtain ⟨q106, eq106, hf⟩ := hf
      refine y_callV (mj := miX11_take) (args := [.inl 2, .inl 3, .inl 0, .inl 0]) (st := []) dX11_plain_231 (gd_of 885 rfl rfl) (gd_of 887 rfl rfl) (gd_of 36 rfl rfl) okX11_take (obO_spec efs107) rfl rfl (xX11_take (by omega) eq106) (Nat.le_of_ble_eq_true rfl) rfl ?_
      show Y l g miX11_plain (d + 1) 234 [some (.inr (.inr (some a0))), some (.inl x1), some (.inl x2), some (.inl x3), some (.inl 0)] [] q106 _
      refine y_goto (tgt := 295) dX11_plain_234 (by decide) ?_
      refine Y.weak (lv2 := [some (.inr (.inr (some a0))), some (.inl x1), some (.inl x2), some (.inl x3), some (.inl 0)]) [true, true, true, true, true] rfl ?_
      exact xX11_plain_295 hK hf
    rw [if_neg hc] at hf
    refine y_swc (fun hc => ?_) (fun hc => ?_)
    · rw [if_pos hc] at hf
      refine y_aload_n (i := 0) dX11_plain_237 rfl rfl ?_
      refine y_iconst (v := 3) dX11_plain_238 (by decide) ?_
      refine y_iconst (v := 3) dX11_plain_239 (by decide) ?_
      refine y_iconst (v := 0) dX11_plain_240 (by decide) ?_
      refine y_iconst (v := 0) dX11_plain_241 (by decide) ?_
      replace hf := bnd hf
      obtain ⟨fs109, efs109, hf⟩ := hf
      replace hf := bnd hf
      obtain ⟨q108, eq108, hf⟩ := hf
      refine y_callV (mj := miX11_take) (args := [.inl 3, .inl 3, .inl 0, .inl 0]) (st := []) dX11_plain_242 (gd_of 885 rfl rfl) (gd_of 887 rfl rfl) (gd_of 36 rfl rfl) okX11_take (obO_spec efs109) rfl rfl (xX11_take (by omega) eq108) (Nat.le_of_ble_eq_true rfl) rfl ?_
      show Y l g miX11_plain (d + 1) 245 [some (.inr (.inr (some a0))), some (.inl x1), some (.inl x2), some (.inl x3), some (.inl 0)] [] q108 _
      refine y_iconst (v := 4) dX11_plain_245 (by decide) ?_
      refine y_istore (i := 4) (lv2 := [some (.inr (.inr (some a0))), some (.inl x1), some (.inl x2), some (.inl x3), some (.inl 4)]) dX11_plain_246 (by decide) rfl ?_
      refine y_goto (tgt := 295) dX11_plain_248 (by decide) ?_
      refine Y.weak (lv2 := [some (.inr (.inr (some a0))), some (.inl x1), some (.inl x2), some (.inl x3), some (.inl 4)]) [true, true, true, true, true] rfl ?_
      exact xX11_plain_295 hK hf
    rw [if_neg hc] at hf
    refine y_swc (fun hc => ?_) (fun hc => ?_)
    · rw [if_pos hc] at hf
      refine y_aload_n (i := 0) dX11_plain_251 rfl rfl ?_
      refine y_iconst (v := 1) dX11_plain_252 (by decide) ?_
      refine y_iconst (v := 3) dX11_plain_253 (by decide) ?_
      refine y_iconst (v := 0) dX11_plain_254 (by decide) ?_
      refine y_iconst (v := 0) dX11_plain_255 (by decide) ?_
      replace hf := bnd hf
      obtain ⟨fs111, efs111, hf⟩ := hf
      replace hf := bnd hf
      obtain ⟨q110, eq110, hf⟩ := hf
      refine y_callV (mj := miX11_take) (args := [.inl 1, .inl 3, .inl 0, .inl 0]) (st := []) dX11_plain_256 (gd_of 885 rfl rfl) (gd_of 887 rfl rfl) (gd_of 36 rfl rfl) okX11_take (obO_spec efs111) rfl rfl (xX11_take (by omega) eq110) (Nat.le_of_ble_eq_true rfl) rfl ?_
      show Y l g miX11_plain (d + 1) 259 [some (.inr (.inr (some a0))), some (.inl x1), some (.inl x2), some (.inl x3), some (.inl 0)] [] q110 _
      refine y_goto (tgt := 295) dX11_plain_259 (by decide) ?_
      refine Y.weak (lv2 := [some (.inr (.inr (some a0))), some (.inl x1), some (.inl x2), some (.inl x3), some (.inl 0)]) [true, true, true, true, true] rfl ?_
      exact xX11_plain_295 hK hf
    rw [if_neg hc] at hf
    refine y_swc (fun hc => ?_) (fun hc => ?_)
    · rw [if_pos hc] at hf
      refine y_aload_n (i := 0) dX11_plain_262 rfl rfl ?_
      refine y_iconst (v := 1) dX11_plain_263 (by decide) ?_
      refine y_iconst (v := 0) dX11_plain_264 (by decide) ?_
      refine y_iconst (v := 0) dX11_plain_265 (by decide) ?_
      refine y_iconst (v := 0) dX11_plain_266 (by decide) ?_
      replace hf := bnd hf
      obtain ⟨fs113, efs113, hf⟩ := hf
      replace hf := bnd hf
      obtain ⟨q112, eq112, hf⟩ := hf
      refine y_callV (mj := miX11_take) (args := [.inl 1, .inl 0, .inl 0, .inl 0]) (st := []) dX11_plain_267 (gd_of 885 rfl rfl) (gd_of 887 rfl rfl) (gd_of 36 rfl rfl) okX11_take (obO_spec efs113) rfl rfl (xX11_take (by omega) eq112) (Nat.le_of_ble_eq_true rfl) rfl ?_
      show Y l g miX11_plain (d + 1) 270 [some (.inr (.inr (some a0))), some (.inl x1), some (.inl x2), some (.inl x3), some (.inl 0)] [] q112 _
      refine y_iconst (v := 3) dX11_plain_270 (by decide) ?_
      refine y_istore (i := 4) (lv2 := [some (.inr (.inr (some a0))), some (.inl x1), some (.inl x2), some (.inl x3), some (.inl 3)]) dX11_plain_271 (by decide) rfl ?_
      refine y_goto (tgt := 295) dX11_plain_273 (by decide) ?_
      refine Y.weak (lv2 := [some (.inr (.inr (some a0))), some (.inl x1), some (.inl x2), some (.inl x3), some (.inl 3)]) [true, true, true, true, true] rfl ?_
      exact xX11_plain_295 hK hf
    rw [if_neg hc] at hf
    refine y_swc (fun hc => ?_) (fun hc => ?_)
    · rw [if_pos hc] at hf
      refine Y.weak (lv2 := [some (.inr (.inr (some a0))), some (.inl x1), some (.inl x2), some (.inl x3), none]) [true, true, true, true, false] rfl ?_
      exact xX11_plain_184 hK hf
    rw [if_neg hc] at hf
    refine y_swc (fun hc => ?_) (fun hc => ?_)
    · rw [if_pos hc] at hf
      refine y_aload_n (i := 0) dX11_plain_276 rfl rfl ?_
      refine y_iconst (v := 0) dX11_plain_277 (by decide) ?_
      refine y_iconst (v := 0) dX11_plain_278 (by decide) ?_
      refine y_iconst (v := 0) dX11_plain_279 (by decide) ?_
      refine y_iconst (v := 0) dX11_plain_280 (by decide) ?_
      replace hf := bnd hf
      obtain ⟨fs115, efs115, hf⟩ := hf
      replace hf := bnd hf
      obtain ⟨q114, eq114, hf⟩ := hf
      refine y_callV (mj := miX11_take) (args := [.inl 0, .inl 0, .inl 0, .inl 0]) (st := []) dX11_plain_281 (gd_of 885 rfl rfl) (gd_of 887 rfl rfl) (gd_of 36 rfl rfl) okX11_take (obO_spec efs115) rfl rfl (xX11_take (by omega) eq114) (Nat.le_of_ble_eq_true rfl) rfl ?_
      show Y l g miX11_plain (d + 1) 284 [some (.inr (.inr (some a0))), some (.inl x1), some (.inl x2), some (.inl x3), some (.inl 0)] [] q114 _
      refine y_goto (tgt := 295) dX11_plain_284 (by decide) ?_
      refine Y.weak (lv2 := [some (.inr (.inr (some a0))), some (.inl x1), some (.inl x2), some (.inl x3), some (.inl 0)]) [true, true, true, true, true] rfl ?_
      exact xX11_plain_295 hK hf
    rw [if_neg hc] at hf
    refine y_swn ?_
    refine Y.weak (lv2 := [some (.inr (.inr (some a0))), some (.inl x1), some (.inl x2), some (.inl x3), some (.inl 0)]) [true, true, true, true, true] rfl ?_
    exact xX11_plain_287 hK hf
  · rw [if_pos hc] at hf
    refine y_bipush (v := (-5)) dX11_plain_107 (by decide) ?_
    obtain rfl := Option.some.inj hf
    exact y_ret (v := some (.inl (-5))) dX11_plain_109 rfl
def fX11_plain_77 (z : Nat → Nat) (a0 : Nat) (x1 : Int32) (x2 : Int32) (x3 : Int32) (h : aH) : Option (Int32 × aH) :=
  (if x1 = 12 then
  (fX11_in z (Int32.toInt64 x3) 0 99 h).bind fun q101 =>
  (if q101.1 = 0 then
  some ((-3), q101.2)
  else
  fX11_plain_98 z a0 x1 x2 x3 q101.2)
  else
  fX11_plain_98 z a0 x1 x2 x3 h)
set_option maxHeartbeats 4000000 in
set_option maxRecDepth 100000 in
theorem xX11_plain_77 {l : Launch} {g : aG} {d : Nat} (hK : 2 ≤ d + 1) {a0 : Nat} {x1 : Int32} {x2 : Int32} {x3 : Int32} {h : aH} {q : Int32 × aH} (hf : fX11_plain_77 g.2.2 a0 x1 x2 x3 h = some q) : Y l g miX11_plain (d + 1) 77 [some (.inr (.inr (some a0))), some (.inl x1), some (.inl x2), some (.inl x3), none] [] h (some (.inl q.1), q.2) := by
  unfold fX11_plain_77 at hf
  refine y_iload_n (i := 1) dX11_plain_77 rfl rfl ?_
  refine y_bipush (v := 12) dX11_plain_78 (by decide) ?_
  refine y_icmp_ne (tgt := 98) dX11_plain_80 (by decide) (fun hc => ?_) (fun hc => ?_)
  · rw [if_neg hc] at hf
    refine Y.weak (lv2 := [some (.inr (.inr (some a0))), some (.inl x1), some (.inl x2), some (.inl x3), none]) [true, true, true, true, false] rfl ?_
    exact xX11_plain_98 hK hf
  · rw [if_pos hc] at hf
    refine y_iload_n (i := 3) dX11_plain_83 rfl rfl ?_
    refine y_i2l dX11_plain_84 ?_
    refine y_lconst (v := 0) dX11_plain_85 (by decide) ?_
    refine y_ldc2 (v := 99) dX11_plain_86 (gd_of 884 rfl rfl) ?_
    replace hf := bnd hf
    obtain ⟨q101, eq101, hf⟩ := hf
    refine y_callS (mj := miX11_in) (args := [.inr (.inl (Int32.toInt64 x3)), .inr (.inl 0), .inr (.inl 99)]) (st := []) dX11_plain_89 (gd_of 878 rfl rfl) (gd_of 879 rfl rfl) okX11_in (xX11_in (by omega) eq101) (Nat.le_of_ble_eq_true rfl) rfl ?_
    show Y l g miX11_plain (d + 1) 92 [some (.inr (.inr (some a0))), some (.inl x1), some (.inl x2), some (.inl x3), none] [.inl q101.1] q101.2 _
    refine y_if_ne (tgt := 98) dX11_plain_92 (by decide) (fun hc => ?_) (fun hc => ?_)
    · rw [if_neg hc] at hf
      refine Y.weak (lv2 := [some (.inr (.inr (some a0))), some (.inl x1), some (.inl x2), some (.inl x3), none]) [true, true, true, true, false] rfl ?_
      exact xX11_plain_98 hK hf
    · rw [if_pos hc] at hf
      refine y_bipush (v := (-3)) dX11_plain_95 (by decide) ?_
      obtain rfl := Option.some.inj hf
      exact y_ret (v := some (.inl (-3))) dX11_plain_97 rfl
def fX11_plain_60 (z : Nat → Nat) (a0 : Nat) (x1 : Int32) (x2 : Int32) (x3 : Int32) (h : aH) : Option (Int32 × aH) :=
  (if x1 = 1 then
  (fX11_in z (Int32.toInt64 x2) 0 3 h).bind fun q101 =>
  (if q101.1 = 0 then
  some ((-3), q101.2)
  else
  fX11_plain_77 z a0 x1 x2 x3 q101.2)
  else
  fX11_plain_77 z a0 x1 x2 x3 h)
set_option maxHeartbeats 4000000 in
set_option maxRecDepth 100000 in
theorem xX11_plain_60 {l : Launch} {g : aG} {d : Nat} (hK : 2 ≤ d + 1) {a0 : Nat} {x1 : Int32} {x2 : Int32} {x3 : Int32} {h : aH} {q : Int32 × aH} (hf : fX11_plain_60 g.2.2 a0 x1 x2 x3 h = some q) : Y l g miX11_plain (d + 1) 60 [some (.inr (.inr (some a0))), some (.inl x1), some (.inl x2), some (.inl x3), none] [] h (some (.inl q.1), q.2) := by
  unfold fX11_plain_60 at hf
  refine y_iload_n (i := 1) dX11_plain_60 rfl rfl ?_
  refine y_iconst (v := 1) dX11_plain_61 (by decide) ?_
  refine y_icmp_ne (tgt := 77) dX11_plain_62 (by decide) (fun hc => ?_) (fun hc => ?_)
  · rw [if_neg hc] at hf
    refine Y.weak (lv2 := [some (.inr (.inr (some a0))), some (.inl x1), some (.inl x2), some (.inl x3), none]) [true, true, true, true, false] rfl ?_
    exact xX11_plain_77 hK hf
  · rw [if_pos hc] at hf
    refine y_iload_n (i := 2) dX11_plain_65 rfl rfl ?_
    refine y_i2l dX11_plain_66 ?_
    refine y_lconst (v := 0) dX11_plain_67 (by decide) ?_
    refine y_ldc2 (v := 3) dX11_plain_68 (gd_of 883 rfl rfl) ?_
    replace hf := bnd hf
    obtain ⟨q101, eq101, hf⟩ := hf
    refine y_callS (mj := miX11_in) (args := [.inr (.inl (Int32.toInt64 x2)), .inr (.inl 0), .inr (.inl 3)]) (st := []) dX11_plain_71 (gd_of 878 rfl rfl) (gd_of 879 rfl rfl) okX11_in (xX11_in (by omega) eq101) (Nat.le_of_ble_eq_true rfl) rfl ?_
    show Y l g miX11_plain (d + 1) 74 [some (.inr (.inr (some a0))), some (.inl x1), some (.inl x2), some (.inl x3), none] [.inl q101.1] q101.2 _
    refine y_if_eq (tgt := 95) dX11_plain_74 (by decide) (fun hc => ?_) (fun hc => ?_)
    · rw [if_pos hc] at hf
      refine y_bipush (v := (-3)) dX11_plain_95 (by decide) ?_
      obtain rfl := Option.some.inj hf
      exact y_ret (v := some (.inl (-3))) dX11_plain_97 rfl
    · rw [if_neg hc] at hf
      refine Y.weak (lv2 := [some (.inr (.inr (some a0))), some (.inl x1), some (.inl x2), some (.inl x3), none]) [true, true, true, true, false] rfl ?_
      exact xX11_plain_77 hK hf
def fX11_plain_48 (z : Nat → Nat) (a0 : Nat) (x1 : Int32) (x2 : Int32) (x3 : Int32) (h : aH) : Option (Int32 × aH) :=
  (fX11_in z (Int32.toInt64 x2) 0 4 h).bind fun q101 =>
  (if q101.1 = 0 then
  some ((-3), q101.2)
  else
  fX11_plain_60 z a0 x1 x2 x3 q101.2)
set_option maxHeartbeats 4000000 in
set_option maxRecDepth 100000 in
theorem xX11_plain_48 {l : Launch} {g : aG} {d : Nat} (hK : 2 ≤ d + 1) {a0 : Nat} {x1 : Int32} {x2 : Int32} {x3 : Int32} {h : aH} {q : Int32 × aH} (hf : fX11_plain_48 g.2.2 a0 x1 x2 x3 h = some q) : Y l g miX11_plain (d + 1) 48 [some (.inr (.inr (some a0))), some (.inl x1), some (.inl x2), some (.inl x3), none] [] h (some (.inl q.1), q.2) := by
  unfold fX11_plain_48 at hf
  refine y_iload_n (i := 2) dX11_plain_48 rfl rfl ?_
  refine y_i2l dX11_plain_49 ?_
  refine y_lconst (v := 0) dX11_plain_50 (by decide) ?_
  refine y_ldc2 (v := 4) dX11_plain_51 (gd_of 882 rfl rfl) ?_
  replace hf := bnd hf
  obtain ⟨q101, eq101, hf⟩ := hf
  refine y_callS (mj := miX11_in) (args := [.inr (.inl (Int32.toInt64 x2)), .inr (.inl 0), .inr (.inl 4)]) (st := []) dX11_plain_54 (gd_of 878 rfl rfl) (gd_of 879 rfl rfl) okX11_in (xX11_in (by omega) eq101) (Nat.le_of_ble_eq_true rfl) rfl ?_
  show Y l g miX11_plain (d + 1) 57 [some (.inr (.inr (some a0))), some (.inl x1), some (.inl x2), some (.inl x3), none] [.inl q101.1] q101.2 _
  refine y_if_eq (tgt := 95) dX11_plain_57 (by decide) (fun hc => ?_) (fun hc => ?_)
  · rw [if_pos hc] at hf
    refine y_bipush (v := (-3)) dX11_plain_95 (by decide) ?_
    obtain rfl := Option.some.inj hf
    exact y_ret (v := some (.inl (-3))) dX11_plain_97 rfl
  · rw [if_neg hc] at hf
    refine Y.weak (lv2 := [some (.inr (.inr (some a0))), some (.inl x1), some (.inl x2), some (.inl x3), none]) [true, true, true, true, false] rfl ?_
    exact xX11_plain_60 hK hf
def fX11_plain_26 (z : Nat → Nat) (a0 : Nat) (x1 : Int32) (x2 : Int32) (x3 : Int32) (h : aH) : Option (Int32 × aH) :=
  (fX11_in z (Int32.toInt64 x1) 0 13 h).bind fun q101 =>
  (if q101.1 = 0 then
  some ((-3), q101.2)
  else
  (if x1 = 0 then
  fX11_plain_48 z a0 x1 x2 x3 q101.2
  else
  (if x1 = 12 then
  fX11_plain_48 z a0 x1 x2 x3 q101.2
  else
  fX11_plain_60 z a0 x1 x2 x3 q101.2)))
set_option maxHeartbeats 4000000 in
set_option maxRecDepth 100000 in
theorem xX11_plain_26 {l : Launch} {g : aG} {d : Nat} (hK : 2 ≤ d + 1) {a0 : Nat} {x1 : Int32} {x2 : Int32} {x3 : Int32} {h : aH} {q : Int32 × aH} (hf : fX11_plain_26 g.2.2 a0 x1 x2 x3 h = some q) : Y l g miX11_plain (d + 1) 26 [some (.inr (.inr (some a0))), some (.inl x1), some (.inl x2), some (.inl x3), none] [] h (some (.inl q.1), q.2) := by
  unfold fX11_plain_26 at hf
  refine y_iload_n (i := 1) dX11_plain_26 rfl rfl ?_
  refine y_i2l dX11_plain_27 ?_
  refine y_lconst (v := 0) dX11_plain_28 (by decide) ?_
  refine y_ldc2 (v := 13) dX11_plain_29 (gd_of 881 rfl rfl) ?_
  replace hf := bnd hf
  obtain ⟨q101, eq101, hf⟩ := hf
  refine y_callS (mj := miX11_in) (args := [.inr (.inl (Int32.toInt64 x1)), .inr (.inl 0), .inr (.inl 13)]) (st := []) dX11_plain_32 (gd_of 878 rfl rfl) (gd_of 879 rfl rfl) okX11_in (xX11_in (by omega) eq101) (Nat.le_of_ble_eq_true rfl) rfl ?_
  show Y l g miX11_plain (d + 1) 35 [some (.inr (.inr (some a0))), some (.inl x1), some (.inl x2), some (.inl x3), none] [.inl q101.1] q101.2 _
  refine y_if_eq (tgt := 95) dX11_plain_35 (by decide) (fun hc => ?_) (fun hc => ?_)
  · rw [if_pos hc] at hf
    refine y_bipush (v := (-3)) dX11_plain_95 (by decide) ?_
    obtain rfl := Option.some.inj hf
    exact y_ret (v := some (.inl (-3))) dX11_plain_97 rfl
  · rw [if_neg hc] at hf
    refine y_iload_n (i := 1) dX11_plain_38 rfl rfl ?_
    refine y_if_eq (tgt := 48) dX11_plain_39 (by decide) (fun hc => ?_) (fun hc => ?_)
    · rw [if_pos hc] at hf
      refine Y.weak (lv2 := [some (.inr (.inr (some a0))), some (.inl x1), some (.inl x2), some (.inl x3), none]) [true, true, true, true, false] rfl ?_
      exact xX11_plain_48 hK hf
    · rw [if_neg hc] at hf
      refine y_iload_n (i := 1) dX11_plain_42 rfl rfl ?_
      refine y_bipush (v := 12) dX11_plain_43 (by decide) ?_
      refine y_icmp_ne (tgt := 60) dX11_plain_45 (by decide) (fun hc => ?_) (fun hc => ?_)
      · rw [if_neg hc] at hf
        refine Y.weak (lv2 := [some (.inr (.inr (some a0))), some (.inl x1), some (.inl x2), some (.inl x3), none]) [true, true, true, true, false] rfl ?_
        exact xX11_plain_60 hK hf
      · rw [if_pos hc] at hf
        refine Y.weak (lv2 := [some (.inr (.inr (some a0))), some (.inl x1), some (.inl x2), some (.inl x3), none]) [true, true, true, true, false] rfl ?_
        exact xX11_plain_48 hK hf
def fX11_plain (z : Nat → Nat) (a0 : Nat) (x1 : Int32) (x2 : Int32) (x3 : Int32) (h : aH) : Option (Int32 × aH) :=
  (wrF h a0 [9] 0 (.inl 0)).bind fun h101 =>
  (if x1 = 0 then
  (if x2 = 3 then
  (obO h101 a0 9).bind fun fs103 =>
  (fX11_isRow z a0 (Int32.toInt64 x3) h101).bind fun q102 =>
  (if q102.1 = 0 then
  some ((-2), q102.2)
  else
  fX11_plain_26 z a0 x1 x2 x3 q102.2)
  else
  fX11_plain_26 z a0 x1 x2 x3 h101)
  else
  fX11_plain_26 z a0 x1 x2 x3 h101)
set_option maxHeartbeats 4000000 in
set_option maxRecDepth 100000 in
theorem xX11_plain {l : Launch} {g : aG} {d : Nat} (hK : 2 ≤ d) {a0 : Nat} {x1 : Int32} {x2 : Int32} {x3 : Int32} {h : aH} {q : Int32 × aH} (hf : fX11_plain g.2.2 a0 x1 x2 x3 h = some q) : Ev l g miX11_plain d [.inr (.inr (some a0)), .inl x1, .inl x2, .inl x3] h (some (.inl q.1), q.2) := by
  obtain ⟨d, rfl⟩ : ∃ e, d = e + 1 := ⟨d - 1, by omega⟩
  refine ⟨?_, Or.inl rfl, Nat.le_of_ble_eq_true rfl⟩
  unfold fX11_plain at hf
  show Y l g miX11_plain (d + 1) 0 [some (.inr (.inr (some a0))), some (.inl x1), some (.inl x2), some (.inl x3), none] [] h _
  refine y_aload_n (i := 0) dX11_plain_0 rfl rfl ?_
  refine y_iconst (v := 0) dX11_plain_1 (by decide) ?_
  replace hf := bnd hf
  obtain ⟨h101, eh101, hf⟩ := hf
  refine y_put eh101 (pl11_1_m rfl) dX11_plain_2 ?_
  refine y_iload_n (i := 1) dX11_plain_5 rfl rfl ?_
  refine y_if_ne (tgt := 26) dX11_plain_6 (by decide) (fun hc => ?_) (fun hc => ?_)
  · rw [if_neg hc] at hf
    refine Y.weak (lv2 := [some (.inr (.inr (some a0))), some (.inl x1), some (.inl x2), some (.inl x3), none]) [true, true, true, true, false] rfl ?_
    exact xX11_plain_26 hK hf
  · rw [if_pos hc] at hf
    refine y_iload_n (i := 2) dX11_plain_9 rfl rfl ?_
    refine y_iconst (v := 3) dX11_plain_10 (by decide) ?_
    refine y_icmp_ne (tgt := 26) dX11_plain_11 (by decide) (fun hc => ?_) (fun hc => ?_)
    · rw [if_neg hc] at hf
      refine Y.weak (lv2 := [some (.inr (.inr (some a0))), some (.inl x1), some (.inl x2), some (.inl x3), none]) [true, true, true, true, false] rfl ?_
      exact xX11_plain_26 hK hf
    · rw [if_pos hc] at hf
      refine y_aload_n (i := 0) dX11_plain_14 rfl rfl ?_
      refine y_iload_n (i := 3) dX11_plain_15 rfl rfl ?_
      refine y_i2l dX11_plain_16 ?_
      replace hf := bnd hf
      obtain ⟨fs103, efs103, hf⟩ := hf
      replace hf := bnd hf
      obtain ⟨q102, eq102, hf⟩ := hf
      refine y_callV (mj := miX11_isRow) (args := [.inr (.inl (Int32.toInt64 x3))]) (st := []) dX11_plain_17 (gd_of 874 rfl rfl) (gd_of 876 rfl rfl) (gd_of 35 rfl rfl) okX11_isRow (obO_spec efs103) rfl rfl (xX11_isRow (by omega) eq102) (Nat.le_of_ble_eq_true rfl) rfl ?_
      show Y l g miX11_plain (d + 1) 20 [some (.inr (.inr (some a0))), some (.inl x1), some (.inl x2), some (.inl x3), none] [.inl q102.1] q102.2 _
      refine y_if_ne (tgt := 26) dX11_plain_20 (by decide) (fun hc => ?_) (fun hc => ?_)
      · rw [if_neg hc] at hf
        refine Y.weak (lv2 := [some (.inr (.inr (some a0))), some (.inl x1), some (.inl x2), some (.inl x3), none]) [true, true, true, true, false] rfl ?_
        exact xX11_plain_26 hK hf
      · rw [if_pos hc] at hf
        refine y_bipush (v := (-2)) dX11_plain_23 (by decide) ?_
        obtain rfl := Option.some.inj hf
        exact y_ret (v := some (.inl (-2))) dX11_plain_25 rfl
set_option maxRecDepth 100000 in
theorem dX11_result_0 : decode prog_13_method_57_code 0 = .ok (.aload_n 0, 1) := by decide +kernel
set_option maxRecDepth 100000 in
theorem dX11_result_1 : decode prog_13_method_57_code 1 = .ok (.iconst 0, 1) := by decide +kernel
set_option maxRecDepth 100000 in
theorem dX11_result_2 : decode prog_13_method_57_code 2 = .ok (.putfield 1, 3) := by decide +kernel
set_option maxRecDepth 100000 in
theorem dX11_result_5 : decode prog_13_method_57_code 5 = .ok (.aload_n 0, 1) := by decide +kernel
set_option maxRecDepth 100000 in
theorem dX11_result_6 : decode prog_13_method_57_code 6 = .ok (.getfield 220, 3) := by decide +kernel
set_option maxRecDepth 100000 in
theorem dX11_result_9 : decode prog_13_method_57_code 9 = .ok (.lreturn, 1) := by decide +kernel

def fX11_result (z : Nat → Nat) (a0 : Nat) (h : aH) : Option (Int64 × aH) :=
  (wrF h a0 [9] 0 (.inl 0)).bind fun h101 =>
  (rdJ h101 a0 [9] 24).bind fun j102 =>
  some (j102, h101)
set_option maxHeartbeats 4000000 in
set_option maxRecDepth 100000 in
theorem xX11_result {l : Launch} {g : aG} {d : Nat} (hK : 0 ≤ d) {a0 : Nat} {h : aH} {q : Int64 × aH} (hf : fX11_result g.2.2 a0 h = some q) : Ev l g miX11_result d [.inr (.inr (some a0))] h (some (.inr (.inl q.1)), q.2) := by
  refine ⟨?_, rfl, Nat.le_of_ble_eq_true rfl⟩
  unfold fX11_result at hf
  show Y l g miX11_result d 0 [some (.inr (.inr (some a0)))] [] h _
  refine y_aload_n (i := 0) dX11_result_0 rfl rfl ?_
  refine y_iconst (v := 0) dX11_result_1 (by decide) ?_
  replace hf := bnd hf
  obtain ⟨h101, eh101, hf⟩ := hf
  refine y_put eh101 (pl11_1_m rfl) dX11_result_2 ?_
  refine y_aload_n (i := 0) dX11_result_5 rfl rfl ?_
  replace hf := bnd hf
  obtain ⟨j102, ej102, hf⟩ := hf
  refine y_getJ ej102 fl11_220 dX11_result_6 ?_
  obtain rfl := Option.some.inj hf
  exact y_ret (v := some (.inr (.inl j102))) dX11_result_9 rfl
set_option maxRecDepth 100000 in
theorem dX11_resultKind_0 : decode prog_13_method_56_code 0 = .ok (.aload_n 0, 1) := by decide +kernel
set_option maxRecDepth 100000 in
theorem dX11_resultKind_1 : decode prog_13_method_56_code 1 = .ok (.iconst 0, 1) := by decide +kernel
set_option maxRecDepth 100000 in
theorem dX11_resultKind_2 : decode prog_13_method_56_code 2 = .ok (.putfield 1, 3) := by decide +kernel
set_option maxRecDepth 100000 in
theorem dX11_resultKind_5 : decode prog_13_method_56_code 5 = .ok (.aload_n 0, 1) := by decide +kernel
set_option maxRecDepth 100000 in
theorem dX11_resultKind_6 : decode prog_13_method_56_code 6 = .ok (.getfield 69, 3) := by decide +kernel
set_option maxRecDepth 100000 in
theorem dX11_resultKind_9 : decode prog_13_method_56_code 9 = .ok (.ireturn, 1) := by decide +kernel

def fX11_resultKind (z : Nat → Nat) (a0 : Nat) (h : aH) : Option (Int32 × aH) :=
  (wrF h a0 [9] 0 (.inl 0)).bind fun h101 =>
  (rdI h101 a0 [9] 23).bind fun x102 =>
  some (x102, h101)
set_option maxHeartbeats 4000000 in
set_option maxRecDepth 100000 in
theorem xX11_resultKind {l : Launch} {g : aG} {d : Nat} (hK : 0 ≤ d) {a0 : Nat} {h : aH} {q : Int32 × aH} (hf : fX11_resultKind g.2.2 a0 h = some q) : Ev l g miX11_resultKind d [.inr (.inr (some a0))] h (some (.inl q.1), q.2) := by
  refine ⟨?_, Or.inl rfl, Nat.le_of_ble_eq_true rfl⟩
  unfold fX11_resultKind at hf
  show Y l g miX11_resultKind d 0 [some (.inr (.inr (some a0)))] [] h _
  refine y_aload_n (i := 0) dX11_resultKind_0 rfl rfl ?_
  refine y_iconst (v := 0) dX11_resultKind_1 (by decide) ?_
  replace hf := bnd hf
  obtain ⟨h101, eh101, hf⟩ := hf
  refine y_put eh101 (pl11_1_m rfl) dX11_resultKind_2 ?_
  refine y_aload_n (i := 0) dX11_resultKind_5 rfl rfl ?_
  replace hf := bnd hf
  obtain ⟨x102, ex102, hf⟩ := hf
  refine y_getI ex102 fl11_69 dX11_resultKind_6 ?_
  obtain rfl := Option.some.inj hf
  exact y_ret (v := some (.inl x102)) dX11_resultKind_9 rfl
set_option maxRecDepth 100000 in
theorem dX11_newRow_0 : decode prog_13_method_22_code 0 = .ok (.aload_n 0, 1) := by decide +kernel
set_option maxRecDepth 100000 in
theorem dX11_newRow_1 : decode prog_13_method_22_code 1 = .ok (.getfield 115, 3) := by decide +kernel
set_option maxRecDepth 100000 in
theorem dX11_newRow_4 : decode prog_13_method_22_code 4 = .ok (.istore_n 2, 1) := by decide +kernel
set_option maxRecDepth 100000 in
theorem dX11_newRow_5 : decode prog_13_method_22_code 5 = .ok (.aload_n 0, 1) := by decide +kernel
set_option maxRecDepth 100000 in
theorem dX11_newRow_6 : decode prog_13_method_22_code 6 = .ok (.dup, 1) := by decide +kernel
set_option maxRecDepth 100000 in
theorem dX11_newRow_7 : decode prog_13_method_22_code 7 = .ok (.getfield 115, 3) := by decide +kernel
set_option maxRecDepth 100000 in
theorem dX11_newRow_10 : decode prog_13_method_22_code 10 = .ok (.iconst 1, 1) := by decide +kernel
set_option maxRecDepth 100000 in
theorem dX11_newRow_11 : decode prog_13_method_22_code 11 = .ok (.iadd, 1) := by decide +kernel
set_option maxRecDepth 100000 in
theorem dX11_newRow_12 : decode prog_13_method_22_code 12 = .ok (.putfield 115, 3) := by decide +kernel
set_option maxRecDepth 100000 in
theorem dX11_newRow_15 : decode prog_13_method_22_code 15 = .ok (.aload_n 0, 1) := by decide +kernel
set_option maxRecDepth 100000 in
theorem dX11_newRow_16 : decode prog_13_method_22_code 16 = .ok (.getfield 48, 3) := by decide +kernel
set_option maxRecDepth 100000 in
theorem dX11_newRow_19 : decode prog_13_method_22_code 19 = .ok (.iload_n 2, 1) := by decide +kernel
set_option maxRecDepth 100000 in
theorem dX11_newRow_20 : decode prog_13_method_22_code 20 = .ok (.iload_n 1, 1) := by decide +kernel
set_option maxRecDepth 100000 in
theorem dX11_newRow_21 : decode prog_13_method_22_code 21 = .ok (.iastore, 1) := by decide +kernel
set_option maxRecDepth 100000 in
theorem dX11_newRow_22 : decode prog_13_method_22_code 22 = .ok (.iconst 0, 1) := by decide +kernel
set_option maxRecDepth 100000 in
theorem dX11_newRow_23 : decode prog_13_method_22_code 23 = .ok (.istore_n 3, 1) := by decide +kernel
set_option maxRecDepth 100000 in
theorem dX11_newRow_24 : decode prog_13_method_22_code 24 = .ok (.iload_n 3, 1) := by decide +kernel
set_option maxRecDepth 100000 in
theorem dX11_newRow_25 : decode prog_13_method_22_code 25 = .ok (.iload_n 1, 1) := by decide +kernel
set_option maxRecDepth 100000 in
theorem dX11_newRow_26 : decode prog_13_method_22_code 26 = .ok (.if_icmp .ge 21, 3) := by decide +kernel
set_option maxRecDepth 100000 in
theorem dX11_newRow_29 : decode prog_13_method_22_code 29 = .ok (.aload_n 0, 1) := by decide +kernel
set_option maxRecDepth 100000 in
theorem dX11_newRow_30 : decode prog_13_method_22_code 30 = .ok (.getfield 51, 3) := by decide +kernel
set_option maxRecDepth 100000 in
theorem dX11_newRow_33 : decode prog_13_method_22_code 33 = .ok (.bipush 20, 2) := by decide +kernel
set_option maxRecDepth 100000 in
theorem dX11_newRow_35 : decode prog_13_method_22_code 35 = .ok (.iload_n 2, 1) := by decide +kernel
set_option maxRecDepth 100000 in
theorem dX11_newRow_36 : decode prog_13_method_22_code 36 = .ok (.imul, 1) := by decide +kernel
set_option maxRecDepth 100000 in
theorem dX11_newRow_37 : decode prog_13_method_22_code 37 = .ok (.iload_n 3, 1) := by decide +kernel
set_option maxRecDepth 100000 in
theorem dX11_newRow_38 : decode prog_13_method_22_code 38 = .ok (.iadd, 1) := by decide +kernel
set_option maxRecDepth 100000 in
theorem dX11_newRow_39 : decode prog_13_method_22_code 39 = .ok (.iconst 0, 1) := by decide +kernel
set_option maxRecDepth 100000 in
theorem dX11_newRow_40 : decode prog_13_method_22_code 40 = .ok (.iastore, 1) := by decide +kernel
set_option maxRecDepth 100000 in
theorem dX11_newRow_41 : decode prog_13_method_22_code 41 = .ok (.iinc 3 1, 3) := by decide +kernel
set_option maxRecDepth 100000 in
theorem dX11_newRow_44 : decode prog_13_method_22_code 44 = .ok (.goto (-20), 3) := by decide +kernel
set_option maxRecDepth 100000 in
theorem dX11_newRow_47 : decode prog_13_method_22_code 47 = .ok (.iload_n 2, 1) := by decide +kernel
set_option maxRecDepth 100000 in
theorem dX11_newRow_48 : decode prog_13_method_22_code 48 = .ok (.ireturn, 1) := by decide +kernel
set_option maxRecDepth 100000 in
theorem pl11_115_m {mi : aM} {x : Int32} (ho : "HandleModelsModel" = mi.1.cls) : ∀ c ∈ ([9] : List Nat), FL mi.1.cls 115 c 13 ∧ FT c 13 (.inl x) ∧ FW mi c 13 := fun c h9 => by
  have h8 := fl11_115 c h9
  rw [← ho]
  refine ⟨h8, ?_⟩
  simp only [List.mem_cons, List.not_mem_nil, or_false] at h9
  rcases h9 with rfl
  · exact ⟨ft_int rfl (by decide +kernel), ⟨_, rfl, Or.inl rfl⟩⟩
def fX11_newRow_24 (z : Nat → Nat) : Nat → Nat → Int32 → Int32 → Int32 → aH → Option (Int32 × aH)
  | 0, _, _, _, _, _ => none
  | n + 1, a0, x1, x2, x3, h => (if x1 ≤ x3 then
  some (x2, h)
  else
  (rdR h a0 [9] 15).bind fun r101 =>
  (r101).bind fun a102 =>
  (awI h a102 ((20 * x2) + x3) 0).bind fun h103 =>
  fX11_newRow_24 z n a0 x1 x2 (x3 + 1) h103)
set_option maxHeartbeats 4000000 in
set_option maxRecDepth 100000 in
theorem xX11_newRow_24 {l : Launch} {g : aG} {d : Nat} (hK : 0 ≤ d) : ∀ (n : Nat) (a0 : Nat) (x1 : Int32) (x2 : Int32) (x3 : Int32) (h : aH) (q : Int32 × aH), fX11_newRow_24 g.2.2 n a0 x1 x2 x3 h = some q → Y l g miX11_newRow d 24 [some (.inr (.inr (some a0))), some (.inl x1), some (.inl x2), some (.inl x3)] [] h (some (.inl q.1), q.2) := by
  intro n
  induction n with
  | zero => intro a0 x1 x2 x3 h q hf; simp [fX11_newRow_24] at hf
  | succ n ih =>
    intro a0 x1 x2 x3 h q hf
    rw [fX11_newRow_24] at hf
    refine y_iload_n (i := 3) dX11_newRow_24 rfl rfl ?_
    refine y_iload_n (i := 1) dX11_newRow_25 rfl rfl ?_
    refine y_icmp_ge (tgt := 47) dX11_newRow_26 (by decide) (fun hc => ?_) (fun hc => ?_)
    · rw [if_pos hc] at hf
      refine y_iload_n (i := 2) dX11_newRow_47 rfl rfl ?_
      obtain rfl := Option.some.inj hf
      exact y_ret (v := some (.inl x2)) dX11_newRow_48 rfl
    · rw [if_neg hc] at hf
      refine y_aload_n (i := 0) dX11_newRow_29 rfl rfl ?_
      replace hf := bnd hf
      obtain ⟨r101, er101, hf⟩ := hf
      refine y_getR er101 fl11_51 dX11_newRow_30 ?_
      refine y_bipush (v := 20) dX11_newRow_33 (by decide) ?_
      refine y_iload_n (i := 2) dX11_newRow_35 rfl rfl ?_
      refine y_imul dX11_newRow_36 ?_
      refine y_iload_n (i := 3) dX11_newRow_37 rfl rfl ?_
      refine y_iadd dX11_newRow_38 ?_
      refine y_iconst (v := 0) dX11_newRow_39 (by decide) ?_
      replace hf := bnd hf
      obtain ⟨a102, rfl, hf⟩ := hf
      replace hf := bnd hf
      obtain ⟨h103, eh103, hf⟩ := hf
      refine y_iastore eh103 dX11_newRow_40 ?_
      refine y_iinc (i := 3) (y := 1) (lv2 := [some (.inr (.inr (some a0))), some (.inl x1), some (.inl x2), some (.inl (x3 + 1))]) dX11_newRow_41 rfl (by decide) (by decide) rfl ?_
      refine y_goto (tgt := 24) dX11_newRow_44 (by decide) ?_
      refine Y.weak (lv2 := [some (.inr (.inr (some a0))), some (.inl x1), some (.inl x2), some (.inl (x3 + 1))]) [true, true, true, true] rfl ?_
      exact ih _ _ _ _ _ _ hf
def fX11_newRow (z : Nat → Nat) (a0 : Nat) (x1 : Int32) (h : aH) : Option (Int32 × aH) :=
  (rdI h a0 [9] 13).bind fun x101 =>
  (rdI h a0 [9] 13).bind fun x102 =>
  (wrF h a0 [9] 13 (.inl (x102 + 1))).bind fun h103 =>
  (rdR h103 a0 [9] 14).bind fun r104 =>
  (r104).bind fun a105 =>
  (awI h103 a105 x101 x1).bind fun h106 =>
  fX11_newRow_24 z 4000 a0 x1 x101 0 h106
set_option maxHeartbeats 4000000 in
set_option maxRecDepth 100000 in
theorem xX11_newRow {l : Launch} {g : aG} {d : Nat} (hK : 0 ≤ d) {a0 : Nat} {x1 : Int32} {h : aH} {q : Int32 × aH} (hf : fX11_newRow g.2.2 a0 x1 h = some q) : Ev l g miX11_newRow d [.inr (.inr (some a0)), .inl x1] h (some (.inl q.1), q.2) := by
  refine ⟨?_, Or.inl rfl, Nat.le_of_ble_eq_true rfl⟩
  unfold fX11_newRow at hf
  show Y l g miX11_newRow d 0 [some (.inr (.inr (some a0))), some (.inl x1), none, none] [] h _
  refine y_aload_n (i := 0) dX11_newRow_0 rfl rfl ?_
  replace hf := bnd hf
  obtain ⟨x101, ex101, hf⟩ := hf
  refine y_getI ex101 fl11_115 dX11_newRow_1 ?_
  refine y_istore_n (i := 2) (lv2 := [some (.inr (.inr (some a0))), some (.inl x1), some (.inl x101), none]) dX11_newRow_4 rfl (by decide) rfl ?_
  refine y_aload_n (i := 0) dX11_newRow_5 rfl rfl ?_
  refine y_dup dX11_newRow_6 rfl ?_
  replace hf := bnd hf
  obtain ⟨x102, ex102, hf⟩ := hf
  refine y_getI ex102 fl11_115 dX11_newRow_7 ?_
  refine y_iconst (v := 1) dX11_newRow_10 (by decide) ?_
  refine y_iadd dX11_newRow_11 ?_
  replace hf := bnd hf
  obtain ⟨h103, eh103, hf⟩ := hf
  refine y_put eh103 (pl11_115_m rfl) dX11_newRow_12 ?_
  refine y_aload_n (i := 0) dX11_newRow_15 rfl rfl ?_
  replace hf := bnd hf
  obtain ⟨r104, er104, hf⟩ := hf
  refine y_getR er104 fl11_48 dX11_newRow_16 ?_
  refine y_iload_n (i := 2) dX11_newRow_19 rfl rfl ?_
  refine y_iload_n (i := 1) dX11_newRow_20 rfl rfl ?_
  replace hf := bnd hf
  obtain ⟨a105, rfl, hf⟩ := hf
  replace hf := bnd hf
  obtain ⟨h106, eh106, hf⟩ := hf
  refine y_iastore eh106 dX11_newRow_21 ?_
  refine y_iconst (v := 0) dX11_newRow_22 (by decide) ?_
  refine y_istore_n (i := 3) (lv2 := [some (.inr (.inr (some a0))), some (.inl x1), some (.inl x101), some (.inl 0)]) dX11_newRow_23 rfl (by decide) rfl ?_
  refine Y.weak (lv2 := [some (.inr (.inr (some a0))), some (.inl x1), some (.inl x101), some (.inl 0)]) [true, true, true, true] rfl ?_
  exact xX11_newRow_24 hK 4000 _ _ _ _ _ _ hf
set_option maxRecDepth 100000 in
theorem dX11_row_0 : decode prog_13_method_21_code 0 = .ok (.aload_n 0, 1) := by decide +kernel
set_option maxRecDepth 100000 in
theorem dX11_row_1 : decode prog_13_method_21_code 1 = .ok (.iconst 0, 1) := by decide +kernel
set_option maxRecDepth 100000 in
theorem dX11_row_2 : decode prog_13_method_21_code 2 = .ok (.putfield 1, 3) := by decide +kernel
set_option maxRecDepth 100000 in
theorem dX11_row_5 : decode prog_13_method_21_code 5 = .ok (.iload_n 1, 1) := by decide +kernel
set_option maxRecDepth 100000 in
theorem dX11_row_6 : decode prog_13_method_21_code 6 = .ok (.i2l, 1) := by decide +kernel
set_option maxRecDepth 100000 in
theorem dX11_row_7 : decode prog_13_method_21_code 7 = .ok (.lconst 0, 1) := by decide +kernel
set_option maxRecDepth 100000 in
theorem dX11_row_8 : decode prog_13_method_21_code 8 = .ok (.ldc2_w 214, 3) := by decide +kernel
set_option maxRecDepth 100000 in
theorem dX11_row_11 : decode prog_13_method_21_code 11 = .ok (.invokestatic 111, 3) := by decide +kernel
set_option maxRecDepth 100000 in
theorem dX11_row_14 : decode prog_13_method_21_code 14 = .ok (.ifCond .ne 6, 3) := by decide +kernel
set_option maxRecDepth 100000 in
theorem dX11_row_17 : decode prog_13_method_21_code 17 = .ok (.bipush (-3), 2) := by decide +kernel
set_option maxRecDepth 100000 in
theorem dX11_row_19 : decode prog_13_method_21_code 19 = .ok (.ireturn, 1) := by decide +kernel
set_option maxRecDepth 100000 in
theorem dX11_row_20 : decode prog_13_method_21_code 20 = .ok (.aload_n 0, 1) := by decide +kernel
set_option maxRecDepth 100000 in
theorem dX11_row_21 : decode prog_13_method_21_code 21 = .ok (.getfield 115, 3) := by decide +kernel
set_option maxRecDepth 100000 in
theorem dX11_row_24 : decode prog_13_method_21_code 24 = .ok (.bipush 60, 2) := by decide +kernel
set_option maxRecDepth 100000 in
theorem dX11_row_26 : decode prog_13_method_21_code 26 = .ok (.if_icmp .ne 8, 3) := by decide +kernel
set_option maxRecDepth 100000 in
theorem dX11_row_29 : decode prog_13_method_21_code 29 = .ok (.bipush (-5), 2) := by decide +kernel
set_option maxRecDepth 100000 in
theorem dX11_row_31 : decode prog_13_method_21_code 31 = .ok (.goto 8, 3) := by decide +kernel
set_option maxRecDepth 100000 in
theorem dX11_row_34 : decode prog_13_method_21_code 34 = .ok (.aload_n 0, 1) := by decide +kernel
set_option maxRecDepth 100000 in
theorem dX11_row_35 : decode prog_13_method_21_code 35 = .ok (.iload_n 1, 1) := by decide +kernel
set_option maxRecDepth 100000 in
theorem dX11_row_36 : decode prog_13_method_21_code 36 = .ok (.invokevirtual 216, 3) := by decide +kernel
set_option maxRecDepth 100000 in
theorem dX11_row_39 : decode prog_13_method_21_code 39 = .ok (.ireturn, 1) := by decide +kernel
set_option maxRecDepth 100000 in
theorem okX11_newRow : mOk miX11_newRow 1 := ⟨(gd_of 964 rfl rfl), (gd_of 76 rfl rfl), by decide +kernel, ⟨by decide +kernel, by decide +kernel, by decide +kernel⟩, by decide⟩
def fX11_row (z : Nat → Nat) (a0 : Nat) (x1 : Int32) (h : aH) : Option (Int32 × aH) :=
  (wrF h a0 [9] 0 (.inl 0)).bind fun h101 =>
  (fX11_in z (Int32.toInt64 x1) 0 20 h101).bind fun q102 =>
  (if q102.1 = 0 then
  some ((-3), q102.2)
  else
  (rdI q102.2 a0 [9] 13).bind fun x103 =>
  (if x103 = 60 then
  some ((-5), q102.2)
  else
  (obO q102.2 a0 9).bind fun fs105 =>
  (fX11_newRow z a0 x1 q102.2).bind fun q104 =>
  some (q104.1, q104.2)))
set_option maxHeartbeats 4000000 in
set_option maxRecDepth 100000 in
theorem xX11_row {l : Launch} {g : aG} {d : Nat} (hK : 1 ≤ d) {a0 : Nat} {x1 : Int32} {h : aH} {q : Int32 × aH} (hf : fX11_row g.2.2 a0 x1 h = some q) : Ev l g miX11_row d [.inr (.inr (some a0)), .inl x1] h (some (.inl q.1), q.2) := by
  obtain ⟨d, rfl⟩ : ∃ e, d = e + 1 := ⟨d - 1, by omega⟩
  refine ⟨?_, Or.inl rfl, Nat.le_of_ble_eq_true rfl⟩
  unfold fX11_row at hf
  show Y l g miX11_row (d + 1) 0 [some (.inr (.inr (some a0))), some (.inl x1)] [] h _
  refine y_aload_n (i := 0) dX11_row_0 rfl rfl ?_
  refine y_iconst (v := 0) dX11_row_1 (by decide) ?_
  replace hf := bnd hf
  obtain ⟨h101, eh101, hf⟩ := hf
  refine y_put eh101 (pl11_1_m rfl) dX11_row_2 ?_
  refine y_iload_n (i := 1) dX11_row_5 rfl rfl ?_
  refine y_i2l dX11_row_6 ?_
  refine y_lconst (v := 0) dX11_row_7 (by decide) ?_
  refine y_ldc2 (v := 20) dX11_row_8 (gd_of 960 rfl rfl) ?_
  replace hf := bnd hf
  obtain ⟨q102, eq102, hf⟩ := hf
  refine y_callS (mj := miX11_in) (args := [.inr (.inl (Int32.toInt64 x1)), .inr (.inl 0), .inr (.inl 20)]) (st := []) dX11_row_11 (gd_of 878 rfl rfl) (gd_of 879 rfl rfl) okX11_in (xX11_in (by omega) eq102) (Nat.le_of_ble_eq_true rfl) rfl ?_
  show Y l g miX11_row (d + 1) 14 [some (.inr (.inr (some a0))), some (.inl x1)] [.inl q102.1] q102.2 _
  refine y_if_ne (tgt := 20) dX11_row_14 (by decide) (fun hc => ?_) (fun hc => ?_)
  · rw [if_neg hc] at hf
    refine y_aload_n (i := 0) dX11_row_20 rfl rfl ?_
    replace hf := bnd hf
    obtain ⟨x103, ex103, hf⟩ := hf
    refine y_getI ex103 fl11_115 dX11_row_21 ?_
    refine y_bipush (v := 60) dX11_row_24 (by decide) ?_
    refine y_icmp_ne (tgt := 34) dX11_row_26 (by decide) (fun hc => ?_) (fun hc => ?_)
    · rw [if_neg hc] at hf
      refine y_aload_n (i := 0) dX11_row_34 rfl rfl ?_
      refine y_iload_n (i := 1) dX11_row_35 rfl rfl ?_
      replace hf := bnd hf
      obtain ⟨fs105, efs105, hf⟩ := hf
      replace hf := bnd hf
      obtain ⟨q104, eq104, hf⟩ := hf
      refine y_callV (mj := miX11_newRow) (args := [.inl x1]) (st := []) dX11_row_36 (gd_of 961 rfl rfl) (gd_of 963 rfl rfl) (gd_of 49 rfl rfl) okX11_newRow (obO_spec efs105) rfl rfl (xX11_newRow (by omega) eq104) (Nat.le_of_ble_eq_true rfl) rfl ?_
      show Y l g miX11_row (d + 1) 39 [some (.inr (.inr (some a0))), some (.inl x1)] [.inl q104.1] q104.2 _
      obtain rfl := Option.some.inj hf
      exact y_ret (v := some (.inl q104.1)) dX11_row_39 rfl
    · rw [if_pos hc] at hf
      refine y_bipush (v := (-5)) dX11_row_29 (by decide) ?_
      refine y_goto (tgt := 39) dX11_row_31 (by decide) ?_
      obtain rfl := Option.some.inj hf
      exact y_ret (v := some (.inl (-5))) dX11_row_39 rfl
  · rw [if_pos hc] at hf
    refine y_bipush (v := (-3)) dX11_row_17 (by decide) ?_
    obtain rfl := Option.some.inj hf
    exact y_ret (v := some (.inl (-3))) dX11_row_19 rfl
set_option maxRecDepth 100000 in
theorem dX11_isWrong_0 : decode prog_13_method_45_code 0 = .ok (.aload_n 0, 1) := by decide +kernel
set_option maxRecDepth 100000 in
theorem dX11_isWrong_1 : decode prog_13_method_45_code 1 = .ok (.getfield 159, 3) := by decide +kernel
set_option maxRecDepth 100000 in
theorem dX11_isWrong_4 : decode prog_13_method_45_code 4 = .ok (.aload_n 0, 1) := by decide +kernel
set_option maxRecDepth 100000 in
theorem dX11_isWrong_5 : decode prog_13_method_45_code 5 = .ok (.getfield 17, 3) := by decide +kernel
set_option maxRecDepth 100000 in
theorem dX11_isWrong_8 : decode prog_13_method_45_code 8 = .ok (.iload_n 1, 1) := by decide +kernel
set_option maxRecDepth 100000 in
theorem dX11_isWrong_9 : decode prog_13_method_45_code 9 = .ok (.iaload, 1) := by decide +kernel
set_option maxRecDepth 100000 in
theorem dX11_isWrong_10 : decode prog_13_method_45_code 10 = .ok (.if_icmp .eq 7, 3) := by decide +kernel
set_option maxRecDepth 100000 in
theorem dX11_isWrong_13 : decode prog_13_method_45_code 13 = .ok (.iconst 1, 1) := by decide +kernel
set_option maxRecDepth 100000 in
theorem dX11_isWrong_14 : decode prog_13_method_45_code 14 = .ok (.goto 4, 3) := by decide +kernel
set_option maxRecDepth 100000 in
theorem dX11_isWrong_17 : decode prog_13_method_45_code 17 = .ok (.iconst 0, 1) := by decide +kernel
set_option maxRecDepth 100000 in
theorem dX11_isWrong_18 : decode prog_13_method_45_code 18 = .ok (.istore_n 3, 1) := by decide +kernel
set_option maxRecDepth 100000 in
theorem dX11_isWrong_19 : decode prog_13_method_45_code 19 = .ok (.iconst 0, 1) := by decide +kernel
set_option maxRecDepth 100000 in
theorem dX11_isWrong_20 : decode prog_13_method_45_code 20 = .ok (.istore 4, 2) := by decide +kernel
set_option maxRecDepth 100000 in
theorem dX11_isWrong_22 : decode prog_13_method_45_code 22 = .ok (.iload 4, 2) := by decide +kernel
set_option maxRecDepth 100000 in
theorem dX11_isWrong_24 : decode prog_13_method_45_code 24 = .ok (.aload_n 0, 1) := by decide +kernel
set_option maxRecDepth 100000 in
theorem dX11_isWrong_25 : decode prog_13_method_45_code 25 = .ok (.getfield 159, 3) := by decide +kernel
set_option maxRecDepth 100000 in
theorem dX11_isWrong_28 : decode prog_13_method_45_code 28 = .ok (.if_icmp .ge 119, 3) := by decide +kernel
set_option maxRecDepth 100000 in
theorem dX11_isWrong_31 : decode prog_13_method_45_code 31 = .ok (.iload_n 3, 1) := by decide +kernel
set_option maxRecDepth 100000 in
theorem dX11_isWrong_32 : decode prog_13_method_45_code 32 = .ok (.ifCond .ne 115, 3) := by decide +kernel
set_option maxRecDepth 100000 in
theorem dX11_isWrong_35 : decode prog_13_method_45_code 35 = .ok (.aload_n 0, 1) := by decide +kernel
set_option maxRecDepth 100000 in
theorem dX11_isWrong_36 : decode prog_13_method_45_code 36 = .ok (.getfield 20, 3) := by decide +kernel
set_option maxRecDepth 100000 in
theorem dX11_isWrong_39 : decode prog_13_method_45_code 39 = .ok (.bipush 6, 2) := by decide +kernel
set_option maxRecDepth 100000 in
theorem dX11_isWrong_41 : decode prog_13_method_45_code 41 = .ok (.iload_n 1, 1) := by decide +kernel
set_option maxRecDepth 100000 in
theorem dX11_isWrong_42 : decode prog_13_method_45_code 42 = .ok (.imul, 1) := by decide +kernel
set_option maxRecDepth 100000 in
theorem dX11_isWrong_43 : decode prog_13_method_45_code 43 = .ok (.iload 4, 2) := by decide +kernel
set_option maxRecDepth 100000 in
theorem dX11_isWrong_45 : decode prog_13_method_45_code 45 = .ok (.iadd, 1) := by decide +kernel
set_option maxRecDepth 100000 in
theorem dX11_isWrong_46 : decode prog_13_method_45_code 46 = .ok (.iaload, 1) := by decide +kernel
set_option maxRecDepth 100000 in
theorem dX11_isWrong_47 : decode prog_13_method_45_code 47 = .ok (.istore 5, 2) := by decide +kernel
set_option maxRecDepth 100000 in
theorem dX11_isWrong_49 : decode prog_13_method_45_code 49 = .ok (.aload_n 0, 1) := by decide +kernel
set_option maxRecDepth 100000 in
theorem dX11_isWrong_50 : decode prog_13_method_45_code 50 = .ok (.getfield 63, 3) := by decide +kernel
set_option maxRecDepth 100000 in
theorem dX11_isWrong_53 : decode prog_13_method_45_code 53 = .ok (.iload 4, 2) := by decide +kernel
set_option maxRecDepth 100000 in
theorem dX11_isWrong_55 : decode prog_13_method_45_code 55 = .ok (.iaload, 1) := by decide +kernel
set_option maxRecDepth 100000 in
theorem dX11_isWrong_56 : decode prog_13_method_45_code 56 = .ok (.istore 6, 2) := by decide +kernel
set_option maxRecDepth 100000 in
theorem dX11_isWrong_58 : decode prog_13_method_45_code 58 = .ok (.iload_n 2, 1) := by decide +kernel
set_option maxRecDepth 100000 in
theorem dX11_isWrong_59 : decode prog_13_method_45_code 59 = .ok (.ifCond .eq 60, 3) := by decide +kernel
set_option maxRecDepth 100000 in
theorem dX11_isWrong_62 : decode prog_13_method_45_code 62 = .ok (.iload 5, 2) := by decide +kernel
set_option maxRecDepth 100000 in
theorem dX11_isWrong_64 : decode prog_13_method_45_code 64 = .ok (.ifCond .ne 11, 3) := by decide +kernel
set_option maxRecDepth 100000 in
theorem dX11_isWrong_67 : decode prog_13_method_45_code 67 = .ok (.iload 6, 2) := by decide +kernel
set_option maxRecDepth 100000 in
theorem dX11_isWrong_69 : decode prog_13_method_45_code 69 = .ok (.ifCond .ne 42, 3) := by decide +kernel
set_option maxRecDepth 100000 in
theorem dX11_isWrong_72 : decode prog_13_method_45_code 72 = .ok (.goto 43, 3) := by decide +kernel
set_option maxRecDepth 100000 in
theorem dX11_isWrong_75 : decode prog_13_method_45_code 75 = .ok (.iload 5, 2) := by decide +kernel
set_option maxRecDepth 100000 in
theorem dX11_isWrong_77 : decode prog_13_method_45_code 77 = .ok (.iconst 1, 1) := by decide +kernel
set_option maxRecDepth 100000 in
theorem dX11_isWrong_78 : decode prog_13_method_45_code 78 = .ok (.if_icmp .ne 12, 3) := by decide +kernel
set_option maxRecDepth 100000 in
theorem dX11_isWrong_81 : decode prog_13_method_45_code 81 = .ok (.iload 6, 2) := by decide +kernel
set_option maxRecDepth 100000 in
theorem dX11_isWrong_83 : decode prog_13_method_45_code 83 = .ok (.iconst 1, 1) := by decide +kernel
set_option maxRecDepth 100000 in
theorem dX11_isWrong_84 : decode prog_13_method_45_code 84 = .ok (.if_icmp .ne 27, 3) := by decide +kernel
set_option maxRecDepth 100000 in
theorem dX11_isWrong_87 : decode prog_13_method_45_code 87 = .ok (.goto 28, 3) := by decide +kernel
set_option maxRecDepth 100000 in
theorem dX11_isWrong_90 : decode prog_13_method_45_code 90 = .ok (.iload 5, 2) := by decide +kernel
set_option maxRecDepth 100000 in
theorem dX11_isWrong_92 : decode prog_13_method_45_code 92 = .ok (.iconst 2, 1) := by decide +kernel
set_option maxRecDepth 100000 in
theorem dX11_isWrong_93 : decode prog_13_method_45_code 93 = .ok (.if_icmp .ne 12, 3) := by decide +kernel
set_option maxRecDepth 100000 in
theorem dX11_isWrong_96 : decode prog_13_method_45_code 96 = .ok (.iload 6, 2) := by decide +kernel
set_option maxRecDepth 100000 in
theorem dX11_isWrong_98 : decode prog_13_method_45_code 98 = .ok (.iconst 2, 1) := by decide +kernel
set_option maxRecDepth 100000 in
theorem dX11_isWrong_99 : decode prog_13_method_45_code 99 = .ok (.if_icmp .eq 12, 3) := by decide +kernel
set_option maxRecDepth 100000 in
theorem dX11_isWrong_102 : decode prog_13_method_45_code 102 = .ok (.goto 13, 3) := by decide +kernel
set_option maxRecDepth 100000 in
theorem dX11_isWrong_105 : decode prog_13_method_45_code 105 = .ok (.iload 6, 2) := by decide +kernel
set_option maxRecDepth 100000 in
theorem dX11_isWrong_107 : decode prog_13_method_45_code 107 = .ok (.iconst 1, 1) := by decide +kernel
set_option maxRecDepth 100000 in
theorem dX11_isWrong_108 : decode prog_13_method_45_code 108 = .ok (.if_icmp .gt 7, 3) := by decide +kernel
set_option maxRecDepth 100000 in
theorem dX11_isWrong_111 : decode prog_13_method_45_code 111 = .ok (.iconst 1, 1) := by decide +kernel
set_option maxRecDepth 100000 in
theorem dX11_isWrong_112 : decode prog_13_method_45_code 112 = .ok (.goto 28, 3) := by decide +kernel
set_option maxRecDepth 100000 in
theorem dX11_isWrong_115 : decode prog_13_method_45_code 115 = .ok (.iconst 0, 1) := by decide +kernel
set_option maxRecDepth 100000 in
theorem dX11_isWrong_116 : decode prog_13_method_45_code 116 = .ok (.goto 24, 3) := by decide +kernel
set_option maxRecDepth 100000 in
theorem dX11_isWrong_119 : decode prog_13_method_45_code 119 = .ok (.aload_n 0, 1) := by decide +kernel
set_option maxRecDepth 100000 in
theorem dX11_isWrong_120 : decode prog_13_method_45_code 120 = .ok (.iload 4, 2) := by decide +kernel
set_option maxRecDepth 100000 in
theorem dX11_isWrong_122 : decode prog_13_method_45_code 122 = .ok (.iload 5, 2) := by decide +kernel
set_option maxRecDepth 100000 in
theorem dX11_isWrong_124 : decode prog_13_method_45_code 124 = .ok (.invokevirtual 162, 3) := by decide +kernel
set_option maxRecDepth 100000 in
theorem dX11_isWrong_127 : decode prog_13_method_45_code 127 = .ok (.iload 5, 2) := by decide +kernel
set_option maxRecDepth 100000 in
theorem dX11_isWrong_129 : decode prog_13_method_45_code 129 = .ok (.invokestatic 166, 3) := by decide +kernel
set_option maxRecDepth 100000 in
theorem dX11_isWrong_132 : decode prog_13_method_45_code 132 = .ok (.ifCond .ne 7, 3) := by decide +kernel
set_option maxRecDepth 100000 in
theorem dX11_isWrong_135 : decode prog_13_method_45_code 135 = .ok (.iconst 1, 1) := by decide +kernel
set_option maxRecDepth 100000 in
theorem dX11_isWrong_136 : decode prog_13_method_45_code 136 = .ok (.goto 4, 3) := by decide +kernel
set_option maxRecDepth 100000 in
theorem dX11_isWrong_139 : decode prog_13_method_45_code 139 = .ok (.iconst 0, 1) := by decide +kernel
set_option maxRecDepth 100000 in
theorem dX11_isWrong_140 : decode prog_13_method_45_code 140 = .ok (.istore_n 3, 1) := by decide +kernel
set_option maxRecDepth 100000 in
theorem dX11_isWrong_141 : decode prog_13_method_45_code 141 = .ok (.iinc 4 1, 3) := by decide +kernel
set_option maxRecDepth 100000 in
theorem dX11_isWrong_144 : decode prog_13_method_45_code 144 = .ok (.goto (-122), 3) := by decide +kernel
set_option maxRecDepth 100000 in
theorem dX11_isWrong_147 : decode prog_13_method_45_code 147 = .ok (.iload_n 3, 1) := by decide +kernel
set_option maxRecDepth 100000 in
theorem dX11_isWrong_148 : decode prog_13_method_45_code 148 = .ok (.ireturn, 1) := by decide +kernel

def fX11_isWrong_22 (z : Nat → Nat) : Nat → Nat → Int32 → Int32 → Int32 → Int32 → aH → Option (Int32 × aH)
  | 0, _, _, _, _, _, _ => none
  | n + 1, a0, x1, x2, x3, x4, h => (rdI h a0 [9] 20).bind fun x101 =>
  (if x101 ≤ x4 then
  some (x3, h)
  else
  (if x3 = 0 then
  (rdR h a0 [9] 4).bind fun r102 =>
  (r102).bind fun a103 =>
  (arI h a103 ((6 * x1) + x4)).bind fun x104 =>
  (rdR h a0 [9] 21).bind fun r105 =>
  (r105).bind fun a106 =>
  (arI h a106 x4).bind fun x107 =>
  (if x2 = 0 then
  (obO h a0 9).bind fun fs109 =>
  (fX11_typeOfValue z a0 x4 x104 h).bind fun q108 =>
  (fX11_canAdapt z q108.1 x104 q108.2).bind fun q110 =>
  (if q110.1 = 0 then
  fX11_isWrong_22 z n a0 x1 x2 1 (x4 + 1) q110.2
  else
  fX11_isWrong_22 z n a0 x1 x2 0 (x4 + 1) q110.2)
  else
  (if x104 = 0 then
  (if x107 = 0 then
  fX11_isWrong_22 z n a0 x1 x2 0 (x4 + 1) h
  else
  fX11_isWrong_22 z n a0 x1 x2 1 (x4 + 1) h)
  else
  (if x104 = 1 then
  (if x107 = 1 then
  fX11_isWrong_22 z n a0 x1 x2 0 (x4 + 1) h
  else
  fX11_isWrong_22 z n a0 x1 x2 1 (x4 + 1) h)
  else
  (if x104 = 2 then
  (if x107 = 2 then
  fX11_isWrong_22 z n a0 x1 x2 1 (x4 + 1) h
  else
  fX11_isWrong_22 z n a0 x1 x2 0 (x4 + 1) h)
  else
  (if 1 < x107 then
  fX11_isWrong_22 z n a0 x1 x2 0 (x4 + 1) h
  else
  fX11_isWrong_22 z n a0 x1 x2 1 (x4 + 1) h)))))
  else
  some (x3, h)))
set_option maxHeartbeats 4000000 in
set_option maxRecDepth 100000 in
theorem xX11_isWrong_22 {l : Launch} {g : aG} {d : Nat} (hK : 1 ≤ d + 1) : ∀ (n : Nat) (a0 : Nat) (x1 : Int32) (x2 : Int32) (x3 : Int32) (x4 : Int32) (h : aH) (q : Int32 × aH), fX11_isWrong_22 g.2.2 n a0 x1 x2 x3 x4 h = some q → Y l g miX11_isWrong (d + 1) 22 [some (.inr (.inr (some a0))), some (.inl x1), some (.inl x2), some (.inl x3), some (.inl x4), none, none] [] h (some (.inl q.1), q.2) := by
  intro n
  induction n with
  | zero => intro a0 x1 x2 x3 x4 h q hf; simp [fX11_isWrong_22] at hf
  | succ n ih =>
    intro a0 x1 x2 x3 x4 h q hf
    rw [fX11_isWrong_22] at hf
    refine y_iload (i := 4) dX11_isWrong_22 rfl ?_
    refine y_aload_n (i := 0) dX11_isWrong_24 rfl rfl ?_
    replace hf := bnd hf
    obtain ⟨x101, ex101, hf⟩ := hf
    refine y_getI ex101 fl11_159 dX11_isWrong_25 ?_
    refine y_icmp_ge (tgt := 147) dX11_isWrong_28 (by decide) (fun hc => ?_) (fun hc => ?_)
    · rw [if_pos hc] at hf
      refine y_iload_n (i := 3) dX11_isWrong_147 rfl rfl ?_
      obtain rfl := Option.some.inj hf
      exact y_ret (v := some (.inl x3)) dX11_isWrong_148 rfl
    · rw [if_neg hc] at hf
      refine y_iload_n (i := 3) dX11_isWrong_31 rfl rfl ?_
      refine y_if_ne (tgt := 147) dX11_isWrong_32 (by decide) (fun hc => ?_) (fun hc => ?_)
      · rw [if_neg hc] at hf
        refine y_iload_n (i := 3) dX11_isWrong_147 rfl rfl ?_
        obtain rfl := Option.some.inj hf
        exact y_ret (v := some (.inl x3)) dX11_isWrong_148 rfl
      · rw [if_pos hc] at hf
        refine y_aload_n (i := 0) dX11_isWrong_35 rfl rfl ?_
        replace hf := bnd hf
        obtain ⟨r102, er102, hf⟩ := hf
        refine y_getR er102 fl11_20 dX11_isWrong_36 ?_
        refine y_bipush (v := 6) dX11_isWrong_39 (by decide) ?_
        refine y_iload_n (i := 1) dX11_isWrong_41 rfl rfl ?_
        refine y_imul dX11_isWrong_42 ?_
        refine y_iload (i := 4) dX11_isWrong_43 rfl ?_
        refine y_iadd dX11_isWrong_45 ?_
        replace hf := bnd hf
        obtain ⟨a103, rfl, hf⟩ := hf
        replace hf := bnd hf
        obtain ⟨x104, ex104, hf⟩ := hf
        refine y_iaload ex104 dX11_isWrong_46 ?_
        refine y_istore (i := 5) (lv2 := [some (.inr (.inr (some a0))), some (.inl x1), some (.inl x2), some (.inl x3), some (.inl x4), some (.inl x104), none]) dX11_isWrong_47 (by decide) rfl ?_
        refine y_aload_n (i := 0) dX11_isWrong_49 rfl rfl ?_
        replace hf := bnd hf
        obtain ⟨r105, er105, hf⟩ := hf
        refine y_getR er105 fl11_63 dX11_isWrong_50 ?_
        refine y_iload (i := 4) dX11_isWrong_53 rfl ?_
        replace hf := bnd hf
        obtain ⟨a106, rfl, hf⟩ := hf
        replace hf := bnd hf
        obtain ⟨x107, ex107, hf⟩ := hf
        refine y_iaload ex107 dX11_isWrong_55 ?_
        refine y_istore (i := 6) (lv2 := [some (.inr (.inr (some a0))), some (.inl x1), some (.inl x2), some (.inl x3), some (.inl x4), some (.inl x104), some (.inl x107)]) dX11_isWrong_56 (by decide) rfl ?_
        refine y_iload_n (i := 2) dX11_isWrong_58 rfl rfl ?_
        refine y_if_eq (tgt := 119) dX11_isWrong_59 (by decide) (fun hc => ?_) (fun hc => ?_)
        · rw [if_pos hc] at hf
          refine y_aload_n (i := 0) dX11_isWrong_119 rfl rfl ?_
          refine y_iload (i := 4) dX11_isWrong_120 rfl ?_
          refine y_iload (i := 5) dX11_isWrong_122 rfl ?_
          replace hf := bnd hf
          obtain ⟨fs109, efs109, hf⟩ := hf
          replace hf := bnd hf
          obtain ⟨q108, eq108, hf⟩ := hf
          refine y_callV (mj := miX11_typeOfValue) (args := [.inl x4, .inl x104]) (st := []) dX11_isWrong_124 (gd_of 929 rfl rfl) (gd_of 931 rfl rfl) (gd_of 43 rfl rfl) okX11_typeOfValue (obO_spec efs109) rfl rfl (xX11_typeOfValue (by omega) eq108) (Nat.le_of_ble_eq_true rfl) rfl ?_
          show Y l g miX11_isWrong (d + 1) 127 [some (.inr (.inr (some a0))), some (.inl x1), some (.inl x2), some (.inl x3), some (.inl x4), some (.inl x104), some (.inl x107)] [.inl q108.1] q108.2 _
          refine y_iload (i := 5) dX11_isWrong_127 rfl ?_
          replace hf := bnd hf
          obtain ⟨q110, eq110, hf⟩ := hf
          refine y_callS (mj := miX11_canAdapt) (args := [.inl q108.1, .inl x104]) (st := []) dX11_isWrong_129 (gd_of 933 rfl rfl) (gd_of 934 rfl rfl) okX11_canAdapt (xX11_canAdapt (by omega) eq110) (Nat.le_of_ble_eq_true rfl) rfl ?_
          show Y l g miX11_isWrong (d + 1) 132 [some (.inr (.inr (some a0))), some (.inl x1), some (.inl x2), some (.inl x3), some (.inl x4), some (.inl x104), some (.inl x107)] [.inl q110.1] q110.2 _
          refine y_if_ne (tgt := 139) dX11_isWrong_132 (by decide) (fun hc => ?_) (fun hc => ?_)
          · rw [if_neg hc] at hf
            refine y_iconst (v := 0) dX11_isWrong_139 (by decide) ?_
            refine y_istore_n (i := 3) (lv2 := [some (.inr (.inr (some a0))), some (.inl x1), some (.inl x2), some (.inl 0), some (.inl x4), some (.inl x104), some (.inl x107)]) dX11_isWrong_140 rfl (by decide) rfl ?_
            refine y_iinc (i := 4) (y := 1) (lv2 := [some (.inr (.inr (some a0))), some (.inl x1), some (.inl x2), some (.inl 0), some (.inl (x4 + 1)), some (.inl x104), some (.inl x107)]) dX11_isWrong_141 rfl (by decide) (by decide) rfl ?_
            refine y_goto (tgt := 22) dX11_isWrong_144 (by decide) ?_
            refine Y.weak (lv2 := [some (.inr (.inr (some a0))), some (.inl x1), some (.inl x2), some (.inl 0), some (.inl (x4 + 1)), none, none]) [true, true, true, true, true, false, false] rfl ?_
            exact ih _ _ _ _ _ _ _ hf
          · rw [if_pos hc] at hf
            refine y_iconst (v := 1) dX11_isWrong_135 (by decide) ?_
            refine y_goto (tgt := 140) dX11_isWrong_136 (by decide) ?_
            refine y_istore_n (i := 3) (lv2 := [some (.inr (.inr (some a0))), some (.inl x1), some (.inl x2), some (.inl 1), some (.inl x4), some (.inl x104), some (.inl x107)]) dX11_isWrong_140 rfl (by decide) rfl ?_
            refine y_iinc (i := 4) (y := 1) (lv2 := [some (.inr (.inr (some a0))), some (.inl x1), some (.inl x2), some (.inl 1), some (.inl (x4 + 1)), some (.inl x104), some (.inl x107)]) dX11_isWrong_141 rfl (by decide) (by decide) rfl ?_
            refine y_goto (tgt := 22) dX11_isWrong_144 (by decide) ?_
            refine Y.weak (lv2 := [some (.inr (.inr (some a0))), some (.inl x1), some (.inl x2), some (.inl 1), some (.inl (x4 + 1)), none, none]) [true, true, true, true, true, false, false] rfl ?_
            exact ih _ _ _ _ _ _ _ hf
        · rw [if_neg hc] at hf
          refine y_iload (i := 5) dX11_isWrong_62 rfl ?_
          refine y_if_ne (tgt := 75) dX11_isWrong_64 (by decide) (fun hc => ?_) (fun hc => ?_)
          · rw [if_neg hc] at hf
            refine y_iload (i := 5) dX11_isWrong_75 rfl ?_
            refine y_iconst (v := 1) dX11_isWrong_77 (by decide) ?_
            refine y_icmp_ne (tgt := 90) dX11_isWrong_78 (by decide) (fun hc => ?_) (fun hc => ?_)
            · rw [if_neg hc] at hf
              refine y_iload (i := 5) dX11_isWrong_90 rfl ?_
              refine y_iconst (v := 2) dX11_isWrong_92 (by decide) ?_
              refine y_icmp_ne (tgt := 105) dX11_isWrong_93 (by decide) (fun hc => ?_) (fun hc => ?_)
              · rw [if_neg hc] at hf
                refine y_iload (i := 6) dX11_isWrong_105 rfl ?_
                refine y_iconst (v := 1) dX11_isWrong_107 (by decide) ?_
                refine y_icmp_gt (tgt := 115) dX11_isWrong_108 (by decide) (fun hc => ?_) (fun hc => ?_)
                · rw [if_pos hc] at hf
                  refine y_iconst (v := 0) dX11_isWrong_115 (by decide) ?_
                  refine y_goto (tgt := 140) dX11_isWrong_116 (by decide) ?_
                  refine y_istore_n (i := 3) (lv2 := [some (.inr (.inr (some a0))), some (.inl x1), some (.inl x2), some (.inl 0), some (.inl x4), some (.inl x104), some (.inl x107)]) dX11_isWrong_140 rfl (by decide) rfl ?_
                  refine y_iinc (i := 4) (y := 1) (lv2 := [some (.inr (.inr (some a0))), some (.inl x1), some (.inl x2), some (.inl 0), some (.inl (x4 + 1)), some (.inl x104), some (.inl x107)]) dX11_isWrong_141 rfl (by decide) (by decide) rfl ?_
                  refine y_goto (tgt := 22) dX11_isWrong_144 (by decide) ?_
                  refine Y.weak (lv2 := [some (.inr (.inr (some a0))), some (.inl x1), some (.inl x2), some (.inl 0), some (.inl (x4 + 1)), none, none]) [true, true, true, true, true, false, false] rfl ?_
                  exact ih _ _ _ _ _ _ _ hf
                · rw [if_neg hc] at hf
                  refine y_iconst (v := 1) dX11_isWrong_111 (by decide) ?_
                  refine y_goto (tgt := 140) dX11_isWrong_112 (by decide) ?_
                  refine y_istore_n (i := 3) (lv2 := [some (.inr (.inr (some a0))), some (.inl x1), some (.inl x2), some (.inl 1), some (.inl x4), some (.inl x104), some (.inl x107)]) dX11_isWrong_140 rfl (by decide) rfl ?_
                  refine y_iinc (i := 4) (y := 1) (lv2 := [some (.inr (.inr (some a0))), some (.inl x1), some (.inl x2), some (.inl 1), some (.inl (x4 + 1)), some (.inl x104), some (.inl x107)]) dX11_isWrong_141 rfl (by decide) (by decide) rfl ?_
                  refine y_goto (tgt := 22) dX11_isWrong_144 (by decide) ?_
                  refine Y.weak (lv2 := [some (.inr (.inr (some a0))), some (.inl x1), some (.inl x2), some (.inl 1), some (.inl (x4 + 1)), none, none]) [true, true, true, true, true, false, false] rfl ?_
                  exact ih _ _ _ _ _ _ _ hf
              · rw [if_pos hc] at hf
                refine y_iload (i := 6) dX11_isWrong_96 rfl ?_
                refine y_iconst (v := 2) dX11_isWrong_98 (by decide) ?_
                refine y_icmp_eq (tgt := 111) dX11_isWrong_99 (by decide) (fun hc => ?_) (fun hc => ?_)
                · rw [if_pos hc] at hf
                  refine y_iconst (v := 1) dX11_isWrong_111 (by decide) ?_
                  refine y_goto (tgt := 140) dX11_isWrong_112 (by decide) ?_
                  refine y_istore_n (i := 3) (lv2 := [some (.inr (.inr (some a0))), some (.inl x1), some (.inl x2), some (.inl 1), some (.inl x4), some (.inl x104), some (.inl x107)]) dX11_isWrong_140 rfl (by decide) rfl ?_
                  refine y_iinc (i := 4) (y := 1) (lv2 := [some (.inr (.inr (some a0))), some (.inl x1), some (.inl x2), some (.inl 1), some (.inl (x4 + 1)), some (.inl x104), some (.inl x107)]) dX11_isWrong_141 rfl (by decide) (by decide) rfl ?_
                  refine y_goto (tgt := 22) dX11_isWrong_144 (by decide) ?_
                  refine Y.weak (lv2 := [some (.inr (.inr (some a0))), some (.inl x1), some (.inl x2), some (.inl 1), some (.inl (x4 + 1)), none, none]) [true, true, true, true, true, false, false] rfl ?_
                  exact ih _ _ _ _ _ _ _ hf
                · rw [if_neg hc] at hf
                  refine y_goto (tgt := 115) dX11_isWrong_102 (by decide) ?_
                  refine y_iconst (v := 0) dX11_isWrong_115 (by decide) ?_
                  refine y_goto (tgt := 140) dX11_isWrong_116 (by decide) ?_
                  refine y_istore_n (i := 3) (lv2 := [some (.inr (.inr (some a0))), some (.inl x1), some (.inl x2), some (.inl 0), some (.inl x4), some (.inl x104), some (.inl x107)]) dX11_isWrong_140 rfl (by decide) rfl ?_
                  refine y_iinc (i := 4) (y := 1) (lv2 := [some (.inr (.inr (some a0))), some (.inl x1), some (.inl x2), some (.inl 0), some (.inl (x4 + 1)), some (.inl x104), some (.inl x107)]) dX11_isWrong_141 rfl (by decide) (by decide) rfl ?_
                  refine y_goto (tgt := 22) dX11_isWrong_144 (by decide) ?_
                  refine Y.weak (lv2 := [some (.inr (.inr (some a0))), some (.inl x1), some (.inl x2), some (.inl 0), some (.inl (x4 + 1)), none, none]) [true, true, true, true, true, false, false] rfl ?_
                  exact ih _ _ _ _ _ _ _ hf
            · rw [if_pos hc] at hf
              refine y_iload (i := 6) dX11_isWrong_81 rfl ?_
              refine y_iconst (v := 1) dX11_isWrong_83 (by decide) ?_
              refine y_icmp_ne (tgt := 111) dX11_isWrong_84 (by decide) (fun hc => ?_) (fun hc => ?_)
              · rw [if_neg hc] at hf
                refine y_iconst (v := 1) dX11_isWrong_111 (by decide) ?_
                refine y_goto (tgt := 140) dX11_isWrong_112 (by decide) ?_
                refine y_istore_n (i := 3) (lv2 := [some (.inr (.inr (some a0))), some (.inl x1), some (.inl x2), some (.inl 1), some (.inl x4), some (.inl x104), some (.inl x107)]) dX11_isWrong_140 rfl (by decide) rfl ?_
                refine y_iinc (i := 4) (y := 1) (lv2 := [some (.inr (.inr (some a0))), some (.inl x1), some (.inl x2), some (.inl 1), some (.inl (x4 + 1)), some (.inl x104), some (.inl x107)]) dX11_isWrong_141 rfl (by decide) (by decide) rfl ?_
                refine y_goto (tgt := 22) dX11_isWrong_144 (by decide) ?_
                refine Y.weak (lv2 := [some (.inr (.inr (some a0))), some (.inl x1), some (.inl x2), some (.inl 1), some (.inl (x4 + 1)), none, none]) [true, true, true, true, true, false, false] rfl ?_
                exact ih _ _ _ _ _ _ _ hf
              · rw [if_pos hc] at hf
                refine y_goto (tgt := 115) dX11_isWrong_87 (by decide) ?_
                refine y_iconst (v := 0) dX11_isWrong_115 (by decide) ?_
                refine y_goto (tgt := 140) dX11_isWrong_116 (by decide) ?_
                refine y_istore_n (i := 3) (lv2 := [some (.inr (.inr (some a0))), some (.inl x1), some (.inl x2), some (.inl 0), some (.inl x4), some (.inl x104), some (.inl x107)]) dX11_isWrong_140 rfl (by decide) rfl ?_
                refine y_iinc (i := 4) (y := 1) (lv2 := [some (.inr (.inr (some a0))), some (.inl x1), some (.inl x2), some (.inl 0), some (.inl (x4 + 1)), some (.inl x104), some (.inl x107)]) dX11_isWrong_141 rfl (by decide) (by decide) rfl ?_
                refine y_goto (tgt := 22) dX11_isWrong_144 (by decide) ?_
                refine Y.weak (lv2 := [some (.inr (.inr (some a0))), some (.inl x1), some (.inl x2), some (.inl 0), some (.inl (x4 + 1)), none, none]) [true, true, true, true, true, false, false] rfl ?_
                exact ih _ _ _ _ _ _ _ hf
          · rw [if_pos hc] at hf
            refine y_iload (i := 6) dX11_isWrong_67 rfl ?_
            refine y_if_ne (tgt := 111) dX11_isWrong_69 (by decide) (fun hc => ?_) (fun hc => ?_)
            · rw [if_neg hc] at hf
              refine y_iconst (v := 1) dX11_isWrong_111 (by decide) ?_
              refine y_goto (tgt := 140) dX11_isWrong_112 (by decide) ?_
              refine y_istore_n (i := 3) (lv2 := [some (.inr (.inr (some a0))), some (.inl x1), some (.inl x2), some (.inl 1), some (.inl x4), some (.inl x104), some (.inl x107)]) dX11_isWrong_140 rfl (by decide) rfl ?_
              refine y_iinc (i := 4) (y := 1) (lv2 := [some (.inr (.inr (some a0))), some (.inl x1), some (.inl x2), some (.inl 1), some (.inl (x4 + 1)), some (.inl x104), some (.inl x107)]) dX11_isWrong_141 rfl (by decide) (by decide) rfl ?_
              refine y_goto (tgt := 22) dX11_isWrong_144 (by decide) ?_
              refine Y.weak (lv2 := [some (.inr (.inr (some a0))), some (.inl x1), some (.inl x2), some (.inl 1), some (.inl (x4 + 1)), none, none]) [true, true, true, true, true, false, false] rfl ?_
              exact ih _ _ _ _ _ _ _ hf
            · rw [if_pos hc] at hf
              refine y_goto (tgt := 115) dX11_isWrong_72 (by decide) ?_
              refine y_iconst (v := 0) dX11_isWrong_115 (by decide) ?_
              refine y_goto (tgt := 140) dX11_isWrong_116 (by decide) ?_
              refine y_istore_n (i := 3) (lv2 := [some (.inr (.inr (some a0))), some (.inl x1), some (.inl x2), some (.inl 0), some (.inl x4), some (.inl x104), some (.inl x107)]) dX11_isWrong_140 rfl (by decide) rfl ?_
              refine y_iinc (i := 4) (y := 1) (lv2 := [some (.inr (.inr (some a0))), some (.inl x1), some (.inl x2), some (.inl 0), some (.inl (x4 + 1)), some (.inl x104), some (.inl x107)]) dX11_isWrong_141 rfl (by decide) (by decide) rfl ?_
              refine y_goto (tgt := 22) dX11_isWrong_144 (by decide) ?_
              refine Y.weak (lv2 := [some (.inr (.inr (some a0))), some (.inl x1), some (.inl x2), some (.inl 0), some (.inl (x4 + 1)), none, none]) [true, true, true, true, true, false, false] rfl ?_
              exact ih _ _ _ _ _ _ _ hf
def fX11_isWrong_e (z : Nat → Nat) (a0 : Nat) (x1 : Int32) (x2 : Int32) (h : aH) : Option (Int32 × aH) :=
  (rdI h a0 [9] 20).bind fun x101 =>
  (rdR h a0 [9] 3).bind fun r102 =>
  (r102).bind fun a103 =>
  (arI h a103 x1).bind fun x104 =>
  (if x101 = x104 then
  fX11_isWrong_22 z 4000 a0 x1 x2 0 0 h
  else
  fX11_isWrong_22 z 4000 a0 x1 x2 1 0 h)
def fX11_isWrong (z : Nat → Nat) (a0 : Nat) (x1 : Int32) (x2 : Int32) (h : aH) : Option (Int32 × aH) := chkB (fX11_isWrong_e z a0 x1 x2 h)
set_option maxHeartbeats 4000000 in
set_option maxRecDepth 100000 in
theorem xX11_isWrong {l : Launch} {g : aG} {d : Nat} (hK : 1 ≤ d) {a0 : Nat} {x1 : Int32} {x2 : Int32} {h : aH} {q : Int32 × aH} (hf : fX11_isWrong g.2.2 a0 x1 x2 h = some q) : Ev l g miX11_isWrong d [.inr (.inr (some a0)), .inl x1, .inl x2] h (some (.inl q.1), q.2) := by
  obtain ⟨d, rfl⟩ : ∃ e, d = e + 1 := ⟨d - 1, by omega⟩
  replace hf := chkB_spec hf
  obtain ⟨hf, hb⟩ := hf
  refine ⟨?_, Or.inr ⟨rfl, hb⟩, Nat.le_of_ble_eq_true rfl⟩
  unfold fX11_isWrong_e at hf
  show Y l g miX11_isWrong (d + 1) 0 [some (.inr (.inr (some a0))), some (.inl x1), some (.inl x2), none, none, none, none] [] h _
  refine y_aload_n (i := 0) dX11_isWrong_0 rfl rfl ?_
  replace hf := bnd hf
  obtain ⟨x101, ex101, hf⟩ := hf
  refine y_getI ex101 fl11_159 dX11_isWrong_1 ?_
  refine y_aload_n (i := 0) dX11_isWrong_4 rfl rfl ?_
  replace hf := bnd hf
  obtain ⟨r102, er102, hf⟩ := hf
  refine y_getR er102 fl11_17 dX11_isWrong_5 ?_
  refine y_iload_n (i := 1) dX11_isWrong_8 rfl rfl ?_
  replace hf := bnd hf
  obtain ⟨a103, rfl, hf⟩ := hf
  replace hf := bnd hf
  obtain ⟨x104, ex104, hf⟩ := hf
  refine y_iaload ex104 dX11_isWrong_9 ?_
  refine y_icmp_eq (tgt := 17) dX11_isWrong_10 (by decide) (fun hc => ?_) (fun hc => ?_)
  · rw [if_pos hc] at hf
    refine y_iconst (v := 0) dX11_isWrong_17 (by decide) ?_
    refine y_istore_n (i := 3) (lv2 := [some (.inr (.inr (some a0))), some (.inl x1), some (.inl x2), some (.inl 0), none, none, none]) dX11_isWrong_18 rfl (by decide) rfl ?_
    refine y_iconst (v := 0) dX11_isWrong_19 (by decide) ?_
    refine y_istore (i := 4) (lv2 := [some (.inr (.inr (some a0))), some (.inl x1), some (.inl x2), some (.inl 0), some (.inl 0), none, none]) dX11_isWrong_20 (by decide) rfl ?_
    refine Y.weak (lv2 := [some (.inr (.inr (some a0))), some (.inl x1), some (.inl x2), some (.inl 0), some (.inl 0), none, none]) [true, true, true, true, true, false, false] rfl ?_
    exact xX11_isWrong_22 hK 4000 _ _ _ _ _ _ _ hf
  · rw [if_neg hc] at hf
    refine y_iconst (v := 1) dX11_isWrong_13 (by decide) ?_
    refine y_goto (tgt := 18) dX11_isWrong_14 (by decide) ?_
    refine y_istore_n (i := 3) (lv2 := [some (.inr (.inr (some a0))), some (.inl x1), some (.inl x2), some (.inl 1), none, none, none]) dX11_isWrong_18 rfl (by decide) rfl ?_
    refine y_iconst (v := 0) dX11_isWrong_19 (by decide) ?_
    refine y_istore (i := 4) (lv2 := [some (.inr (.inr (some a0))), some (.inl x1), some (.inl x2), some (.inl 1), some (.inl 0), none, none]) dX11_isWrong_20 (by decide) rfl ?_
    refine Y.weak (lv2 := [some (.inr (.inr (some a0))), some (.inl x1), some (.inl x2), some (.inl 1), some (.inl 0), none, none]) [true, true, true, true, true, false, false] rfl ?_
    exact xX11_isWrong_22 hK 4000 _ _ _ _ _ _ _ hf
