set_option maxRecDepth 100000 in
theorem dX5_performOther_0 : decode prog_7_method_14_code 0 = .ok (.aload_n 1, 1) := by decide +kernel
set_option maxRecDepth 100000 in
theorem dX5_performOther_1 : decode prog_7_method_14_code 1 = .ok (.getfield 168, 3) := by decide +kernel
set_option maxRecDepth 100000 in
theorem dX5_performOther_4 : decode prog_7_method_14_code 4 = .ok (.astore_n 3, 1) := by decide +kernel
set_option maxRecDepth 100000 in
theorem dX5_performOther_5 : decode prog_7_method_14_code 5 = .ok (.aload_n 1, 1) := by decide +kernel
set_option maxRecDepth 100000 in
theorem dX5_performOther_6 : decode prog_7_method_14_code 6 = .ok (.getfield 172, 3) := by decide +kernel
set_option maxRecDepth 100000 in
theorem dX5_performOther_9 : decode prog_7_method_14_code 9 = .ok (.tableswitch 147 0 11 #[63, 70, 77, 84, 91, 98, 105, 112, 119, 126, 133, 140], 63) := by decide +kernel
set_option maxRecDepth 100000 in
theorem dX5_performOther_72 : decode prog_7_method_14_code 72 = .ok (.aload_n 0, 1) := by decide +kernel
set_option maxRecDepth 100000 in
theorem dX5_performOther_73 : decode prog_7_method_14_code 73 = .ok (.aload_n 1, 1) := by decide +kernel
set_option maxRecDepth 100000 in
theorem dX5_performOther_74 : decode prog_7_method_14_code 74 = .ok (.iload_n 2, 1) := by decide +kernel
set_option maxRecDepth 100000 in
theorem dX5_performOther_75 : decode prog_7_method_14_code 75 = .ok (.invokevirtual 173, 3) := by decide +kernel
set_option maxRecDepth 100000 in
theorem dX5_performOther_78 : decode prog_7_method_14_code 78 = .ok (.ireturn, 1) := by decide +kernel
set_option maxRecDepth 100000 in
theorem dX5_performOther_79 : decode prog_7_method_14_code 79 = .ok (.aload_n 0, 1) := by decide +kernel
set_option maxRecDepth 100000 in
theorem dX5_performOther_80 : decode prog_7_method_14_code 80 = .ok (.aload_n 3, 1) := by decide +kernel
set_option maxRecDepth 100000 in
theorem dX5_performOther_81 : decode prog_7_method_14_code 81 = .ok (.iload_n 2, 1) := by decide +kernel
set_option maxRecDepth 100000 in
theorem dX5_performOther_82 : decode prog_7_method_14_code 82 = .ok (.invokevirtual 176, 3) := by decide +kernel
set_option maxRecDepth 100000 in
theorem dX5_performOther_85 : decode prog_7_method_14_code 85 = .ok (.ireturn, 1) := by decide +kernel
set_option maxRecDepth 100000 in
theorem dX5_performOther_86 : decode prog_7_method_14_code 86 = .ok (.aload_n 0, 1) := by decide +kernel
set_option maxRecDepth 100000 in
theorem dX5_performOther_87 : decode prog_7_method_14_code 87 = .ok (.aload_n 3, 1) := by decide +kernel
set_option maxRecDepth 100000 in
theorem dX5_performOther_88 : decode prog_7_method_14_code 88 = .ok (.iload_n 2, 1) := by decide +kernel
set_option maxRecDepth 100000 in
theorem dX5_performOther_89 : decode prog_7_method_14_code 89 = .ok (.invokevirtual 180, 3) := by decide +kernel
set_option maxRecDepth 100000 in
theorem dX5_performOther_92 : decode prog_7_method_14_code 92 = .ok (.ireturn, 1) := by decide +kernel
set_option maxRecDepth 100000 in
theorem dX5_performOther_93 : decode prog_7_method_14_code 93 = .ok (.aload_n 0, 1) := by decide +kernel
set_option maxRecDepth 100000 in
theorem dX5_performOther_94 : decode prog_7_method_14_code 94 = .ok (.aload_n 3, 1) := by decide +kernel
set_option maxRecDepth 100000 in
theorem dX5_performOther_95 : decode prog_7_method_14_code 95 = .ok (.iload_n 2, 1) := by decide +kernel
set_option maxRecDepth 100000 in
theorem dX5_performOther_96 : decode prog_7_method_14_code 96 = .ok (.invokevirtual 183, 3) := by decide +kernel
set_option maxRecDepth 100000 in
theorem dX5_performOther_99 : decode prog_7_method_14_code 99 = .ok (.ireturn, 1) := by decide +kernel
set_option maxRecDepth 100000 in
theorem dX5_performOther_100 : decode prog_7_method_14_code 100 = .ok (.aload_n 0, 1) := by decide +kernel
set_option maxRecDepth 100000 in
theorem dX5_performOther_101 : decode prog_7_method_14_code 101 = .ok (.aload_n 3, 1) := by decide +kernel
set_option maxRecDepth 100000 in
theorem dX5_performOther_102 : decode prog_7_method_14_code 102 = .ok (.iload_n 2, 1) := by decide +kernel
set_option maxRecDepth 100000 in
theorem dX5_performOther_103 : decode prog_7_method_14_code 103 = .ok (.invokevirtual 186, 3) := by decide +kernel
set_option maxRecDepth 100000 in
theorem dX5_performOther_106 : decode prog_7_method_14_code 106 = .ok (.ireturn, 1) := by decide +kernel
set_option maxRecDepth 100000 in
theorem dX5_performOther_107 : decode prog_7_method_14_code 107 = .ok (.aload_n 0, 1) := by decide +kernel
set_option maxRecDepth 100000 in
theorem dX5_performOther_108 : decode prog_7_method_14_code 108 = .ok (.aload_n 3, 1) := by decide +kernel
set_option maxRecDepth 100000 in
theorem dX5_performOther_109 : decode prog_7_method_14_code 109 = .ok (.iload_n 2, 1) := by decide +kernel
set_option maxRecDepth 100000 in
theorem dX5_performOther_110 : decode prog_7_method_14_code 110 = .ok (.invokevirtual 189, 3) := by decide +kernel
set_option maxRecDepth 100000 in
theorem dX5_performOther_113 : decode prog_7_method_14_code 113 = .ok (.ireturn, 1) := by decide +kernel
set_option maxRecDepth 100000 in
theorem dX5_performOther_114 : decode prog_7_method_14_code 114 = .ok (.aload_n 0, 1) := by decide +kernel
set_option maxRecDepth 100000 in
theorem dX5_performOther_115 : decode prog_7_method_14_code 115 = .ok (.aload_n 3, 1) := by decide +kernel
set_option maxRecDepth 100000 in
theorem dX5_performOther_116 : decode prog_7_method_14_code 116 = .ok (.iload_n 2, 1) := by decide +kernel
set_option maxRecDepth 100000 in
theorem dX5_performOther_117 : decode prog_7_method_14_code 117 = .ok (.invokevirtual 192, 3) := by decide +kernel
set_option maxRecDepth 100000 in
theorem dX5_performOther_120 : decode prog_7_method_14_code 120 = .ok (.ireturn, 1) := by decide +kernel
set_option maxRecDepth 100000 in
theorem dX5_performOther_121 : decode prog_7_method_14_code 121 = .ok (.aload_n 0, 1) := by decide +kernel
set_option maxRecDepth 100000 in
theorem dX5_performOther_122 : decode prog_7_method_14_code 122 = .ok (.aload_n 3, 1) := by decide +kernel
set_option maxRecDepth 100000 in
theorem dX5_performOther_123 : decode prog_7_method_14_code 123 = .ok (.iload_n 2, 1) := by decide +kernel
set_option maxRecDepth 100000 in
theorem dX5_performOther_124 : decode prog_7_method_14_code 124 = .ok (.invokevirtual 195, 3) := by decide +kernel
set_option maxRecDepth 100000 in
theorem dX5_performOther_127 : decode prog_7_method_14_code 127 = .ok (.ireturn, 1) := by decide +kernel
set_option maxRecDepth 100000 in
theorem dX5_performOther_128 : decode prog_7_method_14_code 128 = .ok (.aload_n 0, 1) := by decide +kernel
set_option maxRecDepth 100000 in
theorem dX5_performOther_129 : decode prog_7_method_14_code 129 = .ok (.aload_n 3, 1) := by decide +kernel
set_option maxRecDepth 100000 in
theorem dX5_performOther_130 : decode prog_7_method_14_code 130 = .ok (.iload_n 2, 1) := by decide +kernel
set_option maxRecDepth 100000 in
theorem dX5_performOther_131 : decode prog_7_method_14_code 131 = .ok (.invokevirtual 198, 3) := by decide +kernel
set_option maxRecDepth 100000 in
theorem dX5_performOther_134 : decode prog_7_method_14_code 134 = .ok (.ireturn, 1) := by decide +kernel
set_option maxRecDepth 100000 in
theorem dX5_performOther_135 : decode prog_7_method_14_code 135 = .ok (.aload_n 0, 1) := by decide +kernel
set_option maxRecDepth 100000 in
theorem dX5_performOther_136 : decode prog_7_method_14_code 136 = .ok (.aload_n 3, 1) := by decide +kernel
set_option maxRecDepth 100000 in
theorem dX5_performOther_137 : decode prog_7_method_14_code 137 = .ok (.iload_n 2, 1) := by decide +kernel
set_option maxRecDepth 100000 in
theorem dX5_performOther_138 : decode prog_7_method_14_code 138 = .ok (.invokevirtual 201, 3) := by decide +kernel
set_option maxRecDepth 100000 in
theorem dX5_performOther_141 : decode prog_7_method_14_code 141 = .ok (.ireturn, 1) := by decide +kernel
set_option maxRecDepth 100000 in
theorem dX5_performOther_142 : decode prog_7_method_14_code 142 = .ok (.aload_n 0, 1) := by decide +kernel
set_option maxRecDepth 100000 in
theorem dX5_performOther_143 : decode prog_7_method_14_code 143 = .ok (.aload_n 3, 1) := by decide +kernel
set_option maxRecDepth 100000 in
theorem dX5_performOther_144 : decode prog_7_method_14_code 144 = .ok (.iload_n 2, 1) := by decide +kernel
set_option maxRecDepth 100000 in
theorem dX5_performOther_145 : decode prog_7_method_14_code 145 = .ok (.invokevirtual 204, 3) := by decide +kernel
set_option maxRecDepth 100000 in
theorem dX5_performOther_148 : decode prog_7_method_14_code 148 = .ok (.ireturn, 1) := by decide +kernel
set_option maxRecDepth 100000 in
theorem dX5_performOther_149 : decode prog_7_method_14_code 149 = .ok (.aload_n 0, 1) := by decide +kernel
set_option maxRecDepth 100000 in
theorem dX5_performOther_150 : decode prog_7_method_14_code 150 = .ok (.aload_n 3, 1) := by decide +kernel
set_option maxRecDepth 100000 in
theorem dX5_performOther_151 : decode prog_7_method_14_code 151 = .ok (.iload_n 2, 1) := by decide +kernel
set_option maxRecDepth 100000 in
theorem dX5_performOther_152 : decode prog_7_method_14_code 152 = .ok (.invokevirtual 207, 3) := by decide +kernel
set_option maxRecDepth 100000 in
theorem dX5_performOther_155 : decode prog_7_method_14_code 155 = .ok (.ireturn, 1) := by decide +kernel
set_option maxRecDepth 100000 in
theorem dX5_performOther_156 : decode prog_7_method_14_code 156 = .ok (.aload_n 0, 1) := by decide +kernel
set_option maxRecDepth 100000 in
theorem dX5_performOther_157 : decode prog_7_method_14_code 157 = .ok (.aload_n 1, 1) := by decide +kernel
set_option maxRecDepth 100000 in
theorem dX5_performOther_158 : decode prog_7_method_14_code 158 = .ok (.iload_n 2, 1) := by decide +kernel
set_option maxRecDepth 100000 in
theorem dX5_performOther_159 : decode prog_7_method_14_code 159 = .ok (.invokevirtual 210, 3) := by decide +kernel
set_option maxRecDepth 100000 in
theorem dX5_performOther_162 : decode prog_7_method_14_code 162 = .ok (.ireturn, 1) := by decide +kernel
set_option maxRecDepth 100000 in
theorem fl5_172 : ∀ c ∈ ([1] : List Nat), FL "HandleModels$Runner" 172 c 0 := fun c hc => by
  cases List.mem_singleton.mp hc
  exact ⟨_, "HandleModels$Other", rfl, by decide, (gd_of 238 rfl rfl), Or.inr (gd_of 239 rfl rfl)⟩
set_option maxRecDepth 100000 in
theorem okX5_performBound : mOk miX5_performBound 2 := ⟨(gd_of 530 rfl rfl), (gd_of 75 rfl rfl), by decide +kernel, ⟨by decide +kernel, by decide +kernel, by decide +kernel⟩, by decide⟩
set_option maxRecDepth 100000 in
theorem okX5_performLeft : mOk miX5_performLeft 2 := ⟨(gd_of 546 rfl rfl), (gd_of 75 rfl rfl), by decide +kernel, ⟨by decide +kernel, by decide +kernel, by decide +kernel⟩, by decide⟩
set_option maxRecDepth 100000 in
theorem okX5_performMoved : mOk miX5_performMoved 2 := ⟨(gd_of 550 rfl rfl), (gd_of 75 rfl rfl), by decide +kernel, ⟨by decide +kernel, by decide +kernel, by decide +kernel⟩, by decide⟩
set_option maxRecDepth 100000 in
theorem okX5_performFolded : mOk miX5_performFolded 2 := ⟨(gd_of 555 rfl rfl), (gd_of 75 rfl rfl), by decide +kernel, ⟨by decide +kernel, by decide +kernel, by decide +kernel⟩, by decide⟩
set_option maxRecDepth 100000 in
theorem okX5_performSifted : mOk miX5_performSifted 2 := ⟨(gd_of 563 rfl rfl), (gd_of 75 rfl rfl), by decide +kernel, ⟨by decide +kernel, by decide +kernel, by decide +kernel⟩, by decide⟩
set_option maxRecDepth 100000 in
theorem okX5_performThen : mOk miX5_performThen 2 := ⟨(gd_of 567 rfl rfl), (gd_of 75 rfl rfl), by decide +kernel, ⟨by decide +kernel, by decide +kernel, by decide +kernel⟩, by decide⟩
set_option maxRecDepth 100000 in
theorem okX5_performChosen : mOk miX5_performChosen 2 := ⟨(gd_of 571 rfl rfl), (gd_of 75 rfl rfl), by decide +kernel, ⟨by decide +kernel, by decide +kernel, by decide +kernel⟩, by decide⟩
set_option maxRecDepth 100000 in
theorem okX5_performCaught : mOk miX5_performCaught 2 := ⟨(gd_of 575 rfl rfl), (gd_of 75 rfl rfl), by decide +kernel, ⟨by decide +kernel, by decide +kernel, by decide +kernel⟩, by decide⟩
set_option maxRecDepth 100000 in
theorem okX5_performEnded : mOk miX5_performEnded 2 := ⟨(gd_of 586 rfl rfl), (gd_of 75 rfl rfl), by decide +kernel, ⟨by decide +kernel, by decide +kernel, by decide +kernel⟩, by decide⟩
set_option maxRecDepth 100000 in
theorem okX5_performRound : mOk miX5_performRound 2 := ⟨(gd_of 594 rfl rfl), (gd_of 75 rfl rfl), by decide +kernel, ⟨by decide +kernel, by decide +kernel, by decide +kernel⟩, by decide⟩
set_option maxRecDepth 100000 in
theorem okX5_performSpread : mOk miX5_performSpread 2 := ⟨(gd_of 601 rfl rfl), (gd_of 75 rfl rfl), by decide +kernel, ⟨by decide +kernel, by decide +kernel, by decide +kernel⟩, by decide⟩
set_option maxRecDepth 100000 in
theorem okX5_performGathered : mOk miX5_performGathered 2 := ⟨(gd_of 614 rfl rfl), (gd_of 75 rfl rfl), by decide +kernel, ⟨by decide +kernel, by decide +kernel, by decide +kernel⟩, by decide⟩
set_option maxRecDepth 100000 in
theorem okX5_performAdapted : mOk miX5_performAdapted 2 := ⟨(gd_of 620 rfl rfl), (gd_of 75 rfl rfl), by decide +kernel, ⟨by decide +kernel, by decide +kernel, by decide +kernel⟩, by decide⟩
def fX5_performOther (z : Nat → Nat) (P : Nat → Option Nat → Int32 → aH → Option (Int32 × aH)) (a0 : Nat) (r1 : Option Nat) (x2 : Int32) (h : aH) : Option (Int32 × aH) :=
  (r1).bind fun a101 =>
  (rdR h a101 [1] 3).bind fun r102 =>
  (rdI h a101 [1] 0).bind fun x103 =>
  (if x103 = 0 then
  (obO h a0 4).bind fun fs105 =>
  (fX5_performBound z P a0 (some a101) x2 h).bind fun q104 =>
  some (q104.1, q104.2)
  else
  (if x103 = 1 then
  (obO h a0 4).bind fun fs107 =>
  (fX5_performLeft z P a0 r102 x2 h).bind fun q106 =>
  some (q106.1, q106.2)
  else
  (if x103 = 2 then
  (obO h a0 4).bind fun fs109 =>
  (fX5_performMoved z P a0 r102 x2 h).bind fun q108 =>
  some (q108.1, q108.2)
  else
  (if x103 = 3 then
  (obO h a0 4).bind fun fs111 =>
  (fX5_performFolded z P a0 r102 x2 h).bind fun q110 =>
  some (q110.1, q110.2)
  else
  (if x103 = 4 then
  (obO h a0 4).bind fun fs113 =>
  (fX5_performSifted z P a0 r102 x2 h).bind fun q112 =>
  some (q112.1, q112.2)
  else
  (if x103 = 5 then
  (obO h a0 4).bind fun fs115 =>
  (fX5_performThen z P a0 r102 x2 h).bind fun q114 =>
  some (q114.1, q114.2)
  else
  (if x103 = 6 then
  (obO h a0 4).bind fun fs117 =>
  (fX5_performChosen z P a0 r102 x2 h).bind fun q116 =>
  some (q116.1, q116.2)
  else
  (if x103 = 7 then
  (obO h a0 4).bind fun fs119 =>
  (fX5_performCaught z P a0 r102 x2 h).bind fun q118 =>
  some (q118.1, q118.2)
  else
  (if x103 = 8 then
  (obO h a0 4).bind fun fs121 =>
  (fX5_performEnded z P a0 r102 x2 h).bind fun q120 =>
  some (q120.1, q120.2)
  else
  (if x103 = 9 then
  (obO h a0 4).bind fun fs123 =>
  (fX5_performRound z P a0 r102 x2 h).bind fun q122 =>
  some (q122.1, q122.2)
  else
  (if x103 = 10 then
  (obO h a0 4).bind fun fs125 =>
  (fX5_performSpread z P a0 r102 x2 h).bind fun q124 =>
  some (q124.1, q124.2)
  else
  (if x103 = 11 then
  (obO h a0 4).bind fun fs127 =>
  (fX5_performGathered z P a0 r102 x2 h).bind fun q126 =>
  some (q126.1, q126.2)
  else
  (obO h a0 4).bind fun fs129 =>
  (fX5_performAdapted z P a0 (some a101) x2 h).bind fun q128 =>
  some (q128.1, q128.2)))))))))))))
set_option maxHeartbeats 4000000 in
set_option maxRecDepth 100000 in
theorem xX5_performOther {l : Launch} {g : aG} {d : Nat} {P : Nat → Option Nat → Int32 → aH → Option (Int32 × aH)} {dP : Nat} (hP : ∀ (d9 : Nat), dP ≤ d9 → ∀ (a0 : Nat) (r1 : Option Nat) (x2 : Int32) (h : aH) (q : Int32 × aH), P a0 r1 x2 h = some q → Ev l g miX5_perform d9 [.inr (.inr (some a0)), .inr (.inr r1), .inl x2] h (some (.inl q.1), q.2)) (hK : dP + 4 ≤ d) {a0 : Nat} {r1 : Option Nat} {x2 : Int32} {h : aH} {q : Int32 × aH} (hf : fX5_performOther g.2.2 P a0 r1 x2 h = some q) : Ev l g miX5_performOther d [.inr (.inr (some a0)), .inr (.inr r1), .inl x2] h (some (.inl q.1), q.2) := by
  obtain ⟨d, rfl⟩ : ∃ e, d = e + 1 := ⟨d - 1, by omega⟩
  refine ⟨?_, Or.inl rfl, Nat.le_of_ble_eq_true rfl⟩
  unfold fX5_performOther at hf
  show Y l g miX5_performOther (d + 1) 0 [some (.inr (.inr (some a0))), some (.inr (.inr r1)), some (.inl x2), none] [] h _
  refine y_aload_n (i := 1) dX5_performOther_0 rfl rfl ?_
  replace hf := bnd hf
  obtain ⟨a101, rfl, hf⟩ := hf
  replace hf := bnd hf
  obtain ⟨r102, er102, hf⟩ := hf
  refine y_getR er102 fl5_168 dX5_performOther_1 ?_
  refine y_astore_n (i := 3) (lv2 := [some (.inr (.inr (some a0))), some (.inr (.inr (some a101))), some (.inl x2), some (.inr (.inr r102))]) dX5_performOther_4 rfl (by decide) rfl ?_
  refine y_aload_n (i := 1) dX5_performOther_5 rfl rfl ?_
  replace hf := bnd hf
  obtain ⟨x103, ex103, hf⟩ := hf
  refine y_getI ex103 fl5_172 dX5_performOther_6 ?_
  refine y_table dX5_performOther_9 [(0, 72), (1, 79), (2, 86), (3, 93), (4, 100), (5, 107), (6, 114), (7, 121), (8, 128), (9, 135), (10, 142), (11, 149)] 156 (by decide) (by decide) (by decide) (by decide) ?_
  refine y_swc (fun hc => ?_) (fun hc => ?_)
  · rw [if_pos hc] at hf
    refine y_aload_n (i := 0) dX5_performOther_72 rfl rfl ?_
    refine y_aload_n (i := 1) dX5_performOther_73 rfl rfl ?_
    refine y_iload_n (i := 2) dX5_performOther_74 rfl rfl ?_
    replace hf := bnd hf
    obtain ⟨fs105, efs105, hf⟩ := hf
    replace hf := bnd hf
    obtain ⟨q104, eq104, hf⟩ := hf
    refine y_callV (mj := miX5_performBound) (args := [.inr (.inr (some a101)), .inl x2]) (st := []) dX5_performOther_75 (gd_of 527 rfl rfl) (gd_of 529 rfl rfl) (gd_of 8 rfl rfl) okX5_performBound (obO_spec efs105) rfl rfl (xX5_performBound (dP := dP) hP (by omega) eq104) (Nat.le_of_ble_eq_true rfl) rfl ?_
    show Y l g miX5_performOther (d + 1) 78 [some (.inr (.inr (some a0))), some (.inr (.inr (some a101))), some (.inl x2), some (.inr (.inr r102))] [.inl q104.1] q104.2 _
    obtain rfl := Option.some.inj hf
    exact y_ret (v := some (.inl q104.1)) dX5_performOther_78 rfl
  rw [if_neg hc] at hf
  refine y_swc (fun hc => ?_) (fun hc => ?_)
  · rw [if_pos hc] at hf
    refine y_aload_n (i := 0) dX5_performOther_79 rfl rfl ?_
    refine y_aload_n (i := 3) dX5_performOther_80 rfl rfl ?_
    refine y_iload_n (i := 2) dX5_performOther_81 rfl rfl ?_
    replace hf := bnd hf
    obtain ⟨fs107, efs107, hf⟩ := hf
    replace hf := bnd hf
    obtain ⟨q106, eq106, hf⟩ := hf
    refine y_callV (mj := miX5_performLeft) (args := [.inr (.inr r102), .inl x2]) (st := []) dX5_performOther_82 (gd_of 543 rfl rfl) (gd_of 545 rfl rfl) (gd_of 10 rfl rfl) okX5_performLeft (obO_spec efs107) rfl rfl (xX5_performLeft (dP := dP) hP (by omega) eq106) (Nat.le_of_ble_eq_true rfl) rfl ?_
    show Y l g miX5_performOther (d + 1) 85 [some (.inr (.inr (some a0))), some (.inr (.inr (some a101))), some (.inl x2), some (.inr (.inr r102))] [.inl q106.1] q106.2 _
    obtain rfl := Option.some.inj hf
    exact y_ret (v := some (.inl q106.1)) dX5_performOther_85 rfl
  rw [if_neg hc] at hf
  refine y_swc (fun hc => ?_) (fun hc => ?_)
  · rw [if_pos hc] at hf
    refine y_aload_n (i := 0) dX5_performOther_86 rfl rfl ?_
    refine y_aload_n (i := 3) dX5_performOther_87 rfl rfl ?_
    refine y_iload_n (i := 2) dX5_performOther_88 rfl rfl ?_
    replace hf := bnd hf
    obtain ⟨fs109, efs109, hf⟩ := hf
    replace hf := bnd hf
    obtain ⟨q108, eq108, hf⟩ := hf
    refine y_callV (mj := miX5_performMoved) (args := [.inr (.inr r102), .inl x2]) (st := []) dX5_performOther_89 (gd_of 547 rfl rfl) (gd_of 549 rfl rfl) (gd_of 11 rfl rfl) okX5_performMoved (obO_spec efs109) rfl rfl (xX5_performMoved (dP := dP) hP (by omega) eq108) (Nat.le_of_ble_eq_true rfl) rfl ?_
    show Y l g miX5_performOther (d + 1) 92 [some (.inr (.inr (some a0))), some (.inr (.inr (some a101))), some (.inl x2), some (.inr (.inr r102))] [.inl q108.1] q108.2 _
    obtain rfl := Option.some.inj hf
    exact y_ret (v := some (.inl q108.1)) dX5_performOther_92 rfl
  rw [if_neg hc] at hf
  refine y_swc (fun hc => ?_) (fun hc => ?_)
  · rw [if_pos hc] at hf
    refine y_aload_n (i := 0) dX5_performOther_93 rfl rfl ?_
    refine y_aload_n (i := 3) dX5_performOther_94 rfl rfl ?_
    refine y_iload_n (i := 2) dX5_performOther_95 rfl rfl ?_
    replace hf := bnd hf
    obtain ⟨fs111, efs111, hf⟩ := hf
    replace hf := bnd hf
    obtain ⟨q110, eq110, hf⟩ := hf
    refine y_callV (mj := miX5_performFolded) (args := [.inr (.inr r102), .inl x2]) (st := []) dX5_performOther_96 (gd_of 552 rfl rfl) (gd_of 554 rfl rfl) (gd_of 12 rfl rfl) okX5_performFolded (obO_spec efs111) rfl rfl (xX5_performFolded (dP := dP) hP (by omega) eq110) (Nat.le_of_ble_eq_true rfl) rfl ?_
    show Y l g miX5_performOther (d + 1) 99 [some (.inr (.inr (some a0))), some (.inr (.inr (some a101))), some (.inl x2), some (.inr (.inr r102))] [.inl q110.1] q110.2 _
    obtain rfl := Option.some.inj hf
    exact y_ret (v := some (.inl q110.1)) dX5_performOther_99 rfl
  rw [if_neg hc] at hf
  refine y_swc (fun hc => ?_) (fun hc => ?_)
  · rw [if_pos hc] at hf
    refine y_aload_n (i := 0) dX5_performOther_100 rfl rfl ?_
    refine y_aload_n (i := 3) dX5_performOther_101 rfl rfl ?_
    refine y_iload_n (i := 2) dX5_performOther_102 rfl rfl ?_
    replace hf := bnd hf
    obtain ⟨fs113, efs113, hf⟩ := hf
    replace hf := bnd hf
    obtain ⟨q112, eq112, hf⟩ := hf
    refine y_callV (mj := miX5_performSifted) (args := [.inr (.inr r102), .inl x2]) (st := []) dX5_performOther_103 (gd_of 560 rfl rfl) (gd_of 562 rfl rfl) (gd_of 14 rfl rfl) okX5_performSifted (obO_spec efs113) rfl rfl (xX5_performSifted (dP := dP) hP (by omega) eq112) (Nat.le_of_ble_eq_true rfl) rfl ?_
    show Y l g miX5_performOther (d + 1) 106 [some (.inr (.inr (some a0))), some (.inr (.inr (some a101))), some (.inl x2), some (.inr (.inr r102))] [.inl q112.1] q112.2 _
    obtain rfl := Option.some.inj hf
    exact y_ret (v := some (.inl q112.1)) dX5_performOther_106 rfl
  rw [if_neg hc] at hf
  refine y_swc (fun hc => ?_) (fun hc => ?_)
  · rw [if_pos hc] at hf
    refine y_aload_n (i := 0) dX5_performOther_107 rfl rfl ?_
    refine y_aload_n (i := 3) dX5_performOther_108 rfl rfl ?_
    refine y_iload_n (i := 2) dX5_performOther_109 rfl rfl ?_
    replace hf := bnd hf
    obtain ⟨fs115, efs115, hf⟩ := hf
    replace hf := bnd hf
    obtain ⟨q114, eq114, hf⟩ := hf
    refine y_callV (mj := miX5_performThen) (args := [.inr (.inr r102), .inl x2]) (st := []) dX5_performOther_110 (gd_of 564 rfl rfl) (gd_of 566 rfl rfl) (gd_of 15 rfl rfl) okX5_performThen (obO_spec efs115) rfl rfl (xX5_performThen (dP := dP) hP (by omega) eq114) (Nat.le_of_ble_eq_true rfl) rfl ?_
    show Y l g miX5_performOther (d + 1) 113 [some (.inr (.inr (some a0))), some (.inr (.inr (some a101))), some (.inl x2), some (.inr (.inr r102))] [.inl q114.1] q114.2 _
    obtain rfl := Option.some.inj hf
    exact y_ret (v := some (.inl q114.1)) dX5_performOther_113 rfl
  rw [if_neg hc] at hf
  refine y_swc (fun hc => ?_) (fun hc => ?_)
  · rw [if_pos hc] at hf
    refine y_aload_n (i := 0) dX5_performOther_114 rfl rfl ?_
    refine y_aload_n (i := 3) dX5_performOther_115 rfl rfl ?_
    refine y_iload_n (i := 2) dX5_performOther_116 rfl rfl ?_
    replace hf := bnd hf
    obtain ⟨fs117, efs117, hf⟩ := hf
    replace hf := bnd hf
    obtain ⟨q116, eq116, hf⟩ := hf
    refine y_callV (mj := miX5_performChosen) (args := [.inr (.inr r102), .inl x2]) (st := []) dX5_performOther_117 (gd_of 568 rfl rfl) (gd_of 570 rfl rfl) (gd_of 16 rfl rfl) okX5_performChosen (obO_spec efs117) rfl rfl (xX5_performChosen (dP := dP) hP (by omega) eq116) (Nat.le_of_ble_eq_true rfl) rfl ?_
    show Y l g miX5_performOther (d + 1) 120 [some (.inr (.inr (some a0))), some (.inr (.inr (some a101))), some (.inl x2), some (.inr (.inr r102))] [.inl q116.1] q116.2 _
    obtain rfl := Option.some.inj hf
    exact y_ret (v := some (.inl q116.1)) dX5_performOther_120 rfl
  rw [if_neg hc] at hf
  refine y_swc (fun hc => ?_) (fun hc => ?_)
  · rw [if_pos hc] at hf
    refine y_aload_n (i := 0) dX5_performOther_121 rfl rfl ?_
    refine y_aload_n (i := 3) dX5_performOther_122 rfl rfl ?_
    refine y_iload_n (i := 2) dX5_performOther_123 rfl rfl ?_
    replace hf := bnd hf
    obtain ⟨fs119, efs119, hf⟩ := hf
    replace hf := bnd hf
    obtain ⟨q118, eq118, hf⟩ := hf
    refine y_callV (mj := miX5_performCaught) (args := [.inr (.inr r102), .inl x2]) (st := []) dX5_performOther_124 (gd_of 572 rfl rfl) (gd_of 574 rfl rfl) (gd_of 17 rfl rfl) okX5_performCaught (obO_spec efs119) rfl rfl (xX5_performCaught (dP := dP) hP (by omega) eq118) (Nat.le_of_ble_eq_true rfl) rfl ?_
    show Y l g miX5_performOther (d + 1) 127 [some (.inr (.inr (some a0))), some (.inr (.inr (some a101))), some (.inl x2), some (.inr (.inr r102))] [.inl q118.1] q118.2 _
    obtain rfl := Option.some.inj hf
    exact y_ret (v := some (.inl q118.1)) dX5_performOther_127 rfl
  rw [if_neg hc] at hf
  refine y_swc (fun hc => ?_) (fun hc => ?_)
  · rw [if_pos hc] at hf
    refine y_aload_n (i := 0) dX5_performOther_128 rfl rfl ?_
    refine y_aload_n (i := 3) dX5_performOther_129 rfl rfl ?_
    refine y_iload_n (i := 2) dX5_performOther_130 rfl rfl ?_
    replace hf := bnd hf
    obtain ⟨fs121, efs121, hf⟩ := hf
    replace hf := bnd hf
    obtain ⟨q120, eq120, hf⟩ := hf
    refine y_callV (mj := miX5_performEnded) (args := [.inr (.inr r102), .inl x2]) (st := []) dX5_performOther_131 (gd_of 583 rfl rfl) (gd_of 585 rfl rfl) (gd_of 19 rfl rfl) okX5_performEnded (obO_spec efs121) rfl rfl (xX5_performEnded (dP := dP) hP (by omega) eq120) (Nat.le_of_ble_eq_true rfl) rfl ?_
    show Y l g miX5_performOther (d + 1) 134 [some (.inr (.inr (some a0))), some (.inr (.inr (some a101))), some (.inl x2), some (.inr (.inr r102))] [.inl q120.1] q120.2 _
    obtain rfl := Option.some.inj hf
    exact y_ret (v := some (.inl q120.1)) dX5_performOther_134 rfl
  rw [if_neg hc] at hf
  refine y_swc (fun hc => ?_) (fun hc => ?_)
  · rw [if_pos hc] at hf
    refine y_aload_n (i := 0) dX5_performOther_135 rfl rfl ?_
    refine y_aload_n (i := 3) dX5_performOther_136 rfl rfl ?_
    refine y_iload_n (i := 2) dX5_performOther_137 rfl rfl ?_
    replace hf := bnd hf
    obtain ⟨fs123, efs123, hf⟩ := hf
    replace hf := bnd hf
    obtain ⟨q122, eq122, hf⟩ := hf
    refine y_callV (mj := miX5_performRound) (args := [.inr (.inr r102), .inl x2]) (st := []) dX5_performOther_138 (gd_of 591 rfl rfl) (gd_of 593 rfl rfl) (gd_of 21 rfl rfl) okX5_performRound (obO_spec efs123) rfl rfl (xX5_performRound (dP := dP) hP (by omega) eq122) (Nat.le_of_ble_eq_true rfl) rfl ?_
    show Y l g miX5_performOther (d + 1) 141 [some (.inr (.inr (some a0))), some (.inr (.inr (some a101))), some (.inl x2), some (.inr (.inr r102))] [.inl q122.1] q122.2 _
    obtain rfl := Option.some.inj hf
    exact y_ret (v := some (.inl q122.1)) dX5_performOther_141 rfl
  rw [if_neg hc] at hf
  refine y_swc (fun hc => ?_) (fun hc => ?_)
  · rw [if_pos hc] at hf
    refine y_aload_n (i := 0) dX5_performOther_142 rfl rfl ?_
    refine y_aload_n (i := 3) dX5_performOther_143 rfl rfl ?_
    refine y_iload_n (i := 2) dX5_performOther_144 rfl rfl ?_
    replace hf := bnd hf
    obtain ⟨fs125, efs125, hf⟩ := hf
    replace hf := bnd hf
    obtain ⟨q124, eq124, hf⟩ := hf
    refine y_callV (mj := miX5_performSpread) (args := [.inr (.inr r102), .inl x2]) (st := []) dX5_performOther_145 (gd_of 598 rfl rfl) (gd_of 600 rfl rfl) (gd_of 22 rfl rfl) okX5_performSpread (obO_spec efs125) rfl rfl (xX5_performSpread (dP := dP) hP (by omega) eq124) (Nat.le_of_ble_eq_true rfl) rfl ?_
    show Y l g miX5_performOther (d + 1) 148 [some (.inr (.inr (some a0))), some (.inr (.inr (some a101))), some (.inl x2), some (.inr (.inr r102))] [.inl q124.1] q124.2 _
    obtain rfl := Option.some.inj hf
    exact y_ret (v := some (.inl q124.1)) dX5_performOther_148 rfl
  rw [if_neg hc] at hf
  refine y_swc (fun hc => ?_) (fun hc => ?_)
  · rw [if_pos hc] at hf
    refine y_aload_n (i := 0) dX5_performOther_149 rfl rfl ?_
    refine y_aload_n (i := 3) dX5_performOther_150 rfl rfl ?_
    refine y_iload_n (i := 2) dX5_performOther_151 rfl rfl ?_
    replace hf := bnd hf
    obtain ⟨fs127, efs127, hf⟩ := hf
    replace hf := bnd hf
    obtain ⟨q126, eq126, hf⟩ := hf
    refine y_callV (mj := miX5_performGathered) (args := [.inr (.inr r102), .inl x2]) (st := []) dX5_performOther_152 (gd_of 611 rfl rfl) (gd_of 613 rfl rfl) (gd_of 23 rfl rfl) okX5_performGathered (obO_spec efs127) rfl rfl (xX5_performGathered (dP := dP) hP (by omega) eq126) (Nat.le_of_ble_eq_true rfl) rfl ?_
    show Y l g miX5_performOther (d + 1) 155 [some (.inr (.inr (some a0))), some (.inr (.inr (some a101))), some (.inl x2), some (.inr (.inr r102))] [.inl q126.1] q126.2 _
    obtain rfl := Option.some.inj hf
    exact y_ret (v := some (.inl q126.1)) dX5_performOther_155 rfl
  rw [if_neg hc] at hf
  refine y_swn ?_
  refine y_aload_n (i := 0) dX5_performOther_156 rfl rfl ?_
  refine y_aload_n (i := 1) dX5_performOther_157 rfl rfl ?_
  refine y_iload_n (i := 2) dX5_performOther_158 rfl rfl ?_
  replace hf := bnd hf
  obtain ⟨fs129, efs129, hf⟩ := hf
  replace hf := bnd hf
  obtain ⟨q128, eq128, hf⟩ := hf
  refine y_callV (mj := miX5_performAdapted) (args := [.inr (.inr (some a101)), .inl x2]) (st := []) dX5_performOther_159 (gd_of 617 rfl rfl) (gd_of 619 rfl rfl) (gd_of 24 rfl rfl) okX5_performAdapted (obO_spec efs129) rfl rfl (xX5_performAdapted (dP := dP) hP (by omega) eq128) (Nat.le_of_ble_eq_true rfl) rfl ?_
  show Y l g miX5_performOther (d + 1) 162 [some (.inr (.inr (some a0))), some (.inr (.inr (some a101))), some (.inl x2), some (.inr (.inr r102))] [.inl q128.1] q128.2 _
  obtain rfl := Option.some.inj hf
  exact y_ret (v := some (.inl q128.1)) dX5_performOther_162 rfl
set_option maxRecDepth 100000 in
theorem dX5_perform_0 : decode prog_7_method_6_code 0 = .ok (.aload_n 0, 1) := by decide +kernel
set_option maxRecDepth 100000 in
theorem dX5_perform_1 : decode prog_7_method_6_code 1 = .ok (.dup, 1) := by decide +kernel
set_option maxRecDepth 100000 in
theorem dX5_perform_2 : decode prog_7_method_6_code 2 = .ok (.getfield 17, 3) := by decide +kernel
set_option maxRecDepth 100000 in
theorem dX5_perform_5 : decode prog_7_method_6_code 5 = .ok (.iconst 1, 1) := by decide +kernel
set_option maxRecDepth 100000 in
theorem dX5_perform_6 : decode prog_7_method_6_code 6 = .ok (.iadd, 1) := by decide +kernel
set_option maxRecDepth 100000 in
theorem dX5_perform_7 : decode prog_7_method_6_code 7 = .ok (.putfield 17, 3) := by decide +kernel
set_option maxRecDepth 100000 in
theorem dX5_perform_10 : decode prog_7_method_6_code 10 = .ok (.aload_n 0, 1) := by decide +kernel
set_option maxRecDepth 100000 in
theorem dX5_perform_11 : decode prog_7_method_6_code 11 = .ok (.getfield 17, 3) := by decide +kernel
set_option maxRecDepth 100000 in
theorem dX5_perform_14 : decode prog_7_method_6_code 14 = .ok (.bipush 80, 2) := by decide +kernel
set_option maxRecDepth 100000 in
theorem dX5_perform_16 : decode prog_7_method_6_code 16 = .ok (.if_icmp .gt 9, 3) := by decide +kernel
set_option maxRecDepth 100000 in
theorem dX5_perform_19 : decode prog_7_method_6_code 19 = .ok (.iload_n 2, 1) := by decide +kernel
set_option maxRecDepth 100000 in
theorem dX5_perform_20 : decode prog_7_method_6_code 20 = .ok (.bipush 60, 2) := by decide +kernel
set_option maxRecDepth 100000 in
theorem dX5_perform_22 : decode prog_7_method_6_code 22 = .ok (.if_icmp .le 6, 3) := by decide +kernel
set_option maxRecDepth 100000 in
theorem dX5_perform_25 : decode prog_7_method_6_code 25 = .ok (.bipush 9, 2) := by decide +kernel
set_option maxRecDepth 100000 in
theorem dX5_perform_27 : decode prog_7_method_6_code 27 = .ok (.ireturn, 1) := by decide +kernel
set_option maxRecDepth 100000 in
theorem dX5_perform_28 : decode prog_7_method_6_code 28 = .ok (.aload_n 1, 1) := by decide +kernel
set_option maxRecDepth 100000 in
theorem dX5_perform_29 : decode prog_7_method_6_code 29 = .ok (.instanceof 102, 3) := by decide +kernel
set_option maxRecDepth 100000 in
theorem dX5_perform_32 : decode prog_7_method_6_code 32 = .ok (.ifCond .eq 15, 3) := by decide +kernel
set_option maxRecDepth 100000 in
theorem dX5_perform_35 : decode prog_7_method_6_code 35 = .ok (.aload_n 1, 1) := by decide +kernel
set_option maxRecDepth 100000 in
theorem dX5_perform_36 : decode prog_7_method_6_code 36 = .ok (.checkcast 102, 3) := by decide +kernel
set_option maxRecDepth 100000 in
theorem dX5_perform_39 : decode prog_7_method_6_code 39 = .ok (.astore_n 3, 1) := by decide +kernel
set_option maxRecDepth 100000 in
theorem dX5_perform_40 : decode prog_7_method_6_code 40 = .ok (.aload_n 0, 1) := by decide +kernel
set_option maxRecDepth 100000 in
theorem dX5_perform_41 : decode prog_7_method_6_code 41 = .ok (.aload_n 3, 1) := by decide +kernel
set_option maxRecDepth 100000 in
theorem dX5_perform_42 : decode prog_7_method_6_code 42 = .ok (.iload_n 2, 1) := by decide +kernel
set_option maxRecDepth 100000 in
theorem dX5_perform_43 : decode prog_7_method_6_code 43 = .ok (.invokevirtual 104, 3) := by decide +kernel
set_option maxRecDepth 100000 in
theorem dX5_perform_46 : decode prog_7_method_6_code 46 = .ok (.ireturn, 1) := by decide +kernel
set_option maxRecDepth 100000 in
theorem dX5_perform_47 : decode prog_7_method_6_code 47 = .ok (.aload_n 0, 1) := by decide +kernel
set_option maxRecDepth 100000 in
theorem dX5_perform_48 : decode prog_7_method_6_code 48 = .ok (.aload_n 1, 1) := by decide +kernel
set_option maxRecDepth 100000 in
theorem dX5_perform_49 : decode prog_7_method_6_code 49 = .ok (.aload_n 0, 1) := by decide +kernel
set_option maxRecDepth 100000 in
theorem dX5_perform_50 : decode prog_7_method_6_code 50 = .ok (.getfield 11, 3) := by decide +kernel
set_option maxRecDepth 100000 in
theorem dX5_perform_53 : decode prog_7_method_6_code 53 = .ok (.iload_n 2, 1) := by decide +kernel
set_option maxRecDepth 100000 in
theorem dX5_perform_54 : decode prog_7_method_6_code 54 = .ok (.aaload, 1) := by decide +kernel
set_option maxRecDepth 100000 in
theorem dX5_perform_55 : decode prog_7_method_6_code 55 = .ok (.invokevirtual 108, 3) := by decide +kernel
set_option maxRecDepth 100000 in
theorem dX5_perform_58 : decode prog_7_method_6_code 58 = .ok (.ireturn, 1) := by decide +kernel
set_option maxRecDepth 100000 in
theorem pl5_17_m {mi : aM} {x : Int32} (ho : "HandleModels$Runner" = mi.1.cls) : ∀ c ∈ ([4] : List Nat), FL mi.1.cls 17 c 2 ∧ FT c 2 (.inl x) ∧ FW mi c 2 := fun c h9 => by
  have h8 := fl5_17 c h9
  rw [← ho]
  refine ⟨h8, ?_⟩
  simp only [List.mem_cons, List.not_mem_nil, or_false] at h9
  rcases h9 with rfl
  · exact ⟨ft_int rfl (by decide +kernel), ⟨_, rfl, Or.inl rfl⟩⟩
set_option maxRecDepth 100000 in
theorem okX5_performOther : mOk miX5_performOther 2 := ⟨(gd_of 526 rfl rfl), (gd_of 75 rfl rfl), by decide +kernel, ⟨by decide +kernel, by decide +kernel, by decide +kernel⟩, by decide⟩
set_option maxRecDepth 100000 in
theorem okX5_performPlain : mOk miX5_performPlain 2 := ⟨(gd_of 628 rfl rfl), (gd_of 75 rfl rfl), by decide +kernel, ⟨by decide +kernel, by decide +kernel, by decide +kernel⟩, by decide⟩
def fX5_perform (z : Nat → Nat) : Nat → Nat → Option Nat → Int32 → aH → Option (Int32 × aH)
  | 0, _, _, _, _ => none
  | n + 1, a0, r1, x2, h => (rdI h a0 [4] 2).bind fun x101 =>
  (wrF h a0 [4] 2 (.inl (x101 + 1))).bind fun h102 =>
  (rdI h102 a0 [4] 2).bind fun x103 =>
  (if 80 < x103 then
  some (9, h102)
  else
  (if x2 ≤ 60 then
  (r1).bind fun a104 =>
  (clO h102 a104).bind fun c105 =>
  (if c105 = 1 then
  (clO h102 a104).bind fun c106 =>
  if c106 = 1 then
  (obO h102 a0 4).bind fun fs109 =>
  (fX5_performOther z (fX5_perform z n) a0 (some a104) x2 h102).bind fun q108 =>
  some (q108.1, q108.2)
  else none
  else
  if c105 = 0 then
  (rdR h102 a0 [4] 1).bind fun r111 =>
  (r111).bind fun a112 =>
  (arR h102 a112 x2).bind fun r113 =>
  (obO h102 a0 4).bind fun fs115 =>
  (fX5_performPlain z a0 (some a104) r113 h102).bind fun q114 =>
  some (q114.1, q114.2)
  else
  none)
  else
  some (9, h102)))
set_option maxHeartbeats 4000000 in
set_option maxRecDepth 100000 in
theorem xX5_perform {l : Launch} {g : aG} : ∀ (n d : Nat), 5 * n ≤ d → ∀ (a0 : Nat) (r1 : Option Nat) (x2 : Int32) (h : aH) (q : Int32 × aH), fX5_perform g.2.2 n a0 r1 x2 h = some q → Ev l g miX5_perform d [.inr (.inr (some a0)), .inr (.inr r1), .inl x2] h (some (.inl q.1), q.2) := by
  intro n
  induction n with
  | zero => intro d hK a0 r1 x2 h q hf; simp [fX5_perform] at hf
  | succ n ih =>
    intro d hK a0 r1 x2 h q hf
    obtain ⟨d, rfl⟩ : ∃ e, d = e + 1 := ⟨d - 1, by omega⟩
    rw [fX5_perform] at hf
    refine ⟨?_, Or.inl rfl, Nat.le_of_ble_eq_true rfl⟩
    have hP := ih
    show Y l g miX5_perform (d + 1) 0 [some (.inr (.inr (some a0))), some (.inr (.inr r1)), some (.inl x2), none] [] h _
    refine y_aload_n (i := 0) dX5_perform_0 rfl rfl ?_
    refine y_dup dX5_perform_1 rfl ?_
    replace hf := bnd hf
    obtain ⟨x101, ex101, hf⟩ := hf
    refine y_getI ex101 fl5_17 dX5_perform_2 ?_
    refine y_iconst (v := 1) dX5_perform_5 (by decide) ?_
    refine y_iadd dX5_perform_6 ?_
    replace hf := bnd hf
    obtain ⟨h102, eh102, hf⟩ := hf
    refine y_put eh102 (pl5_17_m rfl) dX5_perform_7 ?_
    refine y_aload_n (i := 0) dX5_perform_10 rfl rfl ?_
    replace hf := bnd hf
    obtain ⟨x103, ex103, hf⟩ := hf
    refine y_getI ex103 fl5_17 dX5_perform_11 ?_
    refine y_bipush (v := 80) dX5_perform_14 (by decide) ?_
    refine y_icmp_gt (tgt := 25) dX5_perform_16 (by decide) (fun hc => ?_) (fun hc => ?_)
    · rw [if_pos hc] at hf
      refine y_bipush (v := 9) dX5_perform_25 (by decide) ?_
      obtain rfl := Option.some.inj hf
      exact y_ret (v := some (.inl 9)) dX5_perform_27 rfl
    · rw [if_neg hc] at hf
      refine y_iload_n (i := 2) dX5_perform_19 rfl rfl ?_
      refine y_bipush (v := 60) dX5_perform_20 (by decide) ?_
      refine y_icmp_le (tgt := 28) dX5_perform_22 (by decide) (fun hc => ?_) (fun hc => ?_)
      · rw [if_pos hc] at hf
        refine y_aload_n (i := 1) dX5_perform_28 rfl rfl ?_
        replace hf := bnd hf
        obtain ⟨a104, rfl, hf⟩ := hf
        replace hf := bnd hf
        obtain ⟨c105, ec105, hf⟩ := hf
        by_cases hc110 : c105 = 1
        · rw [if_pos hc110] at hf
          subst hc110
          refine y_instT (nm := "HandleModels$Other") ec105 rfl (by simp [nWs, vwCl, RX2]) (gd_of 522 rfl rfl) dX5_perform_29 ?_
          refine y_if_eq (tgt := 47) dX5_perform_32 (by decide) (fun hc => absurd hc (by decide)) (fun _ => ?_)
          refine y_aload_n (i := 1) dX5_perform_35 rfl rfl ?_
          replace hf := bnd hf
          obtain ⟨c106, ec106, hf⟩ := hf
          by_cases hc107 : c106 = 1
          rotate_left
          · rw [if_neg hc107] at hf; cases hf
          rw [if_pos hc107] at hf
          subst hc107
          refine y_cast (nm := "HandleModels$Other") ec106 rfl (by simp [nWs, vwCl, RX2]) (gd_of 522 rfl rfl) dX5_perform_36 ?_
          refine y_astore_n (i := 3) (lv2 := [some (.inr (.inr (some a0))), some (.inr (.inr (some a104))), some (.inl x2), some (.inr (.inr (some a104)))]) dX5_perform_39 rfl (by decide) rfl ?_
          refine y_aload_n (i := 0) dX5_perform_40 rfl rfl ?_
          refine y_aload_n (i := 3) dX5_perform_41 rfl rfl ?_
          refine y_iload_n (i := 2) dX5_perform_42 rfl rfl ?_
          replace hf := bnd hf
          obtain ⟨fs109, efs109, hf⟩ := hf
          replace hf := bnd hf
          obtain ⟨q108, eq108, hf⟩ := hf
          refine y_callV (mj := miX5_performOther) (args := [.inr (.inr (some a104)), .inl x2]) (st := []) dX5_perform_43 (gd_of 523 rfl rfl) (gd_of 525 rfl rfl) (gd_of 7 rfl rfl) okX5_performOther (obO_spec efs109) rfl rfl (xX5_performOther (dP := 5 * n) hP (by omega) eq108) (Nat.le_of_ble_eq_true rfl) rfl ?_
          show Y l g miX5_perform (d + 1) 46 [some (.inr (.inr (some a0))), some (.inr (.inr (some a104))), some (.inl x2), some (.inr (.inr (some a104)))] [.inl q108.1] q108.2 _
          obtain rfl := Option.some.inj hf
          exact y_ret (v := some (.inl q108.1)) dX5_perform_46 rfl
        rw [if_neg hc110] at hf
        by_cases hc116 : c105 = 0
        · rw [if_pos hc116] at hf
          subst hc116
          refine y_instF (nm := "HandleModels$Other") ec105 rfl (by simp [ncCs, vwCl, RX1]) (gd_of 522 rfl rfl) dX5_perform_29 ?_
          refine y_if_eq (tgt := 47) dX5_perform_32 (by decide) (fun _ => ?_) (fun hc => absurd (by decide) hc)
          refine y_aload_n (i := 0) dX5_perform_47 rfl rfl ?_
          refine y_aload_n (i := 1) dX5_perform_48 rfl rfl ?_
          refine y_aload_n (i := 0) dX5_perform_49 rfl rfl ?_
          replace hf := bnd hf
          obtain ⟨r111, er111, hf⟩ := hf
          refine y_getR er111 fl5_11 dX5_perform_50 ?_
          refine y_iload_n (i := 2) dX5_perform_53 rfl rfl ?_
          replace hf := bnd hf
          obtain ⟨a112, rfl, hf⟩ := hf
          replace hf := bnd hf
          obtain ⟨r113, er113, hf⟩ := hf
          refine y_aaload er113 dX5_perform_54 ?_
          replace hf := bnd hf
          obtain ⟨fs115, efs115, hf⟩ := hf
          replace hf := bnd hf
          obtain ⟨q114, eq114, hf⟩ := hf
          refine y_callV (mj := miX5_performPlain) (args := [.inr (.inr (some a104)), .inr (.inr r113)]) (st := []) dX5_perform_55 (gd_of 625 rfl rfl) (gd_of 627 rfl rfl) (gd_of 26 rfl rfl) okX5_performPlain (obO_spec efs115) rfl rfl (xX5_performPlain (by omega) eq114) (Nat.le_of_ble_eq_true rfl) rfl ?_
          show Y l g miX5_perform (d + 1) 58 [some (.inr (.inr (some a0))), some (.inr (.inr (some a104))), some (.inl x2), none] [.inl q114.1] q114.2 _
          obtain rfl := Option.some.inj hf
          exact y_ret (v := some (.inl q114.1)) dX5_perform_58 rfl
        rw [if_neg hc116] at hf
        cases hf
      · rw [if_neg hc] at hf
        refine y_bipush (v := 9) dX5_perform_25 (by decide) ?_
        obtain rfl := Option.some.inj hf
        exact y_ret (v := some (.inl 9)) dX5_perform_27 rfl
set_option maxRecDepth 100000 in
theorem dX5_performStarter_0 : decode prog_7_method_5_code 0 = .ok (.aload_n 0, 1) := by decide +kernel
set_option maxRecDepth 100000 in
theorem dX5_performStarter_1 : decode prog_7_method_5_code 1 = .ok (.iconst 0, 1) := by decide +kernel
set_option maxRecDepth 100000 in
theorem dX5_performStarter_2 : decode prog_7_method_5_code 2 = .ok (.invokevirtual 94, 3) := by decide +kernel
set_option maxRecDepth 100000 in
theorem dX5_performStarter_5 : decode prog_7_method_5_code 5 = .ok (.pop, 1) := by decide +kernel
set_option maxRecDepth 100000 in
theorem dX5_performStarter_6 : decode prog_7_method_5_code 6 = .ok (.aload_n 0, 1) := by decide +kernel
set_option maxRecDepth 100000 in
theorem dX5_performStarter_7 : decode prog_7_method_5_code 7 = .ok (.aload_n 1, 1) := by decide +kernel
set_option maxRecDepth 100000 in
theorem dX5_performStarter_8 : decode prog_7_method_5_code 8 = .ok (.iconst 1, 1) := by decide +kernel
set_option maxRecDepth 100000 in
theorem dX5_performStarter_9 : decode prog_7_method_5_code 9 = .ok (.invokevirtual 98, 3) := by decide +kernel
set_option maxRecDepth 100000 in
theorem dX5_performStarter_12 : decode prog_7_method_5_code 12 = .ok (.ireturn, 1) := by decide +kernel

def fX5_performStarter (z : Nat → Nat) (a0 : Nat) (r1 : Option Nat) (h : aH) : Option (Int32 × aH) :=
  (obO h a0 4).bind fun fs102 =>
  (fX5_opened z a0 0 h).bind fun q101 =>
  (obO q101.2 a0 4).bind fun fs104 =>
  (fX5_perform z 70 a0 r1 1 q101.2).bind fun q103 =>
  some (q103.1, q103.2)
set_option maxHeartbeats 4000000 in
set_option maxRecDepth 100000 in
theorem xX5_performStarter {l : Launch} {g : aG} {d : Nat} (hK : 351 ≤ d) {a0 : Nat} {r1 : Option Nat} {h : aH} {q : Int32 × aH} (hf : fX5_performStarter g.2.2 a0 r1 h = some q) : Ev l g miX5_performStarter d [.inr (.inr (some a0)), .inr (.inr r1)] h (some (.inl q.1), q.2) := by
  obtain ⟨d, rfl⟩ : ∃ e, d = e + 1 := ⟨d - 1, by omega⟩
  refine ⟨?_, Or.inl rfl, Nat.le_of_ble_eq_true rfl⟩
  unfold fX5_performStarter at hf
  show Y l g miX5_performStarter (d + 1) 0 [some (.inr (.inr (some a0))), some (.inr (.inr r1))] [] h _
  refine y_aload_n (i := 0) dX5_performStarter_0 rfl rfl ?_
  refine y_iconst (v := 0) dX5_performStarter_1 (by decide) ?_
  replace hf := bnd hf
  obtain ⟨fs102, efs102, hf⟩ := hf
  replace hf := bnd hf
  obtain ⟨q101, eq101, hf⟩ := hf
  refine y_callV (mj := miX5_opened) (args := [.inl 0]) (st := []) dX5_performStarter_2 (gd_of 531 rfl rfl) (gd_of 533 rfl rfl) (gd_of 9 rfl rfl) okX5_opened (obO_spec efs102) rfl rfl (xX5_opened (by omega) eq101) (Nat.le_of_ble_eq_true rfl) rfl ?_
  show Y l g miX5_performStarter (d + 1) 5 [some (.inr (.inr (some a0))), some (.inr (.inr r1))] [.inr (.inr q101.1)] q101.2 _
  refine y_pop dX5_performStarter_5 rfl ?_
  refine y_aload_n (i := 0) dX5_performStarter_6 rfl rfl ?_
  refine y_aload_n (i := 1) dX5_performStarter_7 rfl rfl ?_
  refine y_iconst (v := 1) dX5_performStarter_8 (by decide) ?_
  replace hf := bnd hf
  obtain ⟨fs104, efs104, hf⟩ := hf
  replace hf := bnd hf
  obtain ⟨q103, eq103, hf⟩ := hf
  refine y_callV (mj := miX5_perform) (args := [.inr (.inr r1), .inl 1]) (st := []) dX5_performStarter_9 (gd_of 542 rfl rfl) (gd_of 519 rfl rfl) (gd_of 520 rfl rfl) okX5_perform (obO_spec efs104) rfl rfl (xX5_perform 70 _ (by omega) _ _ _ _ _ eq103) (Nat.le_of_ble_eq_true rfl) rfl ?_
  show Y l g miX5_performStarter (d + 1) 12 [some (.inr (.inr (some a0))), some (.inr (.inr r1))] [.inl q103.1] q103.2 _
  obtain rfl := Option.some.inj hf
  exact y_ret (v := some (.inl q103.1)) dX5_performStarter_12 rfl
set_option maxRecDepth 100000 in
theorem dX8_hasFrom_0 : decode prog_10_method_4_code 0 = .ok (.iload_n 1, 1) := by decide +kernel
set_option maxRecDepth 100000 in
theorem dX8_hasFrom_1 : decode prog_10_method_4_code 1 = .ok (.aload_n 2, 1) := by decide +kernel
set_option maxRecDepth 100000 in
theorem dX8_hasFrom_2 : decode prog_10_method_4_code 2 = .ok (.invokevirtual 19, 3) := by decide +kernel
set_option maxRecDepth 100000 in
theorem dX8_hasFrom_5 : decode prog_10_method_4_code 5 = .ok (.iadd, 1) := by decide +kernel
set_option maxRecDepth 100000 in
theorem dX8_hasFrom_6 : decode prog_10_method_4_code 6 = .ok (.aload_n 0, 1) := by decide +kernel
set_option maxRecDepth 100000 in
theorem dX8_hasFrom_7 : decode prog_10_method_4_code 7 = .ok (.invokevirtual 19, 3) := by decide +kernel
set_option maxRecDepth 100000 in
theorem dX8_hasFrom_10 : decode prog_10_method_4_code 10 = .ok (.if_icmp .le 5, 3) := by decide +kernel
set_option maxRecDepth 100000 in
theorem dX8_hasFrom_13 : decode prog_10_method_4_code 13 = .ok (.iconst 0, 1) := by decide +kernel
set_option maxRecDepth 100000 in
theorem dX8_hasFrom_14 : decode prog_10_method_4_code 14 = .ok (.ireturn, 1) := by decide +kernel
set_option maxRecDepth 100000 in
theorem dX8_hasFrom_15 : decode prog_10_method_4_code 15 = .ok (.iconst 0, 1) := by decide +kernel
set_option maxRecDepth 100000 in
theorem dX8_hasFrom_16 : decode prog_10_method_4_code 16 = .ok (.istore_n 3, 1) := by decide +kernel
set_option maxRecDepth 100000 in
theorem dX8_hasFrom_17 : decode prog_10_method_4_code 17 = .ok (.iload_n 3, 1) := by decide +kernel
set_option maxRecDepth 100000 in
theorem dX8_hasFrom_18 : decode prog_10_method_4_code 18 = .ok (.aload_n 2, 1) := by decide +kernel
set_option maxRecDepth 100000 in
theorem dX8_hasFrom_19 : decode prog_10_method_4_code 19 = .ok (.invokevirtual 19, 3) := by decide +kernel
set_option maxRecDepth 100000 in
theorem dX8_hasFrom_22 : decode prog_10_method_4_code 22 = .ok (.if_icmp .ge 26, 3) := by decide +kernel
set_option maxRecDepth 100000 in
theorem dX8_hasFrom_25 : decode prog_10_method_4_code 25 = .ok (.aload_n 0, 1) := by decide +kernel
set_option maxRecDepth 100000 in
theorem dX8_hasFrom_26 : decode prog_10_method_4_code 26 = .ok (.iload_n 1, 1) := by decide +kernel
set_option maxRecDepth 100000 in
theorem dX8_hasFrom_27 : decode prog_10_method_4_code 27 = .ok (.iload_n 3, 1) := by decide +kernel
set_option maxRecDepth 100000 in
theorem dX8_hasFrom_28 : decode prog_10_method_4_code 28 = .ok (.iadd, 1) := by decide +kernel
set_option maxRecDepth 100000 in
theorem dX8_hasFrom_29 : decode prog_10_method_4_code 29 = .ok (.invokevirtual 23, 3) := by decide +kernel
set_option maxRecDepth 100000 in
theorem dX8_hasFrom_32 : decode prog_10_method_4_code 32 = .ok (.aload_n 2, 1) := by decide +kernel
set_option maxRecDepth 100000 in
theorem dX8_hasFrom_33 : decode prog_10_method_4_code 33 = .ok (.iload_n 3, 1) := by decide +kernel
set_option maxRecDepth 100000 in
theorem dX8_hasFrom_34 : decode prog_10_method_4_code 34 = .ok (.invokevirtual 23, 3) := by decide +kernel
set_option maxRecDepth 100000 in
theorem dX8_hasFrom_37 : decode prog_10_method_4_code 37 = .ok (.if_icmp .eq 5, 3) := by decide +kernel
set_option maxRecDepth 100000 in
theorem dX8_hasFrom_40 : decode prog_10_method_4_code 40 = .ok (.iconst 0, 1) := by decide +kernel
set_option maxRecDepth 100000 in
theorem dX8_hasFrom_41 : decode prog_10_method_4_code 41 = .ok (.ireturn, 1) := by decide +kernel
set_option maxRecDepth 100000 in
theorem dX8_hasFrom_42 : decode prog_10_method_4_code 42 = .ok (.iinc 3 1, 3) := by decide +kernel
set_option maxRecDepth 100000 in
theorem dX8_hasFrom_45 : decode prog_10_method_4_code 45 = .ok (.goto (-28), 3) := by decide +kernel
set_option maxRecDepth 100000 in
theorem dX8_hasFrom_48 : decode prog_10_method_4_code 48 = .ok (.iconst 1, 1) := by decide +kernel
set_option maxRecDepth 100000 in
theorem dX8_hasFrom_49 : decode prog_10_method_4_code 49 = .ok (.ireturn, 1) := by decide +kernel

def fX8_hasFrom_17 (z : Nat → Nat) : Nat → Nat → Int32 → Option Nat → Int32 → aH → Option (Int32 × aH)
  | 0, _, _, _, _, _ => none
  | n + 1, a0, x1, r2, x3, h => (r2).bind fun a102 =>
  (obO h a102 6).bind fun fs103 =>
  (fX8_count z a102 h).bind fun q101 =>
  (if q101.1 ≤ x3 then
  some (1, q101.2)
  else
  (obO q101.2 a0 6).bind fun fs105 =>
  (fX8_at z a0 (x1 + x3) q101.2).bind fun q104 =>
  (obO q104.2 a102 6).bind fun fs107 =>
  (fX8_at z a102 x3 q104.2).bind fun q106 =>
  (if q104.1 = q106.1 then
  fX8_hasFrom_17 z n a0 x1 (some a102) (x3 + 1) q106.2
  else
  some (0, q106.2)))
set_option maxHeartbeats 4000000 in
set_option maxRecDepth 100000 in
theorem xX8_hasFrom_17 {l : Launch} {g : aG} {d : Nat} (hK : 1 ≤ d + 1) : ∀ (n : Nat) (a0 : Nat) (x1 : Int32) (r2 : Option Nat) (x3 : Int32) (h : aH) (q : Int32 × aH), fX8_hasFrom_17 g.2.2 n a0 x1 r2 x3 h = some q → Y l g miX8_hasFrom (d + 1) 17 [some (.inr (.inr (some a0))), some (.inl x1), some (.inr (.inr r2)), some (.inl x3)] [] h (some (.inl q.1), q.2) := by
  intro n
  induction n with
  | zero => intro a0 x1 r2 x3 h q hf; simp [fX8_hasFrom_17] at hf
  | succ n ih =>
    intro a0 x1 r2 x3 h q hf
    rw [fX8_hasFrom_17] at hf
    refine y_iload_n (i := 3) dX8_hasFrom_17 rfl rfl ?_
    refine y_aload_n (i := 2) dX8_hasFrom_18 rfl rfl ?_
    replace hf := bnd hf
    obtain ⟨a102, rfl, hf⟩ := hf
    replace hf := bnd hf
    obtain ⟨fs103, efs103, hf⟩ := hf
    replace hf := bnd hf
    obtain ⟨q101, eq101, hf⟩ := hf
    refine y_callV (mj := miX8_count) (args := []) (st := [.inl x3]) dX8_hasFrom_19 (gd_of 327 rfl rfl) (gd_of 314 rfl rfl) (gd_of 315 rfl rfl) okX8_count (obO_spec efs103) rfl rfl (xX8_count (by omega) eq101) (Nat.le_of_ble_eq_true rfl) rfl ?_
    show Y l g miX8_hasFrom (d + 1) 22 [some (.inr (.inr (some a0))), some (.inl x1), some (.inr (.inr (some a102))), some (.inl x3)] [.inl q101.1, .inl x3] q101.2 _
    refine y_icmp_ge (tgt := 48) dX8_hasFrom_22 (by decide) (fun hc => ?_) (fun hc => ?_)
    · rw [if_pos hc] at hf
      refine y_iconst (v := 1) dX8_hasFrom_48 (by decide) ?_
      obtain rfl := Option.some.inj hf
      exact y_ret (v := some (.inl 1)) dX8_hasFrom_49 rfl
    · rw [if_neg hc] at hf
      refine y_aload_n (i := 0) dX8_hasFrom_25 rfl rfl ?_
      refine y_iload_n (i := 1) dX8_hasFrom_26 rfl rfl ?_
      refine y_iload_n (i := 3) dX8_hasFrom_27 rfl rfl ?_
      refine y_iadd dX8_hasFrom_28 ?_
      replace hf := bnd hf
      obtain ⟨fs105, efs105, hf⟩ := hf
      replace hf := bnd hf
      obtain ⟨q104, eq104, hf⟩ := hf
      refine y_callV (mj := miX8_at) (args := [.inl (x1 + x3)]) (st := []) dX8_hasFrom_29 (gd_of 350 rfl rfl) (gd_of 340 rfl rfl) (gd_of 341 rfl rfl) okX8_at (obO_spec efs105) rfl rfl (xX8_at (by omega) eq104) (Nat.le_of_ble_eq_true rfl) rfl ?_
      show Y l g miX8_hasFrom (d + 1) 32 [some (.inr (.inr (some a0))), some (.inl x1), some (.inr (.inr (some a102))), some (.inl x3)] [.inl q104.1] q104.2 _
      refine y_aload_n (i := 2) dX8_hasFrom_32 rfl rfl ?_
      refine y_iload_n (i := 3) dX8_hasFrom_33 rfl rfl ?_
      replace hf := bnd hf
      obtain ⟨fs107, efs107, hf⟩ := hf
      replace hf := bnd hf
      obtain ⟨q106, eq106, hf⟩ := hf
      refine y_callV (mj := miX8_at) (args := [.inl x3]) (st := [.inl q104.1]) dX8_hasFrom_34 (gd_of 350 rfl rfl) (gd_of 340 rfl rfl) (gd_of 341 rfl rfl) okX8_at (obO_spec efs107) rfl rfl (xX8_at (by omega) eq106) (Nat.le_of_ble_eq_true rfl) rfl ?_
      show Y l g miX8_hasFrom (d + 1) 37 [some (.inr (.inr (some a0))), some (.inl x1), some (.inr (.inr (some a102))), some (.inl x3)] [.inl q106.1, .inl q104.1] q106.2 _
      refine y_icmp_eq (tgt := 42) dX8_hasFrom_37 (by decide) (fun hc => ?_) (fun hc => ?_)
      · rw [if_pos hc] at hf
        refine y_iinc (i := 3) (y := 1) (lv2 := [some (.inr (.inr (some a0))), some (.inl x1), some (.inr (.inr (some a102))), some (.inl (x3 + 1))]) dX8_hasFrom_42 rfl (by decide) (by decide) rfl ?_
        refine y_goto (tgt := 17) dX8_hasFrom_45 (by decide) ?_
        refine Y.weak (lv2 := [some (.inr (.inr (some a0))), some (.inl x1), some (.inr (.inr (some a102))), some (.inl (x3 + 1))]) [true, true, true, true] rfl ?_
        exact ih _ _ _ _ _ _ hf
      · rw [if_neg hc] at hf
        refine y_iconst (v := 0) dX8_hasFrom_40 (by decide) ?_
        obtain rfl := Option.some.inj hf
        exact y_ret (v := some (.inl 0)) dX8_hasFrom_41 rfl
def fX8_hasFrom_e (z : Nat → Nat) (a0 : Nat) (x1 : Int32) (r2 : Option Nat) (h : aH) : Option (Int32 × aH) :=
  (r2).bind fun a102 =>
  (obO h a102 6).bind fun fs103 =>
  (fX8_count z a102 h).bind fun q101 =>
  (obO q101.2 a0 6).bind fun fs105 =>
  (fX8_count z a0 q101.2).bind fun q104 =>
  (if (x1 + q101.1) ≤ q104.1 then
  fX8_hasFrom_17 z 4000 a0 x1 (some a102) 0 q104.2
  else
  some (0, q104.2))
def fX8_hasFrom (z : Nat → Nat) (a0 : Nat) (x1 : Int32) (r2 : Option Nat) (h : aH) : Option (Int32 × aH) := chkB (fX8_hasFrom_e z a0 x1 r2 h)
set_option maxHeartbeats 4000000 in
set_option maxRecDepth 100000 in
theorem xX8_hasFrom {l : Launch} {g : aG} {d : Nat} (hK : 1 ≤ d) {a0 : Nat} {x1 : Int32} {r2 : Option Nat} {h : aH} {q : Int32 × aH} (hf : fX8_hasFrom g.2.2 a0 x1 r2 h = some q) : Ev l g miX8_hasFrom d [.inr (.inr (some a0)), .inl x1, .inr (.inr r2)] h (some (.inl q.1), q.2) := by
  obtain ⟨d, rfl⟩ : ∃ e, d = e + 1 := ⟨d - 1, by omega⟩
  replace hf := chkB_spec hf
  obtain ⟨hf, hb⟩ := hf
  refine ⟨?_, Or.inr ⟨rfl, hb⟩, Nat.le_of_ble_eq_true rfl⟩
  unfold fX8_hasFrom_e at hf
  show Y l g miX8_hasFrom (d + 1) 0 [some (.inr (.inr (some a0))), some (.inl x1), some (.inr (.inr r2)), none] [] h _
  refine y_iload_n (i := 1) dX8_hasFrom_0 rfl rfl ?_
  refine y_aload_n (i := 2) dX8_hasFrom_1 rfl rfl ?_
  replace hf := bnd hf
  obtain ⟨a102, rfl, hf⟩ := hf
  replace hf := bnd hf
  obtain ⟨fs103, efs103, hf⟩ := hf
  replace hf := bnd hf
  obtain ⟨q101, eq101, hf⟩ := hf
  refine y_callV (mj := miX8_count) (args := []) (st := [.inl x1]) dX8_hasFrom_2 (gd_of 327 rfl rfl) (gd_of 314 rfl rfl) (gd_of 315 rfl rfl) okX8_count (obO_spec efs103) rfl rfl (xX8_count (by omega) eq101) (Nat.le_of_ble_eq_true rfl) rfl ?_
  show Y l g miX8_hasFrom (d + 1) 5 [some (.inr (.inr (some a0))), some (.inl x1), some (.inr (.inr (some a102))), none] [.inl q101.1, .inl x1] q101.2 _
  refine y_iadd dX8_hasFrom_5 ?_
  refine y_aload_n (i := 0) dX8_hasFrom_6 rfl rfl ?_
  replace hf := bnd hf
  obtain ⟨fs105, efs105, hf⟩ := hf
  replace hf := bnd hf
  obtain ⟨q104, eq104, hf⟩ := hf
  refine y_callV (mj := miX8_count) (args := []) (st := [.inl (x1 + q101.1)]) dX8_hasFrom_7 (gd_of 327 rfl rfl) (gd_of 314 rfl rfl) (gd_of 315 rfl rfl) okX8_count (obO_spec efs105) rfl rfl (xX8_count (by omega) eq104) (Nat.le_of_ble_eq_true rfl) rfl ?_
  show Y l g miX8_hasFrom (d + 1) 10 [some (.inr (.inr (some a0))), some (.inl x1), some (.inr (.inr (some a102))), none] [.inl q104.1, .inl (x1 + q101.1)] q104.2 _
  refine y_icmp_le (tgt := 15) dX8_hasFrom_10 (by decide) (fun hc => ?_) (fun hc => ?_)
  · rw [if_pos hc] at hf
    refine y_iconst (v := 0) dX8_hasFrom_15 (by decide) ?_
    refine y_istore_n (i := 3) (lv2 := [some (.inr (.inr (some a0))), some (.inl x1), some (.inr (.inr (some a102))), some (.inl 0)]) dX8_hasFrom_16 rfl (by decide) rfl ?_
    refine Y.weak (lv2 := [some (.inr (.inr (some a0))), some (.inl x1), some (.inr (.inr (some a102))), some (.inl 0)]) [true, true, true, true] rfl ?_
    exact xX8_hasFrom_17 hK 4000 _ _ _ _ _ _ hf
  · rw [if_neg hc] at hf
    refine y_iconst (v := 0) dX8_hasFrom_13 (by decide) ?_
    obtain rfl := Option.some.inj hf
    exact y_ret (v := some (.inl 0)) dX8_hasFrom_14 rfl
set_option maxRecDepth 100000 in
theorem dX8_alike_0 : decode prog_10_method_5_code 0 = .ok (.aload_n 0, 1) := by decide +kernel
set_option maxRecDepth 100000 in
theorem dX8_alike_1 : decode prog_10_method_5_code 1 = .ok (.getfield 15, 3) := by decide +kernel
set_option maxRecDepth 100000 in
theorem dX8_alike_4 : decode prog_10_method_5_code 4 = .ok (.aload_n 1, 1) := by decide +kernel
set_option maxRecDepth 100000 in
theorem dX8_alike_5 : decode prog_10_method_5_code 5 = .ok (.getfield 15, 3) := by decide +kernel
set_option maxRecDepth 100000 in
theorem dX8_alike_8 : decode prog_10_method_5_code 8 = .ok (.if_icmp .ne 27, 3) := by decide +kernel
set_option maxRecDepth 100000 in
theorem dX8_alike_11 : decode prog_10_method_5_code 11 = .ok (.aload_n 0, 1) := by decide +kernel
set_option maxRecDepth 100000 in
theorem dX8_alike_12 : decode prog_10_method_5_code 12 = .ok (.invokevirtual 19, 3) := by decide +kernel
set_option maxRecDepth 100000 in
theorem dX8_alike_15 : decode prog_10_method_5_code 15 = .ok (.aload_n 1, 1) := by decide +kernel
set_option maxRecDepth 100000 in
theorem dX8_alike_16 : decode prog_10_method_5_code 16 = .ok (.invokevirtual 19, 3) := by decide +kernel
set_option maxRecDepth 100000 in
theorem dX8_alike_19 : decode prog_10_method_5_code 19 = .ok (.if_icmp .ne 16, 3) := by decide +kernel
set_option maxRecDepth 100000 in
theorem dX8_alike_22 : decode prog_10_method_5_code 22 = .ok (.aload_n 0, 1) := by decide +kernel
set_option maxRecDepth 100000 in
theorem dX8_alike_23 : decode prog_10_method_5_code 23 = .ok (.iconst 0, 1) := by decide +kernel
set_option maxRecDepth 100000 in
theorem dX8_alike_24 : decode prog_10_method_5_code 24 = .ok (.aload_n 1, 1) := by decide +kernel
set_option maxRecDepth 100000 in
theorem dX8_alike_25 : decode prog_10_method_5_code 25 = .ok (.invokevirtual 27, 3) := by decide +kernel
set_option maxRecDepth 100000 in
theorem dX8_alike_28 : decode prog_10_method_5_code 28 = .ok (.ifCond .eq 7, 3) := by decide +kernel
set_option maxRecDepth 100000 in
theorem dX8_alike_31 : decode prog_10_method_5_code 31 = .ok (.iconst 1, 1) := by decide +kernel
set_option maxRecDepth 100000 in
theorem dX8_alike_32 : decode prog_10_method_5_code 32 = .ok (.goto 4, 3) := by decide +kernel
set_option maxRecDepth 100000 in
theorem dX8_alike_35 : decode prog_10_method_5_code 35 = .ok (.iconst 0, 1) := by decide +kernel
set_option maxRecDepth 100000 in
theorem dX8_alike_36 : decode prog_10_method_5_code 36 = .ok (.ireturn, 1) := by decide +kernel
set_option maxRecDepth 100000 in
theorem fl8_15 : ∀ c ∈ ([6] : List Nat), FL "HandleModels$Types" 15 c 1 := fun c hc => by
  cases List.mem_singleton.mp hc
  exact ⟨_, "HandleModels$Types", rfl, by decide, (gd_of 223 rfl rfl), Or.inl rfl⟩
set_option maxRecDepth 100000 in
theorem okX8_hasFrom : mOk miX8_hasFrom 2 := ⟨(gd_of 349 rfl rfl), (gd_of 79 rfl rfl), by decide +kernel, ⟨by decide +kernel, by decide +kernel, by decide +kernel⟩, by decide⟩
def fX8_alike_e (z : Nat → Nat) (a0 : Nat) (r1 : Option Nat) (h : aH) : Option (Int32 × aH) :=
  (rdI h a0 [6] 1).bind fun x101 =>
  (r1).bind fun a102 =>
  (rdI h a102 [6] 1).bind fun x103 =>
  (if x101 = x103 then
  (obO h a0 6).bind fun fs105 =>
  (fX8_count z a0 h).bind fun q104 =>
  (obO q104.2 a102 6).bind fun fs107 =>
  (fX8_count z a102 q104.2).bind fun q106 =>
  (if q104.1 = q106.1 then
  (obO q106.2 a0 6).bind fun fs109 =>
  (fX8_hasFrom z a0 0 (some a102) q106.2).bind fun q108 =>
  (if q108.1 = 0 then
  some (0, q108.2)
  else
  some (1, q108.2))
  else
  some (0, q106.2))
  else
  some (0, h))
def fX8_alike (z : Nat → Nat) (a0 : Nat) (r1 : Option Nat) (h : aH) : Option (Int32 × aH) := chkB (fX8_alike_e z a0 r1 h)
set_option maxHeartbeats 4000000 in
set_option maxRecDepth 100000 in
theorem xX8_alike {l : Launch} {g : aG} {d : Nat} (hK : 2 ≤ d) {a0 : Nat} {r1 : Option Nat} {h : aH} {q : Int32 × aH} (hf : fX8_alike g.2.2 a0 r1 h = some q) : Ev l g miX8_alike d [.inr (.inr (some a0)), .inr (.inr r1)] h (some (.inl q.1), q.2) := by
  obtain ⟨d, rfl⟩ : ∃ e, d = e + 1 := ⟨d - 1, by omega⟩
  replace hf := chkB_spec hf
  obtain ⟨hf, hb⟩ := hf
  refine ⟨?_, Or.inr ⟨rfl, hb⟩, Nat.le_of_ble_eq_true rfl⟩
  unfold fX8_alike_e at hf
  show Y l g miX8_alike (d + 1) 0 [some (.inr (.inr (some a0))), some (.inr (.inr r1))] [] h _
  refine y_aload_n (i := 0) dX8_alike_0 rfl rfl ?_
  replace hf := bnd hf
  obtain ⟨x101, ex101, hf⟩ := hf
  refine y_getI ex101 fl8_15 dX8_alike_1 ?_
  refine y_aload_n (i := 1) dX8_alike_4 rfl rfl ?_
  replace hf := bnd hf
  obtain ⟨a102, rfl, hf⟩ := hf
  replace hf := bnd hf
  obtain ⟨x103, ex103, hf⟩ := hf
  refine y_getI ex103 fl8_15 dX8_alike_5 ?_
  refine y_icmp_ne (tgt := 35) dX8_alike_8 (by decide) (fun hc => ?_) (fun hc => ?_)
  · rw [if_neg hc] at hf
    refine y_iconst (v := 0) dX8_alike_35 (by decide) ?_
    obtain rfl := Option.some.inj hf
    exact y_ret (v := some (.inl 0)) dX8_alike_36 rfl
  · rw [if_pos hc] at hf
    refine y_aload_n (i := 0) dX8_alike_11 rfl rfl ?_
    replace hf := bnd hf
    obtain ⟨fs105, efs105, hf⟩ := hf
    replace hf := bnd hf
    obtain ⟨q104, eq104, hf⟩ := hf
    refine y_callV (mj := miX8_count) (args := []) (st := []) dX8_alike_12 (gd_of 327 rfl rfl) (gd_of 314 rfl rfl) (gd_of 315 rfl rfl) okX8_count (obO_spec efs105) rfl rfl (xX8_count (by omega) eq104) (Nat.le_of_ble_eq_true rfl) rfl ?_
    show Y l g miX8_alike (d + 1) 15 [some (.inr (.inr (some a0))), some (.inr (.inr (some a102)))] [.inl q104.1] q104.2 _
    refine y_aload_n (i := 1) dX8_alike_15 rfl rfl ?_
    replace hf := bnd hf
    obtain ⟨fs107, efs107, hf⟩ := hf
    replace hf := bnd hf
    obtain ⟨q106, eq106, hf⟩ := hf
    refine y_callV (mj := miX8_count) (args := []) (st := [.inl q104.1]) dX8_alike_16 (gd_of 327 rfl rfl) (gd_of 314 rfl rfl) (gd_of 315 rfl rfl) okX8_count (obO_spec efs107) rfl rfl (xX8_count (by omega) eq106) (Nat.le_of_ble_eq_true rfl) rfl ?_
    show Y l g miX8_alike (d + 1) 19 [some (.inr (.inr (some a0))), some (.inr (.inr (some a102)))] [.inl q106.1, .inl q104.1] q106.2 _
    refine y_icmp_ne (tgt := 35) dX8_alike_19 (by decide) (fun hc => ?_) (fun hc => ?_)
    · rw [if_neg hc] at hf
      refine y_iconst (v := 0) dX8_alike_35 (by decide) ?_
      obtain rfl := Option.some.inj hf
      exact y_ret (v := some (.inl 0)) dX8_alike_36 rfl
    · rw [if_pos hc] at hf
      refine y_aload_n (i := 0) dX8_alike_22 rfl rfl ?_
      refine y_iconst (v := 0) dX8_alike_23 (by decide) ?_
      refine y_aload_n (i := 1) dX8_alike_24 rfl rfl ?_
      replace hf := bnd hf
      obtain ⟨fs109, efs109, hf⟩ := hf
      replace hf := bnd hf
      obtain ⟨q108, eq108, hf⟩ := hf
      refine y_callV (mj := miX8_hasFrom) (args := [.inl 0, .inr (.inr (some a102))]) (st := []) dX8_alike_25 (gd_of 358 rfl rfl) (gd_of 347 rfl rfl) (gd_of 348 rfl rfl) okX8_hasFrom (obO_spec efs109) rfl rfl (xX8_hasFrom (by omega) eq108) (Nat.le_of_ble_eq_true rfl) rfl ?_
      show Y l g miX8_alike (d + 1) 28 [some (.inr (.inr (some a0))), some (.inr (.inr (some a102)))] [.inl q108.1] q108.2 _
      refine y_if_eq (tgt := 35) dX8_alike_28 (by decide) (fun hc => ?_) (fun hc => ?_)
      · rw [if_pos hc] at hf
        refine y_iconst (v := 0) dX8_alike_35 (by decide) ?_
        obtain rfl := Option.some.inj hf
        exact y_ret (v := some (.inl 0)) dX8_alike_36 rfl
      · rw [if_neg hc] at hf
        refine y_iconst (v := 1) dX8_alike_31 (by decide) ?_
        refine y_goto (tgt := 36) dX8_alike_32 (by decide) ?_
        obtain rfl := Option.some.inj hf
        exact y_ret (v := some (.inl 1)) dX8_alike_36 rfl
set_option maxRecDepth 100000 in
theorem dX10_link_0 : decode prog_1_method_24_code 0 = .ok (.aload_n 0, 1) := by decide +kernel
set_option maxRecDepth 100000 in
theorem dX10_link_1 : decode prog_1_method_24_code 1 = .ok (.getfield 47, 3) := by decide +kernel
set_option maxRecDepth 100000 in
theorem dX10_link_4 : decode prog_1_method_24_code 4 = .ok (.aload_n 1, 1) := by decide +kernel
set_option maxRecDepth 100000 in
theorem dX10_link_5 : decode prog_1_method_24_code 5 = .ok (.getfield 228, 3) := by decide +kernel
set_option maxRecDepth 100000 in
theorem dX10_link_8 : decode prog_1_method_24_code 8 = .ok (.invokevirtual 232, 3) := by decide +kernel
set_option maxRecDepth 100000 in
theorem dX10_link_11 : decode prog_1_method_24_code 11 = .ok (.istore_n 2, 1) := by decide +kernel
set_option maxRecDepth 100000 in
theorem dX10_link_12 : decode prog_1_method_24_code 12 = .ok (.iload_n 2, 1) := by decide +kernel
set_option maxRecDepth 100000 in
theorem dX10_link_13 : decode prog_1_method_24_code 13 = .ok (.ifCond .eq 5, 3) := by decide +kernel
set_option maxRecDepth 100000 in
theorem dX10_link_16 : decode prog_1_method_24_code 16 = .ok (.iload_n 2, 1) := by decide +kernel
set_option maxRecDepth 100000 in
theorem dX10_link_17 : decode prog_1_method_24_code 17 = .ok (.ireturn, 1) := by decide +kernel
set_option maxRecDepth 100000 in
theorem dX10_link_18 : decode prog_1_method_24_code 18 = .ok (.aload_n 0, 1) := by decide +kernel
set_option maxRecDepth 100000 in
theorem dX10_link_19 : decode prog_1_method_24_code 19 = .ok (.getfield 47, 3) := by decide +kernel
set_option maxRecDepth 100000 in
theorem dX10_link_22 : decode prog_1_method_24_code 22 = .ok (.getfield 235, 3) := by decide +kernel
set_option maxRecDepth 100000 in
theorem dX10_link_25 : decode prog_1_method_24_code 25 = .ok (.l2i, 1) := by decide +kernel
set_option maxRecDepth 100000 in
theorem dX10_link_26 : decode prog_1_method_24_code 26 = .ok (.istore_n 3, 1) := by decide +kernel
set_option maxRecDepth 100000 in
theorem dX10_link_27 : decode prog_1_method_24_code 27 = .ok (.aload_n 0, 1) := by decide +kernel
set_option maxRecDepth 100000 in
theorem dX10_link_28 : decode prog_1_method_24_code 28 = .ok (.iload_n 3, 1) := by decide +kernel
set_option maxRecDepth 100000 in
theorem dX10_link_29 : decode prog_1_method_24_code 29 = .ok (.invokevirtual 82, 3) := by decide +kernel
set_option maxRecDepth 100000 in
theorem dX10_link_32 : decode prog_1_method_24_code 32 = .ok (.astore 4, 2) := by decide +kernel
set_option maxRecDepth 100000 in
theorem dX10_link_34 : decode prog_1_method_24_code 34 = .ok (.aload 4, 2) := by decide +kernel
set_option maxRecDepth 100000 in
theorem dX10_link_36 : decode prog_1_method_24_code 36 = .ok (.ifnull 18, 3) := by decide +kernel
set_option maxRecDepth 100000 in
theorem dX10_link_39 : decode prog_1_method_24_code 39 = .ok (.aload 4, 2) := by decide +kernel
set_option maxRecDepth 100000 in
theorem dX10_link_41 : decode prog_1_method_24_code 41 = .ok (.getfield 106, 3) := by decide +kernel
set_option maxRecDepth 100000 in
theorem dX10_link_44 : decode prog_1_method_24_code 44 = .ok (.aload_n 1, 1) := by decide +kernel
set_option maxRecDepth 100000 in
theorem dX10_link_45 : decode prog_1_method_24_code 45 = .ok (.getfield 180, 3) := by decide +kernel
set_option maxRecDepth 100000 in
theorem dX10_link_48 : decode prog_1_method_24_code 48 = .ok (.invokevirtual 188, 3) := by decide +kernel
set_option maxRecDepth 100000 in
theorem dX10_link_51 : decode prog_1_method_24_code 51 = .ok (.ifCond .ne 6, 3) := by decide +kernel
set_option maxRecDepth 100000 in
theorem dX10_link_54 : decode prog_1_method_24_code 54 = .ok (.bipush 8, 2) := by decide +kernel
set_option maxRecDepth 100000 in
theorem dX10_link_56 : decode prog_1_method_24_code 56 = .ok (.ireturn, 1) := by decide +kernel
set_option maxRecDepth 100000 in
theorem dX10_link_57 : decode prog_1_method_24_code 57 = .ok (.aload_n 1, 1) := by decide +kernel
set_option maxRecDepth 100000 in
theorem dX10_link_58 : decode prog_1_method_24_code 58 = .ok (.iload_n 3, 1) := by decide +kernel
set_option maxRecDepth 100000 in
theorem dX10_link_59 : decode prog_1_method_24_code 59 = .ok (.putfield 181, 3) := by decide +kernel
set_option maxRecDepth 100000 in
theorem dX10_link_62 : decode prog_1_method_24_code 62 = .ok (.iconst 0, 1) := by decide +kernel
set_option maxRecDepth 100000 in
theorem dX10_link_63 : decode prog_1_method_24_code 63 = .ok (.ireturn, 1) := by decide +kernel
set_option maxRecDepth 100000 in
theorem fl10_228 : ∀ c ∈ ([5] : List Nat), FL "HandleModels" 228 c 1 := fun c hc => by
  cases List.mem_singleton.mp hc
  exact ⟨_, "HandleModels$Site", rfl, by decide, (gd_of 667 rfl rfl), Or.inl rfl⟩
set_option maxRecDepth 100000 in
theorem okX5_performStarter : mOk miX5_performStarter 1 := ⟨(gd_of 692 rfl rfl), (gd_of 75 rfl rfl), by decide +kernel, ⟨by decide +kernel, by decide +kernel, by decide +kernel⟩, by decide⟩
set_option maxRecDepth 100000 in
theorem fl10_180 : ∀ c ∈ ([5] : List Nat), FL "HandleModels" 180 c 0 := fun c hc => by
  cases List.mem_singleton.mp hc
  exact ⟨_, "HandleModels$Site", rfl, by decide, (gd_of 665 rfl rfl), Or.inl rfl⟩
set_option maxRecDepth 100000 in
theorem okX8_alike : mOk miX8_alike 1 := ⟨(gd_of 357 rfl rfl), (gd_of 79 rfl rfl), by decide +kernel, ⟨by decide +kernel, by decide +kernel, by decide +kernel⟩, by decide⟩
set_option maxRecDepth 100000 in
theorem fl10_181 : ∀ c ∈ ([5] : List Nat), FL "HandleModels" 181 c 2 := fun c hc => by
  cases List.mem_singleton.mp hc
  exact ⟨_, "HandleModels$Site", rfl, by decide, (gd_of 669 rfl rfl), Or.inl rfl⟩
set_option maxRecDepth 100000 in
theorem pl10_181_m {mi : aM} {x : Int32} (ho : "HandleModels" = mi.1.cls) : ∀ c ∈ ([5] : List Nat), FL mi.1.cls 181 c 2 ∧ FT c 2 (.inl x) ∧ FW mi c 2 := fun c h9 => by
  have h8 := fl10_181 c h9
  rw [← ho]
  refine ⟨h8, ?_⟩
  simp only [List.mem_cons, List.not_mem_nil, or_false] at h9
  rcases h9 with rfl
  · exact ⟨ft_int rfl (by decide +kernel), ⟨_, rfl, Or.inl rfl⟩⟩
def fX10_link (z : Nat → Nat) (a0 : Nat) (r1 : Option Nat) (h : aH) : Option (Int32 × aH) :=
  (rdR h a0 [8] 6).bind fun r101 =>
  (r1).bind fun a102 =>
  (rdR h a102 [5] 1).bind fun r103 =>
  (r101).bind fun a105 =>
  (obO h a105 4).bind fun fs106 =>
  (fX5_performStarter z a105 r103 h).bind fun q104 =>
  (if q104.1 = 0 then
  (rdR q104.2 a0 [8] 6).bind fun r107 =>
  (r107).bind fun a108 =>
  (rdJ q104.2 a108 [4] 5).bind fun j109 =>
  (obO q104.2 a0 8).bind fun fs111 =>
  (fX10_handleAt z a0 (Int64.toInt32 j109) q104.2).bind fun q110 =>
  (Option.elim q110.1
  (some (8, q110.2))
  fun a112 =>
  (rdR q110.2 a112 [0, 1] 1).bind fun r113 =>
  (rdR q110.2 a102 [5] 0).bind fun r114 =>
  (r113).bind fun a116 =>
  (obO q110.2 a116 6).bind fun fs117 =>
  (fX8_alike z a116 r114 q110.2).bind fun q115 =>
  (if q115.1 = 0 then
  some (8, q115.2)
  else
  (wrF q115.2 a102 [5] 2 (.inl (Int64.toInt32 j109))).bind fun h118 =>
  some (0, h118)))
  else
  some (q104.1, q104.2))
set_option maxHeartbeats 4000000 in
set_option maxRecDepth 100000 in
theorem xX10_link {l : Launch} {g : aG} {d : Nat} (hK : 352 ≤ d) {a0 : Nat} {r1 : Option Nat} {h : aH} {q : Int32 × aH} (hf : fX10_link g.2.2 a0 r1 h = some q) : Ev l g miX10_link d [.inr (.inr (some a0)), .inr (.inr r1)] h (some (.inl q.1), q.2) := by
  obtain ⟨d, rfl⟩ : ∃ e, d = e + 1 := ⟨d - 1, by omega⟩
  refine ⟨?_, Or.inl rfl, Nat.le_of_ble_eq_true rfl⟩
  unfold fX10_link at hf
  show Y l g miX10_link (d + 1) 0 [some (.inr (.inr (some a0))), some (.inr (.inr r1)), none, none, none] [] h _
  refine y_aload_n (i := 0) dX10_link_0 rfl rfl ?_
  replace hf := bnd hf
  obtain ⟨r101, er101, hf⟩ := hf
  refine y_getR er101 fl10_47 dX10_link_1 ?_
  refine y_aload_n (i := 1) dX10_link_4 rfl rfl ?_
  replace hf := bnd hf
  obtain ⟨a102, rfl, hf⟩ := hf
  replace hf := bnd hf
  obtain ⟨r103, er103, hf⟩ := hf
  refine y_getR er103 fl10_228 dX10_link_5 ?_
  replace hf := bnd hf
  obtain ⟨a105, rfl, hf⟩ := hf
  replace hf := bnd hf
  obtain ⟨fs106, efs106, hf⟩ := hf
  replace hf := bnd hf
  obtain ⟨q104, eq104, hf⟩ := hf
  refine y_callV (mj := miX5_performStarter) (args := [.inr (.inr r103)]) (st := []) dX10_link_8 (gd_of 689 rfl rfl) (gd_of 690 rfl rfl) (gd_of 691 rfl rfl) okX5_performStarter (obO_spec efs106) rfl rfl (xX5_performStarter (by omega) eq104) (Nat.le_of_ble_eq_true rfl) rfl ?_
  show Y l g miX10_link (d + 1) 11 [some (.inr (.inr (some a0))), some (.inr (.inr (some a102))), none, none, none] [.inl q104.1] q104.2 _
  refine y_istore_n (i := 2) (lv2 := [some (.inr (.inr (some a0))), some (.inr (.inr (some a102))), some (.inl q104.1), none, none]) dX10_link_11 rfl (by decide) rfl ?_
  refine y_iload_n (i := 2) dX10_link_12 rfl rfl ?_
  refine y_if_eq (tgt := 18) dX10_link_13 (by decide) (fun hc => ?_) (fun hc => ?_)
  · rw [if_pos hc] at hf
    refine y_aload_n (i := 0) dX10_link_18 rfl rfl ?_
    replace hf := bnd hf
    obtain ⟨r107, er107, hf⟩ := hf
    refine y_getR er107 fl10_47 dX10_link_19 ?_
    replace hf := bnd hf
    obtain ⟨a108, rfl, hf⟩ := hf
    replace hf := bnd hf
    obtain ⟨j109, ej109, hf⟩ := hf
    refine y_getJ ej109 fl10_235 dX10_link_22 ?_
    refine y_l2i dX10_link_25 ?_
    refine y_istore_n (i := 3) (lv2 := [some (.inr (.inr (some a0))), some (.inr (.inr (some a102))), some (.inl q104.1), some (.inl (Int64.toInt32 j109)), none]) dX10_link_26 rfl (by decide) rfl ?_
    refine y_aload_n (i := 0) dX10_link_27 rfl rfl ?_
    refine y_iload_n (i := 3) dX10_link_28 rfl rfl ?_
    replace hf := bnd hf
    obtain ⟨fs111, efs111, hf⟩ := hf
    replace hf := bnd hf
    obtain ⟨q110, eq110, hf⟩ := hf
    refine y_callV (mj := miX10_handleAt) (args := [.inl (Int64.toInt32 j109)]) (st := []) dX10_link_29 (gd_of 263 rfl rfl) (gd_of 265 rfl rfl) (gd_of 1 rfl rfl) okX10_handleAt (obO_spec efs111) rfl rfl (xX10_handleAt (by omega) eq110) (Nat.le_of_ble_eq_true rfl) rfl ?_
    show Y l g miX10_link (d + 1) 32 [some (.inr (.inr (some a0))), some (.inr (.inr (some a102))), some (.inl q104.1), some (.inl (Int64.toInt32 j109)), none] [.inr (.inr q110.1)] q110.2 _
    refine y_astore (i := 4) (lv2 := [some (.inr (.inr (some a0))), some (.inr (.inr (some a102))), some (.inl q104.1), some (.inl (Int64.toInt32 j109)), some (.inr (.inr q110.1))]) dX10_link_32 (by decide) rfl ?_
    refine y_aload (i := 4) dX10_link_34 rfl ?_
    refine y_ifnull (tgt := 54) dX10_link_36 (by decide) (fun hc => ?_) (fun a112 hc => ?_)
    · rw [hc] at hf; rw [hc]; rw [Option.elim_none] at hf
      refine y_bipush (v := 8) dX10_link_54 (by decide) ?_
      obtain rfl := Option.some.inj hf
      exact y_ret (v := some (.inl 8)) dX10_link_56 rfl
    · rw [hc] at hf; rw [hc]; rw [Option.elim_some] at hf
      refine y_aload (i := 4) dX10_link_39 rfl ?_
      replace hf := bnd hf
      obtain ⟨r113, er113, hf⟩ := hf
      refine y_getR er113 fl10_106 dX10_link_41 ?_
      refine y_aload_n (i := 1) dX10_link_44 rfl rfl ?_
      replace hf := bnd hf
      obtain ⟨r114, er114, hf⟩ := hf
      refine y_getR er114 fl10_180 dX10_link_45 ?_
      replace hf := bnd hf
      obtain ⟨a116, rfl, hf⟩ := hf
      replace hf := bnd hf
      obtain ⟨fs117, efs117, hf⟩ := hf
      replace hf := bnd hf
      obtain ⟨q115, eq115, hf⟩ := hf
      refine y_callV (mj := miX8_alike) (args := [.inr (.inr r114)]) (st := []) dX10_link_48 (gd_of 693 rfl rfl) (gd_of 355 rfl rfl) (gd_of 356 rfl rfl) okX8_alike (obO_spec efs117) rfl rfl (xX8_alike (by omega) eq115) (Nat.le_of_ble_eq_true rfl) rfl ?_
      show Y l g miX10_link (d + 1) 51 [some (.inr (.inr (some a0))), some (.inr (.inr (some a102))), some (.inl q104.1), some (.inl (Int64.toInt32 j109)), some (.inr (.inr (some a112)))] [.inl q115.1] q115.2 _
      refine y_if_ne (tgt := 57) dX10_link_51 (by decide) (fun hc => ?_) (fun hc => ?_)
      · rw [if_neg hc] at hf
        refine y_aload_n (i := 1) dX10_link_57 rfl rfl ?_
        refine y_iload_n (i := 3) dX10_link_58 rfl rfl ?_
        replace hf := bnd hf
        obtain ⟨h118, eh118, hf⟩ := hf
        refine y_put eh118 (pl10_181_m rfl) dX10_link_59 ?_
        refine y_iconst (v := 0) dX10_link_62 (by decide) ?_
        obtain rfl := Option.some.inj hf
        exact y_ret (v := some (.inl 0)) dX10_link_63 rfl
      · rw [if_pos hc] at hf
        refine y_bipush (v := 8) dX10_link_54 (by decide) ?_
        obtain rfl := Option.some.inj hf
        exact y_ret (v := some (.inl 8)) dX10_link_56 rfl
  · rw [if_neg hc] at hf
    refine y_iload_n (i := 2) dX10_link_16 rfl rfl ?_
    obtain rfl := Option.some.inj hf
    exact y_ret (v := some (.inl q104.1)) dX10_link_17 rfl
set_option maxRecDepth 100000 in
theorem dX10_siteAt_0 : decode prog_1_method_19_code 0 = .ok (.iload_n 1, 1) := by decide +kernel
set_option maxRecDepth 100000 in
theorem dX10_siteAt_1 : decode prog_1_method_19_code 1 = .ok (.ifCond .lt 20, 3) := by decide +kernel
set_option maxRecDepth 100000 in
theorem dX10_siteAt_4 : decode prog_1_method_19_code 4 = .ok (.iload_n 1, 1) := by decide +kernel
set_option maxRecDepth 100000 in
theorem dX10_siteAt_5 : decode prog_1_method_19_code 5 = .ok (.aload_n 0, 1) := by decide +kernel
set_option maxRecDepth 100000 in
theorem dX10_siteAt_6 : decode prog_1_method_19_code 6 = .ok (.getfield 25, 3) := by decide +kernel
set_option maxRecDepth 100000 in
theorem dX10_siteAt_9 : decode prog_1_method_19_code 9 = .ok (.if_icmp .ge 12, 3) := by decide +kernel
set_option maxRecDepth 100000 in
theorem dX10_siteAt_12 : decode prog_1_method_19_code 12 = .ok (.aload_n 0, 1) := by decide +kernel
set_option maxRecDepth 100000 in
theorem dX10_siteAt_13 : decode prog_1_method_19_code 13 = .ok (.getfield 21, 3) := by decide +kernel
set_option maxRecDepth 100000 in
theorem dX10_siteAt_16 : decode prog_1_method_19_code 16 = .ok (.iload_n 1, 1) := by decide +kernel
set_option maxRecDepth 100000 in
theorem dX10_siteAt_17 : decode prog_1_method_19_code 17 = .ok (.aaload, 1) := by decide +kernel
set_option maxRecDepth 100000 in
theorem dX10_siteAt_18 : decode prog_1_method_19_code 18 = .ok (.goto 4, 3) := by decide +kernel
set_option maxRecDepth 100000 in
theorem dX10_siteAt_21 : decode prog_1_method_19_code 21 = .ok (.aconst_null, 1) := by decide +kernel
set_option maxRecDepth 100000 in
theorem dX10_siteAt_22 : decode prog_1_method_19_code 22 = .ok (.areturn, 1) := by decide +kernel

def fX10_siteAt (z : Nat → Nat) (a0 : Nat) (x1 : Int32) (h : aH) : Option (Option Nat × aH) :=
  (if x1 < 0 then
  some (none, h)
  else
  (rdI h a0 [8] 3).bind fun x101 =>
  (if x101 ≤ x1 then
  some (none, h)
  else
  (rdR h a0 [8] 2).bind fun r102 =>
  (r102).bind fun a103 =>
  (arR h a103 x1).bind fun r104 =>
  some (r104, h)))
set_option maxHeartbeats 4000000 in
set_option maxRecDepth 100000 in
theorem xX10_siteAt {l : Launch} {g : aG} {d : Nat} (hK : 0 ≤ d) {a0 : Nat} {x1 : Int32} {h : aH} {q : Option Nat × aH} (hf : fX10_siteAt g.2.2 a0 x1 h = some q) : Ev l g miX10_siteAt d [.inr (.inr (some a0)), .inl x1] h (some (.inr (.inr q.1)), q.2) := by
  refine ⟨?_, Or.inl ⟨_, rfl⟩, Nat.le_of_ble_eq_true rfl⟩
  unfold fX10_siteAt at hf
  show Y l g miX10_siteAt d 0 [some (.inr (.inr (some a0))), some (.inl x1)] [] h _
  refine y_iload_n (i := 1) dX10_siteAt_0 rfl rfl ?_
  refine y_if_lt (tgt := 21) dX10_siteAt_1 (by decide) (fun hc => ?_) (fun hc => ?_)
  · rw [if_pos hc] at hf
    refine y_null dX10_siteAt_21 ?_
    obtain rfl := Option.some.inj hf
    exact y_ret (v := some (.inr (.inr none))) dX10_siteAt_22 rfl
  · rw [if_neg hc] at hf
    refine y_iload_n (i := 1) dX10_siteAt_4 rfl rfl ?_
    refine y_aload_n (i := 0) dX10_siteAt_5 rfl rfl ?_
    replace hf := bnd hf
    obtain ⟨x101, ex101, hf⟩ := hf
    refine y_getI ex101 fl10_25 dX10_siteAt_6 ?_
    refine y_icmp_ge (tgt := 21) dX10_siteAt_9 (by decide) (fun hc => ?_) (fun hc => ?_)
    · rw [if_pos hc] at hf
      refine y_null dX10_siteAt_21 ?_
      obtain rfl := Option.some.inj hf
      exact y_ret (v := some (.inr (.inr none))) dX10_siteAt_22 rfl
    · rw [if_neg hc] at hf
      refine y_aload_n (i := 0) dX10_siteAt_12 rfl rfl ?_
      replace hf := bnd hf
      obtain ⟨r102, er102, hf⟩ := hf
      refine y_getR er102 fl10_21 dX10_siteAt_13 ?_
      refine y_iload_n (i := 1) dX10_siteAt_16 rfl rfl ?_
      replace hf := bnd hf
      obtain ⟨a103, rfl, hf⟩ := hf
      replace hf := bnd hf
      obtain ⟨r104, er104, hf⟩ := hf
      refine y_aaload er104 dX10_siteAt_17 ?_
      refine y_goto (tgt := 22) dX10_siteAt_18 (by decide) ?_
      obtain rfl := Option.some.inj hf
      exact y_ret (v := some (.inr (.inr r104))) dX10_siteAt_22 rfl
set_option maxRecDepth 100000 in
theorem dX10_linked_0 : decode prog_1_method_13_code 0 = .ok (.aload_n 0, 1) := by decide +kernel
set_option maxRecDepth 100000 in
theorem dX10_linked_1 : decode prog_1_method_13_code 1 = .ok (.iload_n 1, 1) := by decide +kernel
set_option maxRecDepth 100000 in
theorem dX10_linked_2 : decode prog_1_method_13_code 2 = .ok (.invokevirtual 176, 3) := by decide +kernel
set_option maxRecDepth 100000 in
theorem dX10_linked_5 : decode prog_1_method_13_code 5 = .ok (.astore_n 2, 1) := by decide +kernel
set_option maxRecDepth 100000 in
theorem dX10_linked_6 : decode prog_1_method_13_code 6 = .ok (.aload_n 2, 1) := by decide +kernel
set_option maxRecDepth 100000 in
theorem dX10_linked_7 : decode prog_1_method_13_code 7 = .ok (.ifnonnull 8, 3) := by decide +kernel
set_option maxRecDepth 100000 in
theorem dX10_linked_10 : decode prog_1_method_13_code 10 = .ok (.bipush (-2), 2) := by decide +kernel
set_option maxRecDepth 100000 in
theorem dX10_linked_12 : decode prog_1_method_13_code 12 = .ok (.goto 7, 3) := by decide +kernel
set_option maxRecDepth 100000 in
theorem dX10_linked_15 : decode prog_1_method_13_code 15 = .ok (.aload_n 2, 1) := by decide +kernel
set_option maxRecDepth 100000 in
theorem dX10_linked_16 : decode prog_1_method_13_code 16 = .ok (.getfield 181, 3) := by decide +kernel
set_option maxRecDepth 100000 in
theorem dX10_linked_19 : decode prog_1_method_13_code 19 = .ok (.ireturn, 1) := by decide +kernel
set_option maxRecDepth 100000 in
theorem okX10_siteAt : mOk miX10_siteAt 1 := ⟨(gd_of 684 rfl rfl), (gd_of 72 rfl rfl), by decide +kernel, ⟨by decide +kernel, by decide +kernel, by decide +kernel⟩, by decide⟩
def fX10_linked (z : Nat → Nat) (a0 : Nat) (x1 : Int32) (h : aH) : Option (Int32 × aH) :=
  (obO h a0 8).bind fun fs102 =>
  (fX10_siteAt z a0 x1 h).bind fun q101 =>
  (Option.elim q101.1
  (some ((-2), q101.2))
  fun a103 =>
  (rdI q101.2 a103 [5] 2).bind fun x104 =>
  some (x104, q101.2))
set_option maxHeartbeats 4000000 in
set_option maxRecDepth 100000 in
theorem xX10_linked {l : Launch} {g : aG} {d : Nat} (hK : 1 ≤ d) {a0 : Nat} {x1 : Int32} {h : aH} {q : Int32 × aH} (hf : fX10_linked g.2.2 a0 x1 h = some q) : Ev l g miX10_linked d [.inr (.inr (some a0)), .inl x1] h (some (.inl q.1), q.2) := by
  obtain ⟨d, rfl⟩ : ∃ e, d = e + 1 := ⟨d - 1, by omega⟩
  refine ⟨?_, Or.inl rfl, Nat.le_of_ble_eq_true rfl⟩
  unfold fX10_linked at hf
  show Y l g miX10_linked (d + 1) 0 [some (.inr (.inr (some a0))), some (.inl x1), none] [] h _
  refine y_aload_n (i := 0) dX10_linked_0 rfl rfl ?_
  refine y_iload_n (i := 1) dX10_linked_1 rfl rfl ?_
  replace hf := bnd hf
  obtain ⟨fs102, efs102, hf⟩ := hf
  replace hf := bnd hf
  obtain ⟨q101, eq101, hf⟩ := hf
  refine y_callV (mj := miX10_siteAt) (args := [.inl x1]) (st := []) dX10_linked_2 (gd_of 681 rfl rfl) (gd_of 683 rfl rfl) (gd_of 33 rfl rfl) okX10_siteAt (obO_spec efs102) rfl rfl (xX10_siteAt (by omega) eq101) (Nat.le_of_ble_eq_true rfl) rfl ?_
  show Y l g miX10_linked (d + 1) 5 [some (.inr (.inr (some a0))), some (.inl x1), none] [.inr (.inr q101.1)] q101.2 _
  refine y_astore_n (i := 2) (lv2 := [some (.inr (.inr (some a0))), some (.inl x1), some (.inr (.inr q101.1))]) dX10_linked_5 rfl (by decide) rfl ?_
  refine y_aload_n (i := 2) dX10_linked_6 rfl rfl ?_
  refine y_ifnonnull (tgt := 15) dX10_linked_7 (by decide) (fun hc => ?_) (fun a103 hc => ?_)
  · rw [hc] at hf; rw [hc]; rw [Option.elim_none] at hf
    refine y_bipush (v := (-2)) dX10_linked_10 (by decide) ?_
    refine y_goto (tgt := 19) dX10_linked_12 (by decide) ?_
    obtain rfl := Option.some.inj hf
    exact y_ret (v := some (.inl (-2))) dX10_linked_19 rfl
  · rw [hc] at hf; rw [hc]; rw [Option.elim_some] at hf
    refine y_aload_n (i := 2) dX10_linked_15 rfl rfl ?_
    replace hf := bnd hf
    obtain ⟨x104, ex104, hf⟩ := hf
    refine y_getI ex104 fl10_181 dX10_linked_16 ?_
    obtain rfl := Option.some.inj hf
    exact y_ret (v := some (.inl x104)) dX10_linked_19 rfl
set_option maxRecDepth 100000 in
theorem dX1_init_0 : decode prog_3_method_1_code 0 = .ok (.aload_n 0, 1) := by decide +kernel
set_option maxRecDepth 100000 in
theorem dX1_init_1 : decode prog_3_method_1_code 1 = .ok (.invokespecial 1, 3) := by decide +kernel
set_option maxRecDepth 100000 in
theorem dX1_init_4 : decode prog_3_method_1_code 4 = .ok (.aload_n 0, 1) := by decide +kernel
set_option maxRecDepth 100000 in
theorem dX1_init_5 : decode prog_3_method_1_code 5 = .ok (.iload_n 1, 1) := by decide +kernel
set_option maxRecDepth 100000 in
theorem dX1_init_6 : decode prog_3_method_1_code 6 = .ok (.putfield 7, 3) := by decide +kernel
set_option maxRecDepth 100000 in
theorem dX1_init_9 : decode prog_3_method_1_code 9 = .ok (.aload_n 0, 1) := by decide +kernel
set_option maxRecDepth 100000 in
theorem dX1_init_10 : decode prog_3_method_1_code 10 = .ok (.aload_n 2, 1) := by decide +kernel
set_option maxRecDepth 100000 in
theorem dX1_init_11 : decode prog_3_method_1_code 11 = .ok (.putfield 13, 3) := by decide +kernel
set_option maxRecDepth 100000 in
theorem dX1_init_14 : decode prog_3_method_1_code 14 = .ok (.aload_n 0, 1) := by decide +kernel
set_option maxRecDepth 100000 in
theorem dX1_init_15 : decode prog_3_method_1_code 15 = .ok (.iload_n 3, 1) := by decide +kernel
set_option maxRecDepth 100000 in
theorem dX1_init_16 : decode prog_3_method_1_code 16 = .ok (.putfield 17, 3) := by decide +kernel
set_option maxRecDepth 100000 in
theorem dX1_init_19 : decode prog_3_method_1_code 19 = .ok (.return_, 1) := by decide +kernel
set_option maxRecDepth 100000 in
theorem fl1_7 : ∀ c ∈ ([0, 1] : List Nat), FL "HandleModels$Handle" 7 c 0 := fun c hc => by
  simp only [List.mem_cons, List.not_mem_nil, or_false] at hc
  rcases hc with rfl | rfl
  · exact ⟨_, "HandleModels$Handle", rfl, by decide, (gd_of 236 rfl rfl), Or.inl rfl⟩
  · exact ⟨_, "HandleModels$Handle", rfl, by decide, (gd_of 236 rfl rfl), Or.inl rfl⟩
set_option maxRecDepth 100000 in
theorem pl1_7_i {mi : aM} {x : Int32} (ho : "HandleModels$Handle" = mi.1.cls) (hn : mi.1.name = "<init>") (hc : "HandleModels$Handle" = mi.1.cls) : ∀ c ∈ ([0, 1] : List Nat), FL mi.1.cls 7 c 0 ∧ FT c 0 (.inl x) ∧ FW mi c 0 := fun c h9 => by
  have h8 := fl1_7 c h9
  rw [← ho]
  refine ⟨h8, ?_⟩
  simp only [List.mem_cons, List.not_mem_nil, or_false] at h9
  rcases h9 with rfl | rfl
  · exact ⟨ft_int rfl (by decide +kernel), ⟨_, rfl, Or.inr ⟨rfl, hn, hc⟩⟩⟩
  · exact ⟨ft_int rfl (by decide +kernel), ⟨_, rfl, Or.inr ⟨rfl, hn, hc⟩⟩⟩
set_option maxRecDepth 100000 in
theorem fl1_13 : ∀ c ∈ ([0, 1] : List Nat), FL "HandleModels$Handle" 13 c 1 := fun c hc => by
  simp only [List.mem_cons, List.not_mem_nil, or_false] at hc
  rcases hc with rfl | rfl
  · exact ⟨_, "HandleModels$Handle", rfl, by decide, (gd_of 240 rfl rfl), Or.inl rfl⟩
  · exact ⟨_, "HandleModels$Handle", rfl, by decide, (gd_of 240 rfl rfl), Or.inl rfl⟩
set_option maxRecDepth 100000 in
theorem pl1_13_i {mi : aM} {x : Option Nat} (ho : "HandleModels$Handle" = mi.1.cls) (hn : mi.1.name = "<init>") (hc : "HandleModels$Handle" = mi.1.cls) : ∀ c ∈ ([0, 1] : List Nat), FL mi.1.cls 13 c 1 ∧ FT c 1 (.inr (.inr x)) ∧ FW mi c 1 := fun c h9 => by
  have h8 := fl1_13 c h9
  rw [← ho]
  refine ⟨h8, ?_⟩
  simp only [List.mem_cons, List.not_mem_nil, or_false] at h9
  rcases h9 with rfl | rfl
  · exact ⟨ft_obj (n := "HandleModels$Types") rfl (by decide +kernel), ⟨_, rfl, Or.inr ⟨rfl, hn, hc⟩⟩⟩
  · exact ⟨ft_obj (n := "HandleModels$Types") rfl (by decide +kernel), ⟨_, rfl, Or.inr ⟨rfl, hn, hc⟩⟩⟩
set_option maxRecDepth 100000 in
theorem fl1_17 : ∀ c ∈ ([0, 1] : List Nat), FL "HandleModels$Handle" 17 c 2 := fun c hc => by
  simp only [List.mem_cons, List.not_mem_nil, or_false] at hc
  rcases hc with rfl | rfl
  · exact ⟨_, "HandleModels$Handle", rfl, by decide, (gd_of 246 rfl rfl), Or.inl rfl⟩
  · exact ⟨_, "HandleModels$Handle", rfl, by decide, (gd_of 246 rfl rfl), Or.inl rfl⟩
set_option maxRecDepth 100000 in
theorem pl1_17_i {mi : aM} {x : Int32} (ho : "HandleModels$Handle" = mi.1.cls) (hn : mi.1.name = "<init>") (hc : "HandleModels$Handle" = mi.1.cls) : ∀ c ∈ ([0, 1] : List Nat), FL mi.1.cls 17 c 2 ∧ FT c 2 (.inl x) ∧ FW mi c 2 := fun c h9 => by
  have h8 := fl1_17 c h9
  rw [← ho]
  refine ⟨h8, ?_⟩
  simp only [List.mem_cons, List.not_mem_nil, or_false] at h9
  rcases h9 with rfl | rfl
  · exact ⟨ft_int rfl (by decide +kernel), ⟨_, rfl, Or.inr ⟨rfl, hn, hc⟩⟩⟩
  · exact ⟨ft_int rfl (by decide +kernel), ⟨_, rfl, Or.inr ⟨rfl, hn, hc⟩⟩⟩
def fX1_init (z : Nat → Nat) (a0 : Nat) (x1 : Int32) (r2 : Option Nat) (x3 : Int32) (h : aH) : Option aH :=
  (wrF h a0 [0, 1] 0 (.inl x1)).bind fun h101 =>
  (wrF h101 a0 [0, 1] 1 (.inr (.inr r2))).bind fun h102 =>
  (wrF h102 a0 [0, 1] 2 (.inl x3)).bind fun h103 =>
  some h103
set_option maxHeartbeats 4000000 in
set_option maxRecDepth 100000 in
theorem xX1_init {l : Launch} {g : aG} {d : Nat} (hK : 1 ≤ d) {a0 : Nat} {x1 : Int32} {r2 : Option Nat} {x3 : Int32} {h : aH} {q : aH} (hf : fX1_init g.2.2 a0 x1 r2 x3 h = some q) : Ev l g miX1_init d [.inr (.inr (some a0)), .inl x1, .inr (.inr r2), .inl x3] h (none, q) := by
  obtain ⟨d, rfl⟩ : ∃ e, d = e + 1 := ⟨d - 1, by omega⟩
  refine ⟨?_, rfl, Nat.le_of_ble_eq_true rfl⟩
  unfold fX1_init at hf
  show Y l g miX1_init (d + 1) 0 [some (.inr (.inr (some a0))), some (.inl x1), some (.inr (.inr r2)), some (.inl x3)] [] h _
  refine y_aload_n (i := 0) dX1_init_0 rfl rfl ?_
  refine y_obj dX1_init_1 (gd_of 235 rfl rfl) (gd_of 92 rfl rfl) (gd_of 93 rfl rfl) (by simp) (Nat.le_of_ble_eq_true rfl) ?_
  refine y_aload_n (i := 0) dX1_init_4 rfl rfl ?_
  refine y_iload_n (i := 1) dX1_init_5 rfl rfl ?_
  replace hf := bnd hf
  obtain ⟨h101, eh101, hf⟩ := hf
  refine y_put eh101 (pl1_7_i rfl rfl rfl) dX1_init_6 ?_
  refine y_aload_n (i := 0) dX1_init_9 rfl rfl ?_
  refine y_aload_n (i := 2) dX1_init_10 rfl rfl ?_
  replace hf := bnd hf
  obtain ⟨h102, eh102, hf⟩ := hf
  refine y_put eh102 (pl1_13_i rfl rfl rfl) dX1_init_11 ?_
  refine y_aload_n (i := 0) dX1_init_14 rfl rfl ?_
  refine y_iload_n (i := 3) dX1_init_15 rfl rfl ?_
  replace hf := bnd hf
  obtain ⟨h103, eh103, hf⟩ := hf
  refine y_put eh103 (pl1_17_i rfl rfl rfl) dX1_init_16 ?_
  obtain rfl := Option.some.inj hf
  exact y_ret (v := none) dX1_init_19 rfl
set_option maxRecDepth 100000 in
theorem dX2_init_0 : decode prog_4_method_1_code 0 = .ok (.aload_n 0, 1) := by decide +kernel
set_option maxRecDepth 100000 in
theorem dX2_init_1 : decode prog_4_method_1_code 1 = .ok (.aload_n 1, 1) := by decide +kernel
set_option maxRecDepth 100000 in
theorem dX2_init_2 : decode prog_4_method_1_code 2 = .ok (.getfield 3, 3) := by decide +kernel
set_option maxRecDepth 100000 in
theorem dX2_init_5 : decode prog_4_method_1_code 5 = .ok (.aload_n 2, 1) := by decide +kernel
set_option maxRecDepth 100000 in
theorem dX2_init_6 : decode prog_4_method_1_code 6 = .ok (.aload_n 1, 1) := by decide +kernel
set_option maxRecDepth 100000 in
theorem dX2_init_7 : decode prog_4_method_1_code 7 = .ok (.getfield 9, 3) := by decide +kernel
set_option maxRecDepth 100000 in
theorem dX2_init_10 : decode prog_4_method_1_code 10 = .ok (.invokespecial 12, 3) := by decide +kernel
set_option maxRecDepth 100000 in
theorem dX2_init_13 : decode prog_4_method_1_code 13 = .ok (.aload_n 0, 1) := by decide +kernel
set_option maxRecDepth 100000 in
theorem dX2_init_14 : decode prog_4_method_1_code 14 = .ok (.iconst 3, 1) := by decide +kernel
set_option maxRecDepth 100000 in
theorem dX2_init_15 : decode prog_4_method_1_code 15 = .ok (.putfield 18, 3) := by decide +kernel
set_option maxRecDepth 100000 in
theorem dX2_init_18 : decode prog_4_method_1_code 18 = .ok (.aload_n 0, 1) := by decide +kernel
set_option maxRecDepth 100000 in
theorem dX2_init_19 : decode prog_4_method_1_code 19 = .ok (.lconst 0, 1) := by decide +kernel
set_option maxRecDepth 100000 in
theorem dX2_init_20 : decode prog_4_method_1_code 20 = .ok (.putfield 23, 3) := by decide +kernel
set_option maxRecDepth 100000 in
theorem dX2_init_23 : decode prog_4_method_1_code 23 = .ok (.aload_n 0, 1) := by decide +kernel
set_option maxRecDepth 100000 in
theorem dX2_init_24 : decode prog_4_method_1_code 24 = .ok (.aload_n 1, 1) := by decide +kernel
set_option maxRecDepth 100000 in
theorem dX2_init_25 : decode prog_4_method_1_code 25 = .ok (.putfield 27, 3) := by decide +kernel
set_option maxRecDepth 100000 in
theorem dX2_init_28 : decode prog_4_method_1_code 28 = .ok (.return_, 1) := by decide +kernel
set_option maxRecDepth 100000 in
theorem fl2_3 : ∀ c ∈ ([2] : List Nat), FL "HandleModels$Other" 3 c 0 := fun c hc => by
  cases List.mem_singleton.mp hc
  exact ⟨_, "HandleModels$Parts", rfl, by decide, (gd_of 279 rfl rfl), Or.inl rfl⟩
set_option maxRecDepth 100000 in
theorem fl2_9 : ∀ c ∈ ([2] : List Nat), FL "HandleModels$Other" 9 c 5 := fun c hc => by
  cases List.mem_singleton.mp hc
  exact ⟨_, "HandleModels$Parts", rfl, by decide, (gd_of 294 rfl rfl), Or.inl rfl⟩
set_option maxRecDepth 100000 in
theorem okX1_init : mOk miX1_init 3 := ⟨(gd_of 234 rfl rfl), (gd_of 78 rfl rfl), by decide +kernel, ⟨by decide +kernel, by decide +kernel, by decide +kernel⟩, by decide⟩
set_option maxRecDepth 100000 in
theorem pl2_18_i {mi : aM} {x : Int32} (ho : "HandleModels$Other" = mi.1.cls) : ∀ c ∈ ([1] : List Nat), FL mi.1.cls 18 c 4 ∧ FT c 4 (.inl x) ∧ FW mi c 4 := fun c h9 => by
  have h8 := fl2_18 c h9
  rw [← ho]
  refine ⟨h8, ?_⟩
  simp only [List.mem_cons, List.not_mem_nil, or_false] at h9
  rcases h9 with rfl
  · exact ⟨ft_int rfl (by decide +kernel), ⟨_, rfl, Or.inl rfl⟩⟩
set_option maxRecDepth 100000 in
theorem pl2_23_i {mi : aM} {x : Int64} (ho : "HandleModels$Other" = mi.1.cls) : ∀ c ∈ ([1] : List Nat), FL mi.1.cls 23 c 5 ∧ FT c 5 (.inr (.inl x)) ∧ FW mi c 5 := fun c h9 => by
  have h8 := fl2_23 c h9
  rw [← ho]
  refine ⟨h8, ?_⟩
  simp only [List.mem_cons, List.not_mem_nil, or_false] at h9
  rcases h9 with rfl
  · exact ⟨ft_long rfl (by decide +kernel), ⟨_, rfl, Or.inl rfl⟩⟩
set_option maxRecDepth 100000 in
theorem fl2_27 : ∀ c ∈ ([1] : List Nat), FL "HandleModels$Other" 27 c 3 := fun c hc => by
  cases List.mem_singleton.mp hc
  exact ⟨_, "HandleModels$Other", rfl, by decide, (gd_of 403 rfl rfl), Or.inl rfl⟩
set_option maxRecDepth 100000 in
theorem pl2_27_i {mi : aM} {x : Option Nat} (ho : "HandleModels$Other" = mi.1.cls) (hn : mi.1.name = "<init>") (hc : "HandleModels$Other" = mi.1.cls) : ∀ c ∈ ([1] : List Nat), FL mi.1.cls 27 c 3 ∧ FT c 3 (.inr (.inr x)) ∧ FW mi c 3 := fun c h9 => by
  have h8 := fl2_27 c h9
  rw [← ho]
  refine ⟨h8, ?_⟩
  simp only [List.mem_cons, List.not_mem_nil, or_false] at h9
  rcases h9 with rfl
  · exact ⟨ft_obj (n := "HandleModels$Parts") rfl (by decide +kernel), ⟨_, rfl, Or.inr ⟨rfl, hn, hc⟩⟩⟩
def fX2_init (z : Nat → Nat) (a0 : Nat) (r1 : Option Nat) (r2 : Option Nat) (h : aH) : Option aH :=
  (r1).bind fun a101 =>
  (rdI h a101 [2] 0).bind fun x102 =>
  (rdI h a101 [2] 5).bind fun x103 =>
  (fX1_init z a0 x102 r2 x103 h).bind fun q104 =>
  (wrF q104 a0 [1] 4 (.inl 3)).bind fun h105 =>
  (wrF h105 a0 [1] 5 (.inr (.inl 0))).bind fun h106 =>
  (wrF h106 a0 [1] 3 (.inr (.inr (some a101)))).bind fun h107 =>
  some h107
set_option maxHeartbeats 4000000 in
set_option maxRecDepth 100000 in
theorem xX2_init {l : Launch} {g : aG} {d : Nat} (hK : 2 ≤ d) {a0 : Nat} {r1 : Option Nat} {r2 : Option Nat} {h : aH} {q : aH} (hf : fX2_init g.2.2 a0 r1 r2 h = some q) : Ev l g miX2_init d [.inr (.inr (some a0)), .inr (.inr r1), .inr (.inr r2)] h (none, q) := by
  obtain ⟨d, rfl⟩ : ∃ e, d = e + 1 := ⟨d - 1, by omega⟩
  refine ⟨?_, rfl, Nat.le_of_ble_eq_true rfl⟩
  unfold fX2_init at hf
  show Y l g miX2_init (d + 1) 0 [some (.inr (.inr (some a0))), some (.inr (.inr r1)), some (.inr (.inr r2))] [] h _
  refine y_aload_n (i := 0) dX2_init_0 rfl rfl ?_
  refine y_aload_n (i := 1) dX2_init_1 rfl rfl ?_
  replace hf := bnd hf
  obtain ⟨a101, rfl, hf⟩ := hf
  replace hf := bnd hf
  obtain ⟨x102, ex102, hf⟩ := hf
  refine y_getI ex102 fl2_3 dX2_init_2 ?_
  refine y_aload_n (i := 2) dX2_init_5 rfl rfl ?_
  refine y_aload_n (i := 1) dX2_init_6 rfl rfl ?_
  replace hf := bnd hf
  obtain ⟨x103, ex103, hf⟩ := hf
  refine y_getI ex103 fl2_9 dX2_init_7 ?_
  replace hf := bnd hf
  obtain ⟨q104, eq104, hf⟩ := hf
  refine y_callI (mj := miX1_init) (args := [.inl x102, .inr (.inr r2), .inl x103]) (st := []) dX2_init_10 (Or.inl (gd_of 402 rfl rfl)) (gd_of 233 rfl rfl) rfl rfl okX1_init (xX1_init (by omega) eq104) (Nat.le_of_ble_eq_true rfl) rfl ?_
  show Y l g miX2_init (d + 1) 13 [some (.inr (.inr (some a0))), some (.inr (.inr (some a101))), some (.inr (.inr r2))] [] q104 _
  refine y_aload_n (i := 0) dX2_init_13 rfl rfl ?_
  refine y_iconst (v := 3) dX2_init_14 (by decide) ?_
  replace hf := bnd hf
  obtain ⟨h105, eh105, hf⟩ := hf
  refine y_put eh105 (pl2_18_i rfl) dX2_init_15 ?_
  refine y_aload_n (i := 0) dX2_init_18 rfl rfl ?_
  refine y_lconst (v := 0) dX2_init_19 (by decide) ?_
  replace hf := bnd hf
  obtain ⟨h106, eh106, hf⟩ := hf
  refine y_put eh106 (pl2_23_i rfl) dX2_init_20 ?_
  refine y_aload_n (i := 0) dX2_init_23 rfl rfl ?_
  refine y_aload_n (i := 1) dX2_init_24 rfl rfl ?_
  replace hf := bnd hf
  obtain ⟨h107, eh107, hf⟩ := hf
  refine y_put eh107 (pl2_27_i rfl rfl rfl) dX2_init_25 ?_
  obtain rfl := Option.some.inj hf
  exact y_ret (v := none) dX2_init_28 rfl
set_option maxRecDepth 100000 in
theorem dX3_init_0 : decode prog_5_method_1_code 0 = .ok (.aload_n 0, 1) := by decide +kernel
set_option maxRecDepth 100000 in
theorem dX3_init_1 : decode prog_5_method_1_code 1 = .ok (.invokespecial 1, 3) := by decide +kernel
set_option maxRecDepth 100000 in
theorem dX3_init_4 : decode prog_5_method_1_code 4 = .ok (.aload_n 0, 1) := by decide +kernel
set_option maxRecDepth 100000 in
theorem dX3_init_5 : decode prog_5_method_1_code 5 = .ok (.iload_n 1, 1) := by decide +kernel
set_option maxRecDepth 100000 in
theorem dX3_init_6 : decode prog_5_method_1_code 6 = .ok (.putfield 7, 3) := by decide +kernel
set_option maxRecDepth 100000 in
theorem dX3_init_9 : decode prog_5_method_1_code 9 = .ok (.aload_n 0, 1) := by decide +kernel
set_option maxRecDepth 100000 in
theorem dX3_init_10 : decode prog_5_method_1_code 10 = .ok (.aload_n 2, 1) := by decide +kernel
set_option maxRecDepth 100000 in
theorem dX3_init_11 : decode prog_5_method_1_code 11 = .ok (.putfield 13, 3) := by decide +kernel
set_option maxRecDepth 100000 in
theorem dX3_init_14 : decode prog_5_method_1_code 14 = .ok (.aload_n 0, 1) := by decide +kernel
set_option maxRecDepth 100000 in
theorem dX3_init_15 : decode prog_5_method_1_code 15 = .ok (.aload_n 3, 1) := by decide +kernel
set_option maxRecDepth 100000 in
theorem dX3_init_16 : decode prog_5_method_1_code 16 = .ok (.putfield 17, 3) := by decide +kernel
set_option maxRecDepth 100000 in
theorem dX3_init_19 : decode prog_5_method_1_code 19 = .ok (.aload_n 0, 1) := by decide +kernel
set_option maxRecDepth 100000 in
theorem dX3_init_20 : decode prog_5_method_1_code 20 = .ok (.aload 4, 2) := by decide +kernel
set_option maxRecDepth 100000 in
theorem dX3_init_22 : decode prog_5_method_1_code 22 = .ok (.putfield 20, 3) := by decide +kernel
set_option maxRecDepth 100000 in
theorem dX3_init_25 : decode prog_5_method_1_code 25 = .ok (.aload_n 0, 1) := by decide +kernel
set_option maxRecDepth 100000 in
theorem dX3_init_26 : decode prog_5_method_1_code 26 = .ok (.iload 5, 2) := by decide +kernel
set_option maxRecDepth 100000 in
theorem dX3_init_28 : decode prog_5_method_1_code 28 = .ok (.putfield 23, 3) := by decide +kernel
set_option maxRecDepth 100000 in
theorem dX3_init_31 : decode prog_5_method_1_code 31 = .ok (.aload_n 0, 1) := by decide +kernel
set_option maxRecDepth 100000 in
theorem dX3_init_32 : decode prog_5_method_1_code 32 = .ok (.iload 6, 2) := by decide +kernel
set_option maxRecDepth 100000 in
theorem dX3_init_34 : decode prog_5_method_1_code 34 = .ok (.putfield 26, 3) := by decide +kernel
set_option maxRecDepth 100000 in
theorem dX3_init_37 : decode prog_5_method_1_code 37 = .ok (.return_, 1) := by decide +kernel
set_option maxRecDepth 100000 in
theorem fl3_7 : ∀ c ∈ ([2] : List Nat), FL "HandleModels$Parts" 7 c 0 := fun c hc => by
  cases List.mem_singleton.mp hc
  exact ⟨_, "HandleModels$Parts", rfl, by decide, (gd_of 280 rfl rfl), Or.inl rfl⟩
set_option maxRecDepth 100000 in
theorem pl3_7_i {mi : aM} {x : Int32} (ho : "HandleModels$Parts" = mi.1.cls) (hn : mi.1.name = "<init>") (hc : "HandleModels$Parts" = mi.1.cls) : ∀ c ∈ ([2] : List Nat), FL mi.1.cls 7 c 0 ∧ FT c 0 (.inl x) ∧ FW mi c 0 := fun c h9 => by
  have h8 := fl3_7 c h9
  rw [← ho]
  refine ⟨h8, ?_⟩
  simp only [List.mem_cons, List.not_mem_nil, or_false] at h9
  rcases h9 with rfl
  · exact ⟨ft_int rfl (by decide +kernel), ⟨_, rfl, Or.inr ⟨rfl, hn, hc⟩⟩⟩
set_option maxRecDepth 100000 in
theorem fl3_13 : ∀ c ∈ ([2] : List Nat), FL "HandleModels$Parts" 13 c 1 := fun c hc => by
  cases List.mem_singleton.mp hc
  exact ⟨_, "HandleModels$Parts", rfl, by decide, (gd_of 282 rfl rfl), Or.inl rfl⟩
set_option maxRecDepth 100000 in
theorem pl3_13_i {mi : aM} {x : Option Nat} (ho : "HandleModels$Parts" = mi.1.cls) (hn : mi.1.name = "<init>") (hc : "HandleModels$Parts" = mi.1.cls) : ∀ c ∈ ([2] : List Nat), FL mi.1.cls 13 c 1 ∧ FT c 1 (.inr (.inr x)) ∧ FW mi c 1 := fun c h9 => by
  have h8 := fl3_13 c h9
  rw [← ho]
  refine ⟨h8, ?_⟩
  simp only [List.mem_cons, List.not_mem_nil, or_false] at h9
  rcases h9 with rfl
  · exact ⟨ft_obj (n := "HandleModels$Handle") rfl (by decide +kernel), ⟨_, rfl, Or.inr ⟨rfl, hn, hc⟩⟩⟩
set_option maxRecDepth 100000 in
theorem fl3_17 : ∀ c ∈ ([2] : List Nat), FL "HandleModels$Parts" 17 c 2 := fun c hc => by
  cases List.mem_singleton.mp hc
  exact ⟨_, "HandleModels$Parts", rfl, by decide, (gd_of 285 rfl rfl), Or.inl rfl⟩
set_option maxRecDepth 100000 in
theorem pl3_17_i {mi : aM} {x : Option Nat} (ho : "HandleModels$Parts" = mi.1.cls) (hn : mi.1.name = "<init>") (hc : "HandleModels$Parts" = mi.1.cls) : ∀ c ∈ ([2] : List Nat), FL mi.1.cls 17 c 2 ∧ FT c 2 (.inr (.inr x)) ∧ FW mi c 2 := fun c h9 => by
  have h8 := fl3_17 c h9
  rw [← ho]
  refine ⟨h8, ?_⟩
  simp only [List.mem_cons, List.not_mem_nil, or_false] at h9
  rcases h9 with rfl
  · exact ⟨ft_obj (n := "HandleModels$Handle") rfl (by decide +kernel), ⟨_, rfl, Or.inr ⟨rfl, hn, hc⟩⟩⟩
set_option maxRecDepth 100000 in
theorem fl3_20 : ∀ c ∈ ([2] : List Nat), FL "HandleModels$Parts" 20 c 3 := fun c hc => by
  cases List.mem_singleton.mp hc
  exact ⟨_, "HandleModels$Parts", rfl, by decide, (gd_of 288 rfl rfl), Or.inl rfl⟩
set_option maxRecDepth 100000 in
theorem pl3_20_i {mi : aM} {x : Option Nat} (ho : "HandleModels$Parts" = mi.1.cls) (hn : mi.1.name = "<init>") (hc : "HandleModels$Parts" = mi.1.cls) : ∀ c ∈ ([2] : List Nat), FL mi.1.cls 20 c 3 ∧ FT c 3 (.inr (.inr x)) ∧ FW mi c 3 := fun c h9 => by
  have h8 := fl3_20 c h9
  rw [← ho]
  refine ⟨h8, ?_⟩
  simp only [List.mem_cons, List.not_mem_nil, or_false] at h9
  rcases h9 with rfl
  · exact ⟨ft_obj (n := "HandleModels$Handle") rfl (by decide +kernel), ⟨_, rfl, Or.inr ⟨rfl, hn, hc⟩⟩⟩
set_option maxRecDepth 100000 in
theorem fl3_23 : ∀ c ∈ ([2] : List Nat), FL "HandleModels$Parts" 23 c 4 := fun c hc => by
  cases List.mem_singleton.mp hc
  exact ⟨_, "HandleModels$Parts", rfl, by decide, (gd_of 291 rfl rfl), Or.inl rfl⟩
set_option maxRecDepth 100000 in
theorem pl3_23_i {mi : aM} {x : Int32} (ho : "HandleModels$Parts" = mi.1.cls) (hn : mi.1.name = "<init>") (hc : "HandleModels$Parts" = mi.1.cls) : ∀ c ∈ ([2] : List Nat), FL mi.1.cls 23 c 4 ∧ FT c 4 (.inl x) ∧ FW mi c 4 := fun c h9 => by
  have h8 := fl3_23 c h9
  rw [← ho]
  refine ⟨h8, ?_⟩
  simp only [List.mem_cons, List.not_mem_nil, or_false] at h9
  rcases h9 with rfl
  · exact ⟨ft_int rfl (by decide +kernel), ⟨_, rfl, Or.inr ⟨rfl, hn, hc⟩⟩⟩
set_option maxRecDepth 100000 in
theorem fl3_26 : ∀ c ∈ ([2] : List Nat), FL "HandleModels$Parts" 26 c 5 := fun c hc => by
  cases List.mem_singleton.mp hc
  exact ⟨_, "HandleModels$Parts", rfl, by decide, (gd_of 295 rfl rfl), Or.inl rfl⟩
set_option maxRecDepth 100000 in
theorem pl3_26_i {mi : aM} {x : Int32} (ho : "HandleModels$Parts" = mi.1.cls) (hn : mi.1.name = "<init>") (hc : "HandleModels$Parts" = mi.1.cls) : ∀ c ∈ ([2] : List Nat), FL mi.1.cls 26 c 5 ∧ FT c 5 (.inl x) ∧ FW mi c 5 := fun c h9 => by
  have h8 := fl3_26 c h9
  rw [← ho]
  refine ⟨h8, ?_⟩
  simp only [List.mem_cons, List.not_mem_nil, or_false] at h9
  rcases h9 with rfl
  · exact ⟨ft_int rfl (by decide +kernel), ⟨_, rfl, Or.inr ⟨rfl, hn, hc⟩⟩⟩
def fX3_init (z : Nat → Nat) (a0 : Nat) (x1 : Int32) (r2 : Option Nat) (r3 : Option Nat) (r4 : Option Nat) (x5 : Int32) (x6 : Int32) (h : aH) : Option aH :=
  (wrF h a0 [2] 0 (.inl x1)).bind fun h101 =>
  (wrF h101 a0 [2] 1 (.inr (.inr r2))).bind fun h102 =>
  (wrF h102 a0 [2] 2 (.inr (.inr r3))).bind fun h103 =>
  (wrF h103 a0 [2] 3 (.inr (.inr r4))).bind fun h104 =>
  (wrF h104 a0 [2] 4 (.inl x5)).bind fun h105 =>
  (wrF h105 a0 [2] 5 (.inl x6)).bind fun h106 =>
  some h106
set_option maxHeartbeats 4000000 in
set_option maxRecDepth 100000 in
theorem xX3_init {l : Launch} {g : aG} {d : Nat} (hK : 1 ≤ d) {a0 : Nat} {x1 : Int32} {r2 : Option Nat} {r3 : Option Nat} {r4 : Option Nat} {x5 : Int32} {x6 : Int32} {h : aH} {q : aH} (hf : fX3_init g.2.2 a0 x1 r2 r3 r4 x5 x6 h = some q) : Ev l g miX3_init d [.inr (.inr (some a0)), .inl x1, .inr (.inr r2), .inr (.inr r3), .inr (.inr r4), .inl x5, .inl x6] h (none, q) := by
  obtain ⟨d, rfl⟩ : ∃ e, d = e + 1 := ⟨d - 1, by omega⟩
  refine ⟨?_, rfl, Nat.le_of_ble_eq_true rfl⟩
  unfold fX3_init at hf
  show Y l g miX3_init (d + 1) 0 [some (.inr (.inr (some a0))), some (.inl x1), some (.inr (.inr r2)), some (.inr (.inr r3)), some (.inr (.inr r4)), some (.inl x5), some (.inl x6)] [] h _
  refine y_aload_n (i := 0) dX3_init_0 rfl rfl ?_
  refine y_obj dX3_init_1 (gd_of 278 rfl rfl) (gd_of 92 rfl rfl) (gd_of 93 rfl rfl) (by simp) (Nat.le_of_ble_eq_true rfl) ?_
  refine y_aload_n (i := 0) dX3_init_4 rfl rfl ?_
  refine y_iload_n (i := 1) dX3_init_5 rfl rfl ?_
  replace hf := bnd hf
  obtain ⟨h101, eh101, hf⟩ := hf
  refine y_put eh101 (pl3_7_i rfl rfl rfl) dX3_init_6 ?_
  refine y_aload_n (i := 0) dX3_init_9 rfl rfl ?_
  refine y_aload_n (i := 2) dX3_init_10 rfl rfl ?_
  replace hf := bnd hf
  obtain ⟨h102, eh102, hf⟩ := hf
  refine y_put eh102 (pl3_13_i rfl rfl rfl) dX3_init_11 ?_
  refine y_aload_n (i := 0) dX3_init_14 rfl rfl ?_
  refine y_aload_n (i := 3) dX3_init_15 rfl rfl ?_
  replace hf := bnd hf
  obtain ⟨h103, eh103, hf⟩ := hf
  refine y_put eh103 (pl3_17_i rfl rfl rfl) dX3_init_16 ?_
  refine y_aload_n (i := 0) dX3_init_19 rfl rfl ?_
  refine y_aload (i := 4) dX3_init_20 rfl ?_
  replace hf := bnd hf
  obtain ⟨h104, eh104, hf⟩ := hf
  refine y_put eh104 (pl3_20_i rfl rfl rfl) dX3_init_22 ?_
  refine y_aload_n (i := 0) dX3_init_25 rfl rfl ?_
  refine y_iload (i := 5) dX3_init_26 rfl ?_
  replace hf := bnd hf
  obtain ⟨h105, eh105, hf⟩ := hf
  refine y_put eh105 (pl3_23_i rfl rfl rfl) dX3_init_28 ?_
  refine y_aload_n (i := 0) dX3_init_31 rfl rfl ?_
  refine y_iload (i := 6) dX3_init_32 rfl ?_
  replace hf := bnd hf
  obtain ⟨h106, eh106, hf⟩ := hf
  refine y_put eh106 (pl3_26_i rfl rfl rfl) dX3_init_34 ?_
  obtain rfl := Option.some.inj hf
  exact y_ret (v := none) dX3_init_37 rfl
set_option maxRecDepth 100000 in
theorem dX6_isWithin_0 : decode prog_8_method_16_code 0 = .ok (.iload_n 0, 1) := by decide +kernel
set_option maxRecDepth 100000 in
theorem dX6_isWithin_1 : decode prog_8_method_16_code 1 = .ok (.iload_n 1, 1) := by decide +kernel
set_option maxRecDepth 100000 in
theorem dX6_isWithin_2 : decode prog_8_method_16_code 2 = .ok (.if_icmp .lt 12, 3) := by decide +kernel
set_option maxRecDepth 100000 in
theorem dX6_isWithin_5 : decode prog_8_method_16_code 5 = .ok (.iload_n 0, 1) := by decide +kernel
set_option maxRecDepth 100000 in
theorem dX6_isWithin_6 : decode prog_8_method_16_code 6 = .ok (.iload_n 2, 1) := by decide +kernel
set_option maxRecDepth 100000 in
theorem dX6_isWithin_7 : decode prog_8_method_16_code 7 = .ok (.if_icmp .gt 7, 3) := by decide +kernel
set_option maxRecDepth 100000 in
theorem dX6_isWithin_10 : decode prog_8_method_16_code 10 = .ok (.iconst 1, 1) := by decide +kernel
set_option maxRecDepth 100000 in
theorem dX6_isWithin_11 : decode prog_8_method_16_code 11 = .ok (.goto 4, 3) := by decide +kernel
set_option maxRecDepth 100000 in
theorem dX6_isWithin_14 : decode prog_8_method_16_code 14 = .ok (.iconst 0, 1) := by decide +kernel
set_option maxRecDepth 100000 in
theorem dX6_isWithin_15 : decode prog_8_method_16_code 15 = .ok (.ireturn, 1) := by decide +kernel

def fX6_isWithin_e (z : Nat → Nat) (x0 : Int32) (x1 : Int32) (x2 : Int32) (h : aH) : Option (Int32 × aH) :=
  (if x0 < x1 then
  some (0, h)
  else
  (if x2 < x0 then
  some (0, h)
  else
  some (1, h)))
def fX6_isWithin (z : Nat → Nat) (x0 : Int32) (x1 : Int32) (x2 : Int32) (h : aH) : Option (Int32 × aH) := chkB (fX6_isWithin_e z x0 x1 x2 h)
set_option maxHeartbeats 4000000 in
set_option maxRecDepth 100000 in
theorem xX6_isWithin {l : Launch} {g : aG} {d : Nat} (hK : 0 ≤ d) {x0 : Int32} {x1 : Int32} {x2 : Int32} {h : aH} {q : Int32 × aH} (hf : fX6_isWithin g.2.2 x0 x1 x2 h = some q) : Ev l g miX6_isWithin d [.inl x0, .inl x1, .inl x2] h (some (.inl q.1), q.2) := by
  replace hf := chkB_spec hf
  obtain ⟨hf, hb⟩ := hf
  refine ⟨?_, Or.inr ⟨rfl, hb⟩, Nat.le_of_ble_eq_true rfl⟩
  unfold fX6_isWithin_e at hf
  show Y l g miX6_isWithin d 0 [some (.inl x0), some (.inl x1), some (.inl x2)] [] h _
  refine y_iload_n (i := 0) dX6_isWithin_0 rfl rfl ?_
  refine y_iload_n (i := 1) dX6_isWithin_1 rfl rfl ?_
  refine y_icmp_lt (tgt := 14) dX6_isWithin_2 (by decide) (fun hc => ?_) (fun hc => ?_)
  · rw [if_pos hc] at hf
    refine y_iconst (v := 0) dX6_isWithin_14 (by decide) ?_
    obtain rfl := Option.some.inj hf
    exact y_ret (v := some (.inl 0)) dX6_isWithin_15 rfl
  · rw [if_neg hc] at hf
    refine y_iload_n (i := 0) dX6_isWithin_5 rfl rfl ?_
    refine y_iload_n (i := 2) dX6_isWithin_6 rfl rfl ?_
    refine y_icmp_gt (tgt := 14) dX6_isWithin_7 (by decide) (fun hc => ?_) (fun hc => ?_)
    · rw [if_pos hc] at hf
      refine y_iconst (v := 0) dX6_isWithin_14 (by decide) ?_
      obtain rfl := Option.some.inj hf
      exact y_ret (v := some (.inl 0)) dX6_isWithin_15 rfl
    · rw [if_neg hc] at hf
      refine y_iconst (v := 1) dX6_isWithin_10 (by decide) ?_
      refine y_goto (tgt := 15) dX6_isWithin_11 (by decide) ?_
      obtain rfl := Option.some.inj hf
      exact y_ret (v := some (.inl 1)) dX6_isWithin_15 rfl
set_option maxRecDepth 100000 in
theorem dX6_looksAtX_0 : decode prog_8_method_4_code 0 = .ok (.iload_n 0, 1) := by decide +kernel
set_option maxRecDepth 100000 in
theorem dX6_looksAtX_1 : decode prog_8_method_4_code 1 = .ok (.iconst 3, 1) := by decide +kernel
set_option maxRecDepth 100000 in
theorem dX6_looksAtX_2 : decode prog_8_method_4_code 2 = .ok (.bipush 9, 2) := by decide +kernel
set_option maxRecDepth 100000 in
theorem dX6_looksAtX_4 : decode prog_8_method_4_code 4 = .ok (.invokestatic 9, 3) := by decide +kernel
set_option maxRecDepth 100000 in
theorem dX6_looksAtX_7 : decode prog_8_method_4_code 7 = .ok (.ifCond .ne 9, 3) := by decide +kernel
set_option maxRecDepth 100000 in
theorem dX6_looksAtX_10 : decode prog_8_method_4_code 10 = .ok (.iload_n 0, 1) := by decide +kernel
set_option maxRecDepth 100000 in
theorem dX6_looksAtX_11 : decode prog_8_method_4_code 11 = .ok (.bipush 12, 2) := by decide +kernel
set_option maxRecDepth 100000 in
theorem dX6_looksAtX_13 : decode prog_8_method_4_code 13 = .ok (.if_icmp .ne 7, 3) := by decide +kernel
set_option maxRecDepth 100000 in
theorem dX6_looksAtX_16 : decode prog_8_method_4_code 16 = .ok (.iconst 1, 1) := by decide +kernel
set_option maxRecDepth 100000 in
theorem dX6_looksAtX_17 : decode prog_8_method_4_code 17 = .ok (.goto 4, 3) := by decide +kernel
set_option maxRecDepth 100000 in
theorem dX6_looksAtX_20 : decode prog_8_method_4_code 20 = .ok (.iconst 0, 1) := by decide +kernel
set_option maxRecDepth 100000 in
theorem dX6_looksAtX_21 : decode prog_8_method_4_code 21 = .ok (.ireturn, 1) := by decide +kernel
set_option maxRecDepth 100000 in
theorem okX6_isWithin : mOk miX6_isWithin 3 := ⟨(gd_of 208 rfl rfl), (gd_of 77 rfl rfl), by decide +kernel, ⟨by decide +kernel, by decide +kernel, by decide +kernel⟩, by decide⟩
def fX6_looksAtX_e (z : Nat → Nat) (x0 : Int32) (h : aH) : Option (Int32 × aH) :=
  (fX6_isWithin z x0 3 9 h).bind fun q101 =>
  (if q101.1 = 0 then
  (if x0 = 12 then
  some (1, q101.2)
  else
  some (0, q101.2))
  else
  some (1, q101.2))
def fX6_looksAtX (z : Nat → Nat) (x0 : Int32) (h : aH) : Option (Int32 × aH) := chkB (fX6_looksAtX_e z x0 h)
set_option maxHeartbeats 4000000 in
set_option maxRecDepth 100000 in
theorem xX6_looksAtX {l : Launch} {g : aG} {d : Nat} (hK : 1 ≤ d) {x0 : Int32} {h : aH} {q : Int32 × aH} (hf : fX6_looksAtX g.2.2 x0 h = some q) : Ev l g miX6_looksAtX d [.inl x0] h (some (.inl q.1), q.2) := by
  obtain ⟨d, rfl⟩ : ∃ e, d = e + 1 := ⟨d - 1, by omega⟩
  replace hf := chkB_spec hf
  obtain ⟨hf, hb⟩ := hf
  refine ⟨?_, Or.inr ⟨rfl, hb⟩, Nat.le_of_ble_eq_true rfl⟩
  unfold fX6_looksAtX_e at hf
  show Y l g miX6_looksAtX (d + 1) 0 [some (.inl x0)] [] h _
  refine y_iload_n (i := 0) dX6_looksAtX_0 rfl rfl ?_
  refine y_iconst (v := 3) dX6_looksAtX_1 (by decide) ?_
  refine y_bipush (v := 9) dX6_looksAtX_2 (by decide) ?_
  replace hf := bnd hf
  obtain ⟨q101, eq101, hf⟩ := hf
  refine y_callS (mj := miX6_isWithin) (args := [.inl x0, .inl 3, .inl 9]) (st := []) dX6_looksAtX_4 (gd_of 206 rfl rfl) (gd_of 207 rfl rfl) okX6_isWithin (xX6_isWithin (by omega) eq101) (Nat.le_of_ble_eq_true rfl) rfl ?_
  show Y l g miX6_looksAtX (d + 1) 7 [some (.inl x0)] [.inl q101.1] q101.2 _
  refine y_if_ne (tgt := 16) dX6_looksAtX_7 (by decide) (fun hc => ?_) (fun hc => ?_)
  · rw [if_neg hc] at hf
    refine y_iconst (v := 1) dX6_looksAtX_16 (by decide) ?_
    refine y_goto (tgt := 21) dX6_looksAtX_17 (by decide) ?_
    obtain rfl := Option.some.inj hf
    exact y_ret (v := some (.inl 1)) dX6_looksAtX_21 rfl
  · rw [if_pos hc] at hf
    refine y_iload_n (i := 0) dX6_looksAtX_10 rfl rfl ?_
    refine y_bipush (v := 12) dX6_looksAtX_11 (by decide) ?_
    refine y_icmp_ne (tgt := 20) dX6_looksAtX_13 (by decide) (fun hc => ?_) (fun hc => ?_)
    · rw [if_neg hc] at hf
      refine y_iconst (v := 0) dX6_looksAtX_20 (by decide) ?_
      obtain rfl := Option.some.inj hf
      exact y_ret (v := some (.inl 0)) dX6_looksAtX_21 rfl
    · rw [if_pos hc] at hf
      refine y_iconst (v := 1) dX6_looksAtX_16 (by decide) ?_
      refine y_goto (tgt := 21) dX6_looksAtX_17 (by decide) ?_
      obtain rfl := Option.some.inj hf
      exact y_ret (v := some (.inl 1)) dX6_looksAtX_21 rfl
set_option maxRecDepth 100000 in
theorem dX6_looksAtY_0 : decode prog_8_method_5_code 0 = .ok (.iload_n 0, 1) := by decide +kernel
set_option maxRecDepth 100000 in
theorem dX6_looksAtY_1 : decode prog_8_method_5_code 1 = .ok (.bipush 6, 2) := by decide +kernel
set_option maxRecDepth 100000 in
theorem dX6_looksAtY_3 : decode prog_8_method_5_code 3 = .ok (.if_icmp .eq 9, 3) := by decide +kernel
set_option maxRecDepth 100000 in
theorem dX6_looksAtY_6 : decode prog_8_method_5_code 6 = .ok (.iload_n 0, 1) := by decide +kernel
set_option maxRecDepth 100000 in
theorem dX6_looksAtY_7 : decode prog_8_method_5_code 7 = .ok (.bipush 9, 2) := by decide +kernel
set_option maxRecDepth 100000 in
theorem dX6_looksAtY_9 : decode prog_8_method_5_code 9 = .ok (.if_icmp .ne 7, 3) := by decide +kernel
set_option maxRecDepth 100000 in
theorem dX6_looksAtY_12 : decode prog_8_method_5_code 12 = .ok (.iconst 1, 1) := by decide +kernel
set_option maxRecDepth 100000 in
theorem dX6_looksAtY_13 : decode prog_8_method_5_code 13 = .ok (.goto 4, 3) := by decide +kernel
set_option maxRecDepth 100000 in
theorem dX6_looksAtY_16 : decode prog_8_method_5_code 16 = .ok (.iconst 0, 1) := by decide +kernel
set_option maxRecDepth 100000 in
theorem dX6_looksAtY_17 : decode prog_8_method_5_code 17 = .ok (.ireturn, 1) := by decide +kernel

def fX6_looksAtY_e (z : Nat → Nat) (x0 : Int32) (h : aH) : Option (Int32 × aH) :=
  (if x0 = 6 then
  some (1, h)
  else
  (if x0 = 9 then
  some (1, h)
  else
  some (0, h)))
def fX6_looksAtY (z : Nat → Nat) (x0 : Int32) (h : aH) : Option (Int32 × aH) := chkB (fX6_looksAtY_e z x0 h)
set_option maxHeartbeats 4000000 in
set_option maxRecDepth 100000 in
theorem xX6_looksAtY {l : Launch} {g : aG} {d : Nat} (hK : 0 ≤ d) {x0 : Int32} {h : aH} {q : Int32 × aH} (hf : fX6_looksAtY g.2.2 x0 h = some q) : Ev l g miX6_looksAtY d [.inl x0] h (some (.inl q.1), q.2) := by
  replace hf := chkB_spec hf
  obtain ⟨hf, hb⟩ := hf
  refine ⟨?_, Or.inr ⟨rfl, hb⟩, Nat.le_of_ble_eq_true rfl⟩
  unfold fX6_looksAtY_e at hf
  show Y l g miX6_looksAtY d 0 [some (.inl x0)] [] h _
  refine y_iload_n (i := 0) dX6_looksAtY_0 rfl rfl ?_
  refine y_bipush (v := 6) dX6_looksAtY_1 (by decide) ?_
  refine y_icmp_eq (tgt := 12) dX6_looksAtY_3 (by decide) (fun hc => ?_) (fun hc => ?_)
  · rw [if_pos hc] at hf
    refine y_iconst (v := 1) dX6_looksAtY_12 (by decide) ?_
    refine y_goto (tgt := 17) dX6_looksAtY_13 (by decide) ?_
    obtain rfl := Option.some.inj hf
    exact y_ret (v := some (.inl 1)) dX6_looksAtY_17 rfl
  · rw [if_neg hc] at hf
    refine y_iload_n (i := 0) dX6_looksAtY_6 rfl rfl ?_
    refine y_bipush (v := 9) dX6_looksAtY_7 (by decide) ?_
    refine y_icmp_ne (tgt := 16) dX6_looksAtY_9 (by decide) (fun hc => ?_) (fun hc => ?_)
    · rw [if_neg hc] at hf
      refine y_iconst (v := 0) dX6_looksAtY_16 (by decide) ?_
      obtain rfl := Option.some.inj hf
      exact y_ret (v := some (.inl 0)) dX6_looksAtY_17 rfl
    · rw [if_pos hc] at hf
      refine y_iconst (v := 1) dX6_looksAtY_12 (by decide) ?_
      refine y_goto (tgt := 17) dX6_looksAtY_13 (by decide) ?_
      obtain rfl := Option.some.inj hf
      exact y_ret (v := some (.inl 1)) dX6_looksAtY_17 rfl
set_option maxRecDepth 100000 in
theorem dX6_canAdaptAll_0 : decode prog_8_method_14_code 0 = .ok (.aload_n 0, 1) := by decide +kernel
set_option maxRecDepth 100000 in
theorem dX6_canAdaptAll_1 : decode prog_8_method_14_code 1 = .ok (.invokevirtual 36, 3) := by decide +kernel
set_option maxRecDepth 100000 in
theorem dX6_canAdaptAll_4 : decode prog_8_method_14_code 4 = .ok (.aload_n 1, 1) := by decide +kernel
set_option maxRecDepth 100000 in
theorem dX6_canAdaptAll_5 : decode prog_8_method_14_code 5 = .ok (.invokevirtual 36, 3) := by decide +kernel
set_option maxRecDepth 100000 in
theorem dX6_canAdaptAll_8 : decode prog_8_method_14_code 8 = .ok (.if_icmp .ne 17, 3) := by decide +kernel
set_option maxRecDepth 100000 in
theorem dX6_canAdaptAll_11 : decode prog_8_method_14_code 11 = .ok (.aload_n 0, 1) := by decide +kernel
set_option maxRecDepth 100000 in
theorem dX6_canAdaptAll_12 : decode prog_8_method_14_code 12 = .ok (.getfield 72, 3) := by decide +kernel
set_option maxRecDepth 100000 in
theorem dX6_canAdaptAll_15 : decode prog_8_method_14_code 15 = .ok (.aload_n 1, 1) := by decide +kernel
set_option maxRecDepth 100000 in
theorem dX6_canAdaptAll_16 : decode prog_8_method_14_code 16 = .ok (.getfield 72, 3) := by decide +kernel
set_option maxRecDepth 100000 in
theorem dX6_canAdaptAll_19 : decode prog_8_method_14_code 19 = .ok (.invokestatic 114, 3) := by decide +kernel
set_option maxRecDepth 100000 in
theorem dX6_canAdaptAll_22 : decode prog_8_method_14_code 22 = .ok (.ifCond .ne 5, 3) := by decide +kernel
set_option maxRecDepth 100000 in
theorem dX6_canAdaptAll_25 : decode prog_8_method_14_code 25 = .ok (.iconst 0, 1) := by decide +kernel
set_option maxRecDepth 100000 in
theorem dX6_canAdaptAll_26 : decode prog_8_method_14_code 26 = .ok (.ireturn, 1) := by decide +kernel
set_option maxRecDepth 100000 in
theorem dX6_canAdaptAll_27 : decode prog_8_method_14_code 27 = .ok (.iconst 0, 1) := by decide +kernel
set_option maxRecDepth 100000 in
theorem dX6_canAdaptAll_28 : decode prog_8_method_14_code 28 = .ok (.istore_n 2, 1) := by decide +kernel
set_option maxRecDepth 100000 in
theorem dX6_canAdaptAll_29 : decode prog_8_method_14_code 29 = .ok (.iload_n 2, 1) := by decide +kernel
set_option maxRecDepth 100000 in
theorem dX6_canAdaptAll_30 : decode prog_8_method_14_code 30 = .ok (.aload_n 0, 1) := by decide +kernel
set_option maxRecDepth 100000 in
theorem dX6_canAdaptAll_31 : decode prog_8_method_14_code 31 = .ok (.invokevirtual 36, 3) := by decide +kernel
set_option maxRecDepth 100000 in
theorem dX6_canAdaptAll_34 : decode prog_8_method_14_code 34 = .ok (.if_icmp .ge 27, 3) := by decide +kernel
set_option maxRecDepth 100000 in
theorem dX6_canAdaptAll_37 : decode prog_8_method_14_code 37 = .ok (.aload_n 1, 1) := by decide +kernel
set_option maxRecDepth 100000 in
theorem dX6_canAdaptAll_38 : decode prog_8_method_14_code 38 = .ok (.iload_n 2, 1) := by decide +kernel
set_option maxRecDepth 100000 in
theorem dX6_canAdaptAll_39 : decode prog_8_method_14_code 39 = .ok (.invokevirtual 75, 3) := by decide +kernel
set_option maxRecDepth 100000 in
theorem dX6_canAdaptAll_42 : decode prog_8_method_14_code 42 = .ok (.aload_n 0, 1) := by decide +kernel
set_option maxRecDepth 100000 in
theorem dX6_canAdaptAll_43 : decode prog_8_method_14_code 43 = .ok (.iload_n 2, 1) := by decide +kernel
set_option maxRecDepth 100000 in
theorem dX6_canAdaptAll_44 : decode prog_8_method_14_code 44 = .ok (.invokevirtual 75, 3) := by decide +kernel
set_option maxRecDepth 100000 in
theorem dX6_canAdaptAll_47 : decode prog_8_method_14_code 47 = .ok (.invokestatic 114, 3) := by decide +kernel
set_option maxRecDepth 100000 in
theorem dX6_canAdaptAll_50 : decode prog_8_method_14_code 50 = .ok (.ifCond .ne 5, 3) := by decide +kernel
set_option maxRecDepth 100000 in
theorem dX6_canAdaptAll_53 : decode prog_8_method_14_code 53 = .ok (.iconst 0, 1) := by decide +kernel
set_option maxRecDepth 100000 in
theorem dX6_canAdaptAll_54 : decode prog_8_method_14_code 54 = .ok (.ireturn, 1) := by decide +kernel
set_option maxRecDepth 100000 in
theorem dX6_canAdaptAll_55 : decode prog_8_method_14_code 55 = .ok (.iinc 2 1, 3) := by decide +kernel
set_option maxRecDepth 100000 in
theorem dX6_canAdaptAll_58 : decode prog_8_method_14_code 58 = .ok (.goto (-29), 3) := by decide +kernel
set_option maxRecDepth 100000 in
theorem dX6_canAdaptAll_61 : decode prog_8_method_14_code 61 = .ok (.iconst 1, 1) := by decide +kernel
set_option maxRecDepth 100000 in
theorem dX6_canAdaptAll_62 : decode prog_8_method_14_code 62 = .ok (.ireturn, 1) := by decide +kernel
set_option maxRecDepth 100000 in
theorem fl6_72 : ∀ c ∈ ([6] : List Nat), FL "HandleModels$Shapes" 72 c 1 := fun c hc => by
  cases List.mem_singleton.mp hc
  exact ⟨_, "HandleModels$Types", rfl, by decide, (gd_of 225 rfl rfl), Or.inl rfl⟩
def fX6_canAdaptAll_29 (z : Nat → Nat) : Nat → Option Nat → Option Nat → Int32 → aH → Option (Int32 × aH)
  | 0, _, _, _, _ => none
  | n + 1, r0, r1, x2, h => (r0).bind fun a102 =>
  (obO h a102 6).bind fun fs103 =>
  (fX8_count z a102 h).bind fun q101 =>
  (if q101.1 ≤ x2 then
  some (1, q101.2)
  else
  (r1).bind fun a105 =>
  (obO q101.2 a105 6).bind fun fs106 =>
  (fX8_at z a105 x2 q101.2).bind fun q104 =>
  (obO q104.2 a102 6).bind fun fs108 =>
  (fX8_at z a102 x2 q104.2).bind fun q107 =>
  (fX0_isAllowed z q104.1 q107.1 q107.2).bind fun q109 =>
  (if q109.1 = 0 then
  some (0, q109.2)
  else
  fX6_canAdaptAll_29 z n (some a102) (some a105) (x2 + 1) q109.2))
set_option maxHeartbeats 4000000 in
set_option maxRecDepth 100000 in
theorem xX6_canAdaptAll_29 {l : Launch} {g : aG} {d : Nat} (hK : 1 ≤ d + 1) : ∀ (n : Nat) (r0 : Option Nat) (r1 : Option Nat) (x2 : Int32) (h : aH) (q : Int32 × aH), fX6_canAdaptAll_29 g.2.2 n r0 r1 x2 h = some q → Y l g miX6_canAdaptAll (d + 1) 29 [some (.inr (.inr r0)), some (.inr (.inr r1)), some (.inl x2)] [] h (some (.inl q.1), q.2) := by
  intro n
  induction n with
  | zero => intro r0 r1 x2 h q hf; simp [fX6_canAdaptAll_29] at hf
  | succ n ih =>
    intro r0 r1 x2 h q hf
    rw [fX6_canAdaptAll_29] at hf
    refine y_iload_n (i := 2) dX6_canAdaptAll_29 rfl rfl ?_
    refine y_aload_n (i := 0) dX6_canAdaptAll_30 rfl rfl ?_
    replace hf := bnd hf
    obtain ⟨a102, rfl, hf⟩ := hf
    replace hf := bnd hf
    obtain ⟨fs103, efs103, hf⟩ := hf
    replace hf := bnd hf
    obtain ⟨q101, eq101, hf⟩ := hf
    refine y_callV (mj := miX8_count) (args := []) (st := [.inl x2]) dX6_canAdaptAll_31 (gd_of 313 rfl rfl) (gd_of 314 rfl rfl) (gd_of 315 rfl rfl) okX8_count (obO_spec efs103) rfl rfl (xX8_count (by omega) eq101) (Nat.le_of_ble_eq_true rfl) rfl ?_
    show Y l g miX6_canAdaptAll (d + 1) 34 [some (.inr (.inr (some a102))), some (.inr (.inr r1)), some (.inl x2)] [.inl q101.1, .inl x2] q101.2 _
    refine y_icmp_ge (tgt := 61) dX6_canAdaptAll_34 (by decide) (fun hc => ?_) (fun hc => ?_)
    · rw [if_pos hc] at hf
      refine y_iconst (v := 1) dX6_canAdaptAll_61 (by decide) ?_
      obtain rfl := Option.some.inj hf
      exact y_ret (v := some (.inl 1)) dX6_canAdaptAll_62 rfl
    · rw [if_neg hc] at hf
      refine y_aload_n (i := 1) dX6_canAdaptAll_37 rfl rfl ?_
      refine y_iload_n (i := 2) dX6_canAdaptAll_38 rfl rfl ?_
      replace hf := bnd hf
      obtain ⟨a105, rfl, hf⟩ := hf
      replace hf := bnd hf
      obtain ⟨fs106, efs106, hf⟩ := hf
      replace hf := bnd hf
      obtain ⟨q104, eq104, hf⟩ := hf
      refine y_callV (mj := miX8_at) (args := [.inl x2]) (st := []) dX6_canAdaptAll_39 (gd_of 339 rfl rfl) (gd_of 340 rfl rfl) (gd_of 341 rfl rfl) okX8_at (obO_spec efs106) rfl rfl (xX8_at (by omega) eq104) (Nat.le_of_ble_eq_true rfl) rfl ?_
      show Y l g miX6_canAdaptAll (d + 1) 42 [some (.inr (.inr (some a102))), some (.inr (.inr (some a105))), some (.inl x2)] [.inl q104.1] q104.2 _
      refine y_aload_n (i := 0) dX6_canAdaptAll_42 rfl rfl ?_
      refine y_iload_n (i := 2) dX6_canAdaptAll_43 rfl rfl ?_
      replace hf := bnd hf
      obtain ⟨fs108, efs108, hf⟩ := hf
      replace hf := bnd hf
      obtain ⟨q107, eq107, hf⟩ := hf
      refine y_callV (mj := miX8_at) (args := [.inl x2]) (st := [.inl q104.1]) dX6_canAdaptAll_44 (gd_of 339 rfl rfl) (gd_of 340 rfl rfl) (gd_of 341 rfl rfl) okX8_at (obO_spec efs108) rfl rfl (xX8_at (by omega) eq107) (Nat.le_of_ble_eq_true rfl) rfl ?_
      show Y l g miX6_canAdaptAll (d + 1) 47 [some (.inr (.inr (some a102))), some (.inr (.inr (some a105))), some (.inl x2)] [.inl q107.1, .inl q104.1] q107.2 _
      replace hf := bnd hf
      obtain ⟨q109, eq109, hf⟩ := hf
      refine y_callS (mj := miX0_isAllowed) (args := [.inl q104.1, .inl q107.1]) (st := []) dX6_canAdaptAll_47 (gd_of 374 rfl rfl) (gd_of 375 rfl rfl) okX0_isAllowed (xX0_isAllowed (by omega) eq109) (Nat.le_of_ble_eq_true rfl) rfl ?_
      show Y l g miX6_canAdaptAll (d + 1) 50 [some (.inr (.inr (some a102))), some (.inr (.inr (some a105))), some (.inl x2)] [.inl q109.1] q109.2 _
      refine y_if_ne (tgt := 55) dX6_canAdaptAll_50 (by decide) (fun hc => ?_) (fun hc => ?_)
      · rw [if_neg hc] at hf
        refine y_iinc (i := 2) (y := 1) (lv2 := [some (.inr (.inr (some a102))), some (.inr (.inr (some a105))), some (.inl (x2 + 1))]) dX6_canAdaptAll_55 rfl (by decide) (by decide) rfl ?_
        refine y_goto (tgt := 29) dX6_canAdaptAll_58 (by decide) ?_
        refine Y.weak (lv2 := [some (.inr (.inr (some a102))), some (.inr (.inr (some a105))), some (.inl (x2 + 1))]) [true, true, true] rfl ?_
        exact ih _ _ _ _ _ hf
      · rw [if_pos hc] at hf
        refine y_iconst (v := 0) dX6_canAdaptAll_53 (by decide) ?_
        obtain rfl := Option.some.inj hf
        exact y_ret (v := some (.inl 0)) dX6_canAdaptAll_54 rfl
def fX6_canAdaptAll_e (z : Nat → Nat) (r0 : Option Nat) (r1 : Option Nat) (h : aH) : Option (Int32 × aH) :=
  (r0).bind fun a102 =>
  (obO h a102 6).bind fun fs103 =>
  (fX8_count z a102 h).bind fun q101 =>
  (r1).bind fun a105 =>
  (obO q101.2 a105 6).bind fun fs106 =>
  (fX8_count z a105 q101.2).bind fun q104 =>
  (if q101.1 = q104.1 then
  (rdI q104.2 a102 [6] 1).bind fun x107 =>
  (rdI q104.2 a105 [6] 1).bind fun x108 =>
  (fX0_isAllowed z x107 x108 q104.2).bind fun q109 =>
  (if q109.1 = 0 then
  some (0, q109.2)
  else
  fX6_canAdaptAll_29 z 4000 (some a102) (some a105) 0 q109.2)
  else
  some (0, q104.2))
def fX6_canAdaptAll (z : Nat → Nat) (r0 : Option Nat) (r1 : Option Nat) (h : aH) : Option (Int32 × aH) := chkB (fX6_canAdaptAll_e z r0 r1 h)
set_option maxHeartbeats 4000000 in
set_option maxRecDepth 100000 in
theorem xX6_canAdaptAll {l : Launch} {g : aG} {d : Nat} (hK : 1 ≤ d) {r0 : Option Nat} {r1 : Option Nat} {h : aH} {q : Int32 × aH} (hf : fX6_canAdaptAll g.2.2 r0 r1 h = some q) : Ev l g miX6_canAdaptAll d [.inr (.inr r0), .inr (.inr r1)] h (some (.inl q.1), q.2) := by
  obtain ⟨d, rfl⟩ : ∃ e, d = e + 1 := ⟨d - 1, by omega⟩
  replace hf := chkB_spec hf
  obtain ⟨hf, hb⟩ := hf
  refine ⟨?_, Or.inr ⟨rfl, hb⟩, Nat.le_of_ble_eq_true rfl⟩
  unfold fX6_canAdaptAll_e at hf
  show Y l g miX6_canAdaptAll (d + 1) 0 [some (.inr (.inr r0)), some (.inr (.inr r1)), none] [] h _
  refine y_aload_n (i := 0) dX6_canAdaptAll_0 rfl rfl ?_
  replace hf := bnd hf
  obtain ⟨a102, rfl, hf⟩ := hf
  replace hf := bnd hf
  obtain ⟨fs103, efs103, hf⟩ := hf
  replace hf := bnd hf
  obtain ⟨q101, eq101, hf⟩ := hf
  refine y_callV (mj := miX8_count) (args := []) (st := []) dX6_canAdaptAll_1 (gd_of 313 rfl rfl) (gd_of 314 rfl rfl) (gd_of 315 rfl rfl) okX8_count (obO_spec efs103) rfl rfl (xX8_count (by omega) eq101) (Nat.le_of_ble_eq_true rfl) rfl ?_
  show Y l g miX6_canAdaptAll (d + 1) 4 [some (.inr (.inr (some a102))), some (.inr (.inr r1)), none] [.inl q101.1] q101.2 _
  refine y_aload_n (i := 1) dX6_canAdaptAll_4 rfl rfl ?_
  replace hf := bnd hf
  obtain ⟨a105, rfl, hf⟩ := hf
  replace hf := bnd hf
  obtain ⟨fs106, efs106, hf⟩ := hf
  replace hf := bnd hf
  obtain ⟨q104, eq104, hf⟩ := hf
  refine y_callV (mj := miX8_count) (args := []) (st := [.inl q101.1]) dX6_canAdaptAll_5 (gd_of 313 rfl rfl) (gd_of 314 rfl rfl) (gd_of 315 rfl rfl) okX8_count (obO_spec efs106) rfl rfl (xX8_count (by omega) eq104) (Nat.le_of_ble_eq_true rfl) rfl ?_
  show Y l g miX6_canAdaptAll (d + 1) 8 [some (.inr (.inr (some a102))), some (.inr (.inr (some a105))), none] [.inl q104.1, .inl q101.1] q104.2 _
  refine y_icmp_ne (tgt := 25) dX6_canAdaptAll_8 (by decide) (fun hc => ?_) (fun hc => ?_)
  · rw [if_neg hc] at hf
    refine y_iconst (v := 0) dX6_canAdaptAll_25 (by decide) ?_
    obtain rfl := Option.some.inj hf
    exact y_ret (v := some (.inl 0)) dX6_canAdaptAll_26 rfl
  · rw [if_pos hc] at hf
    refine y_aload_n (i := 0) dX6_canAdaptAll_11 rfl rfl ?_
    replace hf := bnd hf
    obtain ⟨x107, ex107, hf⟩ := hf
    refine y_getI ex107 fl6_72 dX6_canAdaptAll_12 ?_
    refine y_aload_n (i := 1) dX6_canAdaptAll_15 rfl rfl ?_
    replace hf := bnd hf
    obtain ⟨x108, ex108, hf⟩ := hf
    refine y_getI ex108 fl6_72 dX6_canAdaptAll_16 ?_
    replace hf := bnd hf
    obtain ⟨q109, eq109, hf⟩ := hf
    refine y_callS (mj := miX0_isAllowed) (args := [.inl x107, .inl x108]) (st := []) dX6_canAdaptAll_19 (gd_of 374 rfl rfl) (gd_of 375 rfl rfl) okX0_isAllowed (xX0_isAllowed (by omega) eq109) (Nat.le_of_ble_eq_true rfl) rfl ?_
    show Y l g miX6_canAdaptAll (d + 1) 22 [some (.inr (.inr (some a102))), some (.inr (.inr (some a105))), none] [.inl q109.1] q109.2 _
    refine y_if_ne (tgt := 27) dX6_canAdaptAll_22 (by decide) (fun hc => ?_) (fun hc => ?_)
    · rw [if_neg hc] at hf
      refine y_iconst (v := 0) dX6_canAdaptAll_27 (by decide) ?_
      refine y_istore_n (i := 2) (lv2 := [some (.inr (.inr (some a102))), some (.inr (.inr (some a105))), some (.inl 0)]) dX6_canAdaptAll_28 rfl (by decide) rfl ?_
      refine Y.weak (lv2 := [some (.inr (.inr (some a102))), some (.inr (.inr (some a105))), some (.inl 0)]) [true, true, true] rfl ?_
      exact xX6_canAdaptAll_29 hK 4000 _ _ _ _ _ hf
    · rw [if_pos hc] at hf
      refine y_iconst (v := 0) dX6_canAdaptAll_25 (by decide) ?_
      obtain rfl := Option.some.inj hf
      exact y_ret (v := some (.inl 0)) dX6_canAdaptAll_26 rfl
set_option maxRecDepth 100000 in
theorem dX8_init_0 : decode prog_10_method_1_code 0 = .ok (.aload_n 0, 1) := by decide +kernel
set_option maxRecDepth 100000 in
theorem dX8_init_1 : decode prog_10_method_1_code 1 = .ok (.invokespecial 3, 3) := by decide +kernel
set_option maxRecDepth 100000 in
theorem dX8_init_4 : decode prog_10_method_1_code 4 = .ok (.aload_n 0, 1) := by decide +kernel
set_option maxRecDepth 100000 in
theorem dX8_init_5 : decode prog_10_method_1_code 5 = .ok (.aload_n 1, 1) := by decide +kernel
set_option maxRecDepth 100000 in
theorem dX8_init_6 : decode prog_10_method_1_code 6 = .ok (.putfield 9, 3) := by decide +kernel
set_option maxRecDepth 100000 in
theorem dX8_init_9 : decode prog_10_method_1_code 9 = .ok (.aload_n 0, 1) := by decide +kernel
set_option maxRecDepth 100000 in
theorem dX8_init_10 : decode prog_10_method_1_code 10 = .ok (.iload_n 2, 1) := by decide +kernel
set_option maxRecDepth 100000 in
theorem dX8_init_11 : decode prog_10_method_1_code 11 = .ok (.putfield 15, 3) := by decide +kernel
set_option maxRecDepth 100000 in
theorem dX8_init_14 : decode prog_10_method_1_code 14 = .ok (.return_, 1) := by decide +kernel
set_option maxRecDepth 100000 in
theorem pl8_9_i {mi : aM} {x : Option Nat} (ho : "HandleModels$Types" = mi.1.cls) (hn : mi.1.name = "<init>") (hc : "HandleModels$Types" = mi.1.cls) : ∀ c ∈ ([6] : List Nat), FL mi.1.cls 9 c 0 ∧ FT c 0 (.inr (.inr x)) ∧ FW mi c 0 := fun c h9 => by
  have h8 := fl8_9 c h9
  rw [← ho]
  refine ⟨h8, ?_⟩
  simp only [List.mem_cons, List.not_mem_nil, or_false] at h9
  rcases h9 with rfl
  · exact ⟨ft_arr (n := .int) rfl (by decide +kernel), ⟨_, rfl, Or.inr ⟨rfl, hn, hc⟩⟩⟩
set_option maxRecDepth 100000 in
theorem pl8_15_i {mi : aM} {x : Int32} (ho : "HandleModels$Types" = mi.1.cls) (hn : mi.1.name = "<init>") (hc : "HandleModels$Types" = mi.1.cls) : ∀ c ∈ ([6] : List Nat), FL mi.1.cls 15 c 1 ∧ FT c 1 (.inl x) ∧ FW mi c 1 := fun c h9 => by
  have h8 := fl8_15 c h9
  rw [← ho]
  refine ⟨h8, ?_⟩
  simp only [List.mem_cons, List.not_mem_nil, or_false] at h9
  rcases h9 with rfl
  · exact ⟨ft_int rfl (by decide +kernel), ⟨_, rfl, Or.inr ⟨rfl, hn, hc⟩⟩⟩
def fX8_init (z : Nat → Nat) (a0 : Nat) (r1 : Option Nat) (x2 : Int32) (h : aH) : Option aH :=
  (wrF h a0 [6] 0 (.inr (.inr r1))).bind fun h101 =>
  (wrF h101 a0 [6] 1 (.inl x2)).bind fun h102 =>
  some h102
set_option maxHeartbeats 4000000 in
set_option maxRecDepth 100000 in
theorem xX8_init {l : Launch} {g : aG} {d : Nat} (hK : 1 ≤ d) {a0 : Nat} {r1 : Option Nat} {x2 : Int32} {h : aH} {q : aH} (hf : fX8_init g.2.2 a0 r1 x2 h = some q) : Ev l g miX8_init d [.inr (.inr (some a0)), .inr (.inr r1), .inl x2] h (none, q) := by
  obtain ⟨d, rfl⟩ : ∃ e, d = e + 1 := ⟨d - 1, by omega⟩
  refine ⟨?_, rfl, Nat.le_of_ble_eq_true rfl⟩
  unfold fX8_init at hf
  show Y l g miX8_init (d + 1) 0 [some (.inr (.inr (some a0))), some (.inr (.inr r1)), some (.inl x2)] [] h _
  refine y_aload_n (i := 0) dX8_init_0 rfl rfl ?_
  refine y_obj dX8_init_1 (gd_of 220 rfl rfl) (gd_of 92 rfl rfl) (gd_of 93 rfl rfl) (by simp) (Nat.le_of_ble_eq_true rfl) ?_
  refine y_aload_n (i := 0) dX8_init_4 rfl rfl ?_
  refine y_aload_n (i := 1) dX8_init_5 rfl rfl ?_
  replace hf := bnd hf
  obtain ⟨h101, eh101, hf⟩ := hf
  refine y_put eh101 (pl8_9_i rfl rfl rfl) dX8_init_6 ?_
  refine y_aload_n (i := 0) dX8_init_9 rfl rfl ?_
  refine y_iload_n (i := 2) dX8_init_10 rfl rfl ?_
  replace hf := bnd hf
  obtain ⟨h102, eh102, hf⟩ := hf
  refine y_put eh102 (pl8_15_i rfl rfl rfl) dX8_init_11 ?_
  obtain rfl := Option.some.inj hf
  exact y_ret (v := none) dX8_init_14 rfl
set_option maxRecDepth 100000 in
theorem dX8_spliced_0 : decode prog_10_method_6_code 0 = .ok (.aload_n 0, 1) := by decide +kernel
set_option maxRecDepth 100000 in
theorem dX8_spliced_1 : decode prog_10_method_6_code 1 = .ok (.invokevirtual 19, 3) := by decide +kernel
set_option maxRecDepth 100000 in
theorem dX8_spliced_4 : decode prog_10_method_6_code 4 = .ok (.iload_n 2, 1) := by decide +kernel
set_option maxRecDepth 100000 in
theorem dX8_spliced_5 : decode prog_10_method_6_code 5 = .ok (.isub, 1) := by decide +kernel
set_option maxRecDepth 100000 in
theorem dX8_spliced_6 : decode prog_10_method_6_code 6 = .ok (.aload_n 3, 1) := by decide +kernel
set_option maxRecDepth 100000 in
theorem dX8_spliced_7 : decode prog_10_method_6_code 7 = .ok (.arraylength, 1) := by decide +kernel
set_option maxRecDepth 100000 in
theorem dX8_spliced_8 : decode prog_10_method_6_code 8 = .ok (.iadd, 1) := by decide +kernel
set_option maxRecDepth 100000 in
theorem dX8_spliced_9 : decode prog_10_method_6_code 9 = .ok (.istore 4, 2) := by decide +kernel
set_option maxRecDepth 100000 in
theorem dX8_spliced_11 : decode prog_10_method_6_code 11 = .ok (.iload_n 1, 1) := by decide +kernel
set_option maxRecDepth 100000 in
theorem dX8_spliced_12 : decode prog_10_method_6_code 12 = .ok (.ifCond .lt 24, 3) := by decide +kernel
set_option maxRecDepth 100000 in
theorem dX8_spliced_15 : decode prog_10_method_6_code 15 = .ok (.iload_n 2, 1) := by decide +kernel
set_option maxRecDepth 100000 in
theorem dX8_spliced_16 : decode prog_10_method_6_code 16 = .ok (.ifCond .lt 20, 3) := by decide +kernel
set_option maxRecDepth 100000 in
theorem dX8_spliced_19 : decode prog_10_method_6_code 19 = .ok (.iload_n 1, 1) := by decide +kernel
set_option maxRecDepth 100000 in
theorem dX8_spliced_20 : decode prog_10_method_6_code 20 = .ok (.iload_n 2, 1) := by decide +kernel
set_option maxRecDepth 100000 in
theorem dX8_spliced_21 : decode prog_10_method_6_code 21 = .ok (.iadd, 1) := by decide +kernel
set_option maxRecDepth 100000 in
theorem dX8_spliced_22 : decode prog_10_method_6_code 22 = .ok (.aload_n 0, 1) := by decide +kernel
set_option maxRecDepth 100000 in
theorem dX8_spliced_23 : decode prog_10_method_6_code 23 = .ok (.invokevirtual 19, 3) := by decide +kernel
set_option maxRecDepth 100000 in
theorem dX8_spliced_26 : decode prog_10_method_6_code 26 = .ok (.if_icmp .gt 10, 3) := by decide +kernel
set_option maxRecDepth 100000 in
theorem dX8_spliced_29 : decode prog_10_method_6_code 29 = .ok (.iload 4, 2) := by decide +kernel
set_option maxRecDepth 100000 in
theorem dX8_spliced_31 : decode prog_10_method_6_code 31 = .ok (.bipush 6, 2) := by decide +kernel
set_option maxRecDepth 100000 in
theorem dX8_spliced_33 : decode prog_10_method_6_code 33 = .ok (.if_icmp .le 5, 3) := by decide +kernel
set_option maxRecDepth 100000 in
theorem dX8_spliced_36 : decode prog_10_method_6_code 36 = .ok (.aconst_null, 1) := by decide +kernel
set_option maxRecDepth 100000 in
theorem dX8_spliced_37 : decode prog_10_method_6_code 37 = .ok (.areturn, 1) := by decide +kernel
set_option maxRecDepth 100000 in
theorem dX8_spliced_38 : decode prog_10_method_6_code 38 = .ok (.iload 4, 2) := by decide +kernel
set_option maxRecDepth 100000 in
theorem dX8_spliced_40 : decode prog_10_method_6_code 40 = .ok (.newarray .int, 2) := by decide +kernel
set_option maxRecDepth 100000 in
theorem dX8_spliced_42 : decode prog_10_method_6_code 42 = .ok (.astore 5, 2) := by decide +kernel
set_option maxRecDepth 100000 in
theorem dX8_spliced_44 : decode prog_10_method_6_code 44 = .ok (.aload_n 0, 1) := by decide +kernel
set_option maxRecDepth 100000 in
theorem dX8_spliced_45 : decode prog_10_method_6_code 45 = .ok (.getfield 9, 3) := by decide +kernel
set_option maxRecDepth 100000 in
theorem dX8_spliced_48 : decode prog_10_method_6_code 48 = .ok (.iconst 0, 1) := by decide +kernel
set_option maxRecDepth 100000 in
theorem dX8_spliced_49 : decode prog_10_method_6_code 49 = .ok (.aload 5, 2) := by decide +kernel
set_option maxRecDepth 100000 in
theorem dX8_spliced_51 : decode prog_10_method_6_code 51 = .ok (.iconst 0, 1) := by decide +kernel
set_option maxRecDepth 100000 in
theorem dX8_spliced_52 : decode prog_10_method_6_code 52 = .ok (.iload_n 1, 1) := by decide +kernel
set_option maxRecDepth 100000 in
theorem dX8_spliced_53 : decode prog_10_method_6_code 53 = .ok (.invokestatic 31, 3) := by decide +kernel
set_option maxRecDepth 100000 in
theorem dX8_spliced_56 : decode prog_10_method_6_code 56 = .ok (.aload_n 3, 1) := by decide +kernel
set_option maxRecDepth 100000 in
theorem dX8_spliced_57 : decode prog_10_method_6_code 57 = .ok (.iconst 0, 1) := by decide +kernel
set_option maxRecDepth 100000 in
theorem dX8_spliced_58 : decode prog_10_method_6_code 58 = .ok (.aload 5, 2) := by decide +kernel
set_option maxRecDepth 100000 in
theorem dX8_spliced_60 : decode prog_10_method_6_code 60 = .ok (.iload_n 1, 1) := by decide +kernel
set_option maxRecDepth 100000 in
theorem dX8_spliced_61 : decode prog_10_method_6_code 61 = .ok (.aload_n 3, 1) := by decide +kernel
set_option maxRecDepth 100000 in
theorem dX8_spliced_62 : decode prog_10_method_6_code 62 = .ok (.arraylength, 1) := by decide +kernel
set_option maxRecDepth 100000 in
theorem dX8_spliced_63 : decode prog_10_method_6_code 63 = .ok (.invokestatic 31, 3) := by decide +kernel
set_option maxRecDepth 100000 in
theorem dX8_spliced_66 : decode prog_10_method_6_code 66 = .ok (.aload_n 0, 1) := by decide +kernel
set_option maxRecDepth 100000 in
theorem dX8_spliced_67 : decode prog_10_method_6_code 67 = .ok (.getfield 9, 3) := by decide +kernel
set_option maxRecDepth 100000 in
theorem dX8_spliced_70 : decode prog_10_method_6_code 70 = .ok (.iload_n 1, 1) := by decide +kernel
set_option maxRecDepth 100000 in
theorem dX8_spliced_71 : decode prog_10_method_6_code 71 = .ok (.iload_n 2, 1) := by decide +kernel
set_option maxRecDepth 100000 in
theorem dX8_spliced_72 : decode prog_10_method_6_code 72 = .ok (.iadd, 1) := by decide +kernel
set_option maxRecDepth 100000 in
theorem dX8_spliced_73 : decode prog_10_method_6_code 73 = .ok (.aload 5, 2) := by decide +kernel
set_option maxRecDepth 100000 in
theorem dX8_spliced_75 : decode prog_10_method_6_code 75 = .ok (.iload_n 1, 1) := by decide +kernel
set_option maxRecDepth 100000 in
theorem dX8_spliced_76 : decode prog_10_method_6_code 76 = .ok (.aload_n 3, 1) := by decide +kernel
set_option maxRecDepth 100000 in
theorem dX8_spliced_77 : decode prog_10_method_6_code 77 = .ok (.arraylength, 1) := by decide +kernel
set_option maxRecDepth 100000 in
theorem dX8_spliced_78 : decode prog_10_method_6_code 78 = .ok (.iadd, 1) := by decide +kernel
set_option maxRecDepth 100000 in
theorem dX8_spliced_79 : decode prog_10_method_6_code 79 = .ok (.aload_n 0, 1) := by decide +kernel
set_option maxRecDepth 100000 in
theorem dX8_spliced_80 : decode prog_10_method_6_code 80 = .ok (.invokevirtual 19, 3) := by decide +kernel
set_option maxRecDepth 100000 in
theorem dX8_spliced_83 : decode prog_10_method_6_code 83 = .ok (.iload_n 1, 1) := by decide +kernel
set_option maxRecDepth 100000 in
theorem dX8_spliced_84 : decode prog_10_method_6_code 84 = .ok (.isub, 1) := by decide +kernel
set_option maxRecDepth 100000 in
theorem dX8_spliced_85 : decode prog_10_method_6_code 85 = .ok (.iload_n 2, 1) := by decide +kernel
set_option maxRecDepth 100000 in
theorem dX8_spliced_86 : decode prog_10_method_6_code 86 = .ok (.isub, 1) := by decide +kernel
set_option maxRecDepth 100000 in
theorem dX8_spliced_87 : decode prog_10_method_6_code 87 = .ok (.invokestatic 31, 3) := by decide +kernel
set_option maxRecDepth 100000 in
theorem dX8_spliced_90 : decode prog_10_method_6_code 90 = .ok (.new 10, 3) := by decide +kernel
set_option maxRecDepth 100000 in
theorem dX8_spliced_93 : decode prog_10_method_6_code 93 = .ok (.dup, 1) := by decide +kernel
set_option maxRecDepth 100000 in
theorem dX8_spliced_94 : decode prog_10_method_6_code 94 = .ok (.aload 5, 2) := by decide +kernel
set_option maxRecDepth 100000 in
theorem dX8_spliced_96 : decode prog_10_method_6_code 96 = .ok (.aload_n 0, 1) := by decide +kernel
set_option maxRecDepth 100000 in
theorem dX8_spliced_97 : decode prog_10_method_6_code 97 = .ok (.getfield 15, 3) := by decide +kernel
set_option maxRecDepth 100000 in
theorem dX8_spliced_100 : decode prog_10_method_6_code 100 = .ok (.invokespecial 37, 3) := by decide +kernel
set_option maxRecDepth 100000 in
theorem dX8_spliced_103 : decode prog_10_method_6_code 103 = .ok (.areturn, 1) := by decide +kernel
abbrev dz6 : List aV := [.inr (.inr none), .inl 0]
set_option maxRecDepth 100000 in
theorem dz6_ok : ∀ j, j < 2 → defaultValue (tyX8 j) = vp_V (dz6.map tv) j := by decide +kernel
set_option maxRecDepth 100000 in
theorem okX8_init : mOk miX8_init 2 := ⟨(gd_of 219 rfl rfl), (gd_of 79 rfl rfl), by decide +kernel, ⟨by decide +kernel, by decide +kernel, by decide +kernel⟩, by decide⟩
def fX8_spliced (z : Nat → Nat) (a0 : Nat) (x1 : Int32) (x2 : Int32) (r3 : Option Nat) (h : aH) : Option (Option Nat × aH) :=
  (obO h a0 6).bind fun fs102 =>
  (fX8_count z a0 h).bind fun q101 =>
  (r3).bind fun a103 =>
  (arN q101.2 a103).bind fun x104 =>
  (if x1 < 0 then
  some (none, q101.2)
  else
  (if x2 < 0 then
  some (none, q101.2)
  else
  (obO q101.2 a0 6).bind fun fs106 =>
  (fX8_count z a0 q101.2).bind fun q105 =>
  (if q105.1 < (x1 + x2) then
  some (none, q105.2)
  else
  (if ((q101.1 - x2) + x104) ≤ 6 then
  (nwI q105.2 ((q101.1 - x2) + x104)).bind fun h107 =>
  (rdR h107 a0 [6] 0).bind fun r108 =>
  (r108).bind fun a109 =>
  (cpI h107 a109 0 q105.2.1 0 x1).bind fun h110 =>
  (arN h110 a103).bind fun x111 =>
  (cpI h110 a103 0 q105.2.1 x1 x111).bind fun h112 =>
  (rdR h112 a0 [6] 0).bind fun r113 =>
  (arN h112 a103).bind fun x114 =>
  (obO h112 a0 6).bind fun fs116 =>
  (fX8_count z a0 h112).bind fun q115 =>
  (r113).bind fun a117 =>
  (cpI q115.2 a117 (x1 + x2) q105.2.1 (x1 + x114) ((q115.1 - x1) - x2)).bind fun h118 =>
  (rdI (hnew h118 2 (.inr (6, dz6))) a0 [6] 1).bind fun x119 =>
  (fX8_init z h118.1 (some q105.2.1) x119 (hnew h118 2 (.inr (6, dz6)))).bind fun q120 =>
  some ((some h118.1), q120)
  else
  some (none, q105.2)))))
set_option maxHeartbeats 4000000 in
set_option maxRecDepth 100000 in
theorem xX8_spliced {l : Launch} {g : aG} {d : Nat} (hK : 2 ≤ d) {a0 : Nat} {x1 : Int32} {x2 : Int32} {r3 : Option Nat} {h : aH} {q : Option Nat × aH} (hf : fX8_spliced g.2.2 a0 x1 x2 r3 h = some q) : Ev l g miX8_spliced d [.inr (.inr (some a0)), .inl x1, .inl x2, .inr (.inr r3)] h (some (.inr (.inr q.1)), q.2) := by
  obtain ⟨d, rfl⟩ : ∃ e, d = e + 1 := ⟨d - 1, by omega⟩
  refine ⟨?_, Or.inl ⟨_, rfl⟩, Nat.le_of_ble_eq_true rfl⟩
  unfold fX8_spliced at hf
  show Y l g miX8_spliced (d + 1) 0 [some (.inr (.inr (some a0))), some (.inl x1), some (.inl x2), some (.inr (.inr r3)), none, none] [] h _
  refine y_aload_n (i := 0) dX8_spliced_0 rfl rfl ?_
  replace hf := bnd hf
  obtain ⟨fs102, efs102, hf⟩ := hf
  replace hf := bnd hf
  obtain ⟨q101, eq101, hf⟩ := hf
  refine y_callV (mj := miX8_count) (args := []) (st := []) dX8_spliced_1 (gd_of 327 rfl rfl) (gd_of 314 rfl rfl) (gd_of 315 rfl rfl) okX8_count (obO_spec efs102) rfl rfl (xX8_count (by omega) eq101) (Nat.le_of_ble_eq_true rfl) rfl ?_
  show Y l g miX8_spliced (d + 1) 4 [some (.inr (.inr (some a0))), some (.inl x1), some (.inl x2), some (.inr (.inr r3)), none, none] [.inl q101.1] q101.2 _
  refine y_iload_n (i := 2) dX8_spliced_4 rfl rfl ?_
  refine y_isub dX8_spliced_5 ?_
  refine y_aload_n (i := 3) dX8_spliced_6 rfl rfl ?_
  replace hf := bnd hf
  obtain ⟨a103, rfl, hf⟩ := hf
  replace hf := bnd hf
  obtain ⟨x104, ex104, hf⟩ := hf
  refine y_alen ex104 dX8_spliced_7 ?_
  refine y_iadd dX8_spliced_8 ?_
  refine y_istore (i := 4) (lv2 := [some (.inr (.inr (some a0))), some (.inl x1), some (.inl x2), some (.inr (.inr (some a103))), some (.inl ((q101.1 - x2) + x104)), none]) dX8_spliced_9 (by decide) rfl ?_
  refine y_iload_n (i := 1) dX8_spliced_11 rfl rfl ?_
  refine y_if_lt (tgt := 36) dX8_spliced_12 (by decide) (fun hc => ?_) (fun hc => ?_)
  · rw [if_pos hc] at hf
    refine y_null dX8_spliced_36 ?_
    obtain rfl := Option.some.inj hf
    exact y_ret (v := some (.inr (.inr none))) dX8_spliced_37 rfl
  · rw [if_neg hc] at hf
    refine y_iload_n (i := 2) dX8_spliced_15 rfl rfl ?_
    refine y_if_lt (tgt := 36) dX8_spliced_16 (by decide) (fun hc => ?_) (fun hc => ?_)
    · rw [if_pos hc] at hf
      refine y_null dX8_spliced_36 ?_
      obtain rfl := Option.some.inj hf
      exact y_ret (v := some (.inr (.inr none))) dX8_spliced_37 rfl
    · rw [if_neg hc] at hf
      refine y_iload_n (i := 1) dX8_spliced_19 rfl rfl ?_
      refine y_iload_n (i := 2) dX8_spliced_20 rfl rfl ?_
      refine y_iadd dX8_spliced_21 ?_
      refine y_aload_n (i := 0) dX8_spliced_22 rfl rfl ?_
      replace hf := bnd hf
      obtain ⟨fs106, efs106, hf⟩ := hf
      replace hf := bnd hf
      obtain ⟨q105, eq105, hf⟩ := hf
      refine y_callV (mj := miX8_count) (args := []) (st := [.inl (x1 + x2)]) dX8_spliced_23 (gd_of 327 rfl rfl) (gd_of 314 rfl rfl) (gd_of 315 rfl rfl) okX8_count (obO_spec efs106) rfl rfl (xX8_count (by omega) eq105) (Nat.le_of_ble_eq_true rfl) rfl ?_
      show Y l g miX8_spliced (d + 1) 26 [some (.inr (.inr (some a0))), some (.inl x1), some (.inl x2), some (.inr (.inr (some a103))), some (.inl ((q101.1 - x2) + x104)), none] [.inl q105.1, .inl (x1 + x2)] q105.2 _
      refine y_icmp_gt (tgt := 36) dX8_spliced_26 (by decide) (fun hc => ?_) (fun hc => ?_)
      · rw [if_pos hc] at hf
        refine y_null dX8_spliced_36 ?_
        obtain rfl := Option.some.inj hf
        exact y_ret (v := some (.inr (.inr none))) dX8_spliced_37 rfl
      · rw [if_neg hc] at hf
        refine y_iload (i := 4) dX8_spliced_29 rfl ?_
        refine y_bipush (v := 6) dX8_spliced_31 (by decide) ?_
        refine y_icmp_le (tgt := 38) dX8_spliced_33 (by decide) (fun hc => ?_) (fun hc => ?_)
        · rw [if_pos hc] at hf
          refine y_iload (i := 4) dX8_spliced_38 rfl ?_
          replace hf := bnd hf
          obtain ⟨h107, eh107, hf⟩ := hf
          refine y_newI eh107 (gd_of 114 rfl rfl) dX8_spliced_40 ?_
          refine y_astore (i := 5) (lv2 := [some (.inr (.inr (some a0))), some (.inl x1), some (.inl x2), some (.inr (.inr (some a103))), some (.inl ((q101.1 - x2) + x104)), some (.inr (.inr (some q105.2.1)))]) dX8_spliced_42 (by decide) rfl ?_
          refine y_aload_n (i := 0) dX8_spliced_44 rfl rfl ?_
          replace hf := bnd hf
          obtain ⟨r108, er108, hf⟩ := hf
          refine y_getR er108 fl8_9 dX8_spliced_45 ?_
          refine y_iconst (v := 0) dX8_spliced_48 (by decide) ?_
          refine y_aload (i := 5) dX8_spliced_49 rfl ?_
          refine y_iconst (v := 0) dX8_spliced_51 (by decide) ?_
          refine y_iload_n (i := 1) dX8_spliced_52 rfl rfl ?_
          replace hf := bnd hf
          obtain ⟨a109, rfl, hf⟩ := hf
          replace hf := bnd hf
          obtain ⟨h110, eh110, hf⟩ := hf
          refine y_copy eh110 dX8_spliced_53 (gd_of 328 rfl rfl) (gd_of 330 rfl rfl) (gd_of 329 rfl rfl) (gd_of 81 rfl rfl) (Nat.le_of_ble_eq_true rfl) ?_
          refine y_aload_n (i := 3) dX8_spliced_56 rfl rfl ?_
          refine y_iconst (v := 0) dX8_spliced_57 (by decide) ?_
          refine y_aload (i := 5) dX8_spliced_58 rfl ?_
          refine y_iload_n (i := 1) dX8_spliced_60 rfl rfl ?_
          refine y_aload_n (i := 3) dX8_spliced_61 rfl rfl ?_
          replace hf := bnd hf
          obtain ⟨x111, ex111, hf⟩ := hf
          refine y_alen ex111 dX8_spliced_62 ?_
          replace hf := bnd hf
          obtain ⟨h112, eh112, hf⟩ := hf
          refine y_copy eh112 dX8_spliced_63 (gd_of 328 rfl rfl) (gd_of 330 rfl rfl) (gd_of 329 rfl rfl) (gd_of 81 rfl rfl) (Nat.le_of_ble_eq_true rfl) ?_
          refine y_aload_n (i := 0) dX8_spliced_66 rfl rfl ?_
          replace hf := bnd hf
          obtain ⟨r113, er113, hf⟩ := hf
          refine y_getR er113 fl8_9 dX8_spliced_67 ?_
          refine y_iload_n (i := 1) dX8_spliced_70 rfl rfl ?_
          refine y_iload_n (i := 2) dX8_spliced_71 rfl rfl ?_
          refine y_iadd dX8_spliced_72 ?_
          refine y_aload (i := 5) dX8_spliced_73 rfl ?_
          refine y_iload_n (i := 1) dX8_spliced_75 rfl rfl ?_
          refine y_aload_n (i := 3) dX8_spliced_76 rfl rfl ?_
          replace hf := bnd hf
          obtain ⟨x114, ex114, hf⟩ := hf
          refine y_alen ex114 dX8_spliced_77 ?_
          refine y_iadd dX8_spliced_78 ?_
          refine y_aload_n (i := 0) dX8_spliced_79 rfl rfl ?_
          replace hf := bnd hf
          obtain ⟨fs116, efs116, hf⟩ := hf
          replace hf := bnd hf
          obtain ⟨q115, eq115, hf⟩ := hf
          refine y_callV (mj := miX8_count) (args := []) (st := [.inl (x1 + x114), .inr (.inr (some q105.2.1)), .inl (x1 + x2), .inr (.inr r113)]) dX8_spliced_80 (gd_of 327 rfl rfl) (gd_of 314 rfl rfl) (gd_of 315 rfl rfl) okX8_count (obO_spec efs116) rfl rfl (xX8_count (by omega) eq115) (Nat.le_of_ble_eq_true rfl) rfl ?_
          show Y l g miX8_spliced (d + 1) 83 [some (.inr (.inr (some a0))), some (.inl x1), some (.inl x2), some (.inr (.inr (some a103))), some (.inl ((q101.1 - x2) + x104)), some (.inr (.inr (some q105.2.1)))] [.inl q115.1, .inl (x1 + x114), .inr (.inr (some q105.2.1)), .inl (x1 + x2), .inr (.inr r113)] q115.2 _
          refine y_iload_n (i := 1) dX8_spliced_83 rfl rfl ?_
          refine y_isub dX8_spliced_84 ?_
          refine y_iload_n (i := 2) dX8_spliced_85 rfl rfl ?_
          refine y_isub dX8_spliced_86 ?_
          replace hf := bnd hf
          obtain ⟨a117, rfl, hf⟩ := hf
          replace hf := bnd hf
          obtain ⟨h118, eh118, hf⟩ := hf
          refine y_copy eh118 dX8_spliced_87 (gd_of 328 rfl rfl) (gd_of 330 rfl rfl) (gd_of 329 rfl rfl) (gd_of 81 rfl rfl) (Nat.le_of_ble_eq_true rfl) ?_
          refine y_new (c := 6) (fs := dz6) rfl tyX8 tyX8_ok rfl dz6_ok (gd_of 331 rfl rfl) (gd_of 214 rfl rfl) (gd_of 79 rfl rfl) dX8_spliced_90 ?_
          refine y_dup dX8_spliced_93 rfl ?_
          refine y_aload (i := 5) dX8_spliced_94 rfl ?_
          refine y_aload_n (i := 0) dX8_spliced_96 rfl rfl ?_
          replace hf := bnd hf
          obtain ⟨x119, ex119, hf⟩ := hf
          refine y_getI ex119 fl8_15 dX8_spliced_97 ?_
          replace hf := bnd hf
          obtain ⟨q120, eq120, hf⟩ := hf
          refine y_callI (mj := miX8_init) (args := [.inr (.inr (some q105.2.1)), .inl x119]) (st := [.inr (.inr (some h118.1))]) dX8_spliced_100 (Or.inl (gd_of 332 rfl rfl)) (gd_of 218 rfl rfl) rfl rfl okX8_init (xX8_init (by omega) eq120) (Nat.le_of_ble_eq_true rfl) rfl ?_
          show Y l g miX8_spliced (d + 1) 103 [some (.inr (.inr (some a0))), some (.inl x1), some (.inl x2), some (.inr (.inr (some a103))), some (.inl ((q101.1 - x2) + x104)), some (.inr (.inr (some q105.2.1)))] [.inr (.inr (some h118.1))] q120 _
          obtain rfl := Option.some.inj hf
          exact y_ret (v := some (.inr (.inr (some h118.1)))) dX8_spliced_103 rfl
        · rw [if_neg hc] at hf
          refine y_null dX8_spliced_36 ?_
          obtain rfl := Option.some.inj hf
          exact y_ret (v := some (.inr (.inr none))) dX8_spliced_37 rfl
