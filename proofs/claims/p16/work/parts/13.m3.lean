set_option maxRecDepth 100000 in
theorem dX5_performFolded_0 : decode prog_7_method_21_code 0 = .ok (.aload_n 0, 1) := by decide +kernel
set_option maxRecDepth 100000 in
theorem dX5_performFolded_1 : decode prog_7_method_21_code 1 = .ok (.aload_n 1, 1) := by decide +kernel
set_option maxRecDepth 100000 in
theorem dX5_performFolded_2 : decode prog_7_method_21_code 2 = .ok (.getfield 237, 3) := by decide +kernel
set_option maxRecDepth 100000 in
theorem dX5_performFolded_5 : decode prog_7_method_21_code 5 = .ok (.getfield 117, 3) := by decide +kernel
set_option maxRecDepth 100000 in
theorem dX5_performFolded_8 : decode prog_7_method_21_code 8 = .ok (.invokevirtual 44, 3) := by decide +kernel
set_option maxRecDepth 100000 in
theorem dX5_performFolded_11 : decode prog_7_method_21_code 11 = .ok (.iload_n 2, 1) := by decide +kernel
set_option maxRecDepth 100000 in
theorem dX5_performFolded_12 : decode prog_7_method_21_code 12 = .ok (.invokevirtual 240, 3) := by decide +kernel
set_option maxRecDepth 100000 in
theorem dX5_performFolded_15 : decode prog_7_method_21_code 15 = .ok (.aload_n 0, 1) := by decide +kernel
set_option maxRecDepth 100000 in
theorem dX5_performFolded_16 : decode prog_7_method_21_code 16 = .ok (.aload_n 1, 1) := by decide +kernel
set_option maxRecDepth 100000 in
theorem dX5_performFolded_17 : decode prog_7_method_21_code 17 = .ok (.getfield 237, 3) := by decide +kernel
set_option maxRecDepth 100000 in
theorem dX5_performFolded_20 : decode prog_7_method_21_code 20 = .ok (.iload_n 2, 1) := by decide +kernel
set_option maxRecDepth 100000 in
theorem dX5_performFolded_21 : decode prog_7_method_21_code 21 = .ok (.iconst 1, 1) := by decide +kernel
set_option maxRecDepth 100000 in
theorem dX5_performFolded_22 : decode prog_7_method_21_code 22 = .ok (.iadd, 1) := by decide +kernel
set_option maxRecDepth 100000 in
theorem dX5_performFolded_23 : decode prog_7_method_21_code 23 = .ok (.invokevirtual 98, 3) := by decide +kernel
set_option maxRecDepth 100000 in
theorem dX5_performFolded_26 : decode prog_7_method_21_code 26 = .ok (.istore_n 3, 1) := by decide +kernel
set_option maxRecDepth 100000 in
theorem dX5_performFolded_27 : decode prog_7_method_21_code 27 = .ok (.iload_n 3, 1) := by decide +kernel
set_option maxRecDepth 100000 in
theorem dX5_performFolded_28 : decode prog_7_method_21_code 28 = .ok (.ifCond .eq 5, 3) := by decide +kernel
set_option maxRecDepth 100000 in
theorem dX5_performFolded_31 : decode prog_7_method_21_code 31 = .ok (.iload_n 3, 1) := by decide +kernel
set_option maxRecDepth 100000 in
theorem dX5_performFolded_32 : decode prog_7_method_21_code 32 = .ok (.ireturn, 1) := by decide +kernel
set_option maxRecDepth 100000 in
theorem dX5_performFolded_33 : decode prog_7_method_21_code 33 = .ok (.aload_n 0, 1) := by decide +kernel
set_option maxRecDepth 100000 in
theorem dX5_performFolded_34 : decode prog_7_method_21_code 34 = .ok (.getfield 11, 3) := by decide +kernel
set_option maxRecDepth 100000 in
theorem dX5_performFolded_37 : decode prog_7_method_21_code 37 = .ok (.iload_n 2, 1) := by decide +kernel
set_option maxRecDepth 100000 in
theorem dX5_performFolded_38 : decode prog_7_method_21_code 38 = .ok (.aaload, 1) := by decide +kernel
set_option maxRecDepth 100000 in
theorem dX5_performFolded_39 : decode prog_7_method_21_code 39 = .ok (.astore 4, 2) := by decide +kernel
set_option maxRecDepth 100000 in
theorem dX5_performFolded_41 : decode prog_7_method_21_code 41 = .ok (.aload_n 0, 1) := by decide +kernel
set_option maxRecDepth 100000 in
theorem dX5_performFolded_42 : decode prog_7_method_21_code 42 = .ok (.iload_n 2, 1) := by decide +kernel
set_option maxRecDepth 100000 in
theorem dX5_performFolded_43 : decode prog_7_method_21_code 43 = .ok (.invokevirtual 94, 3) := by decide +kernel
set_option maxRecDepth 100000 in
theorem dX5_performFolded_46 : decode prog_7_method_21_code 46 = .ok (.astore 5, 2) := by decide +kernel
set_option maxRecDepth 100000 in
theorem dX5_performFolded_48 : decode prog_7_method_21_code 48 = .ok (.aload_n 1, 1) := by decide +kernel
set_option maxRecDepth 100000 in
theorem dX5_performFolded_49 : decode prog_7_method_21_code 49 = .ok (.getfield 237, 3) := by decide +kernel
set_option maxRecDepth 100000 in
theorem dX5_performFolded_52 : decode prog_7_method_21_code 52 = .ok (.getfield 117, 3) := by decide +kernel
set_option maxRecDepth 100000 in
theorem dX5_performFolded_55 : decode prog_7_method_21_code 55 = .ok (.getfield 121, 3) := by decide +kernel
set_option maxRecDepth 100000 in
theorem dX5_performFolded_58 : decode prog_7_method_21_code 58 = .ok (.iconst 4, 1) := by decide +kernel
set_option maxRecDepth 100000 in
theorem dX5_performFolded_59 : decode prog_7_method_21_code 59 = .ok (.if_icmp .eq 16, 3) := by decide +kernel
set_option maxRecDepth 100000 in
theorem dX5_performFolded_62 : decode prog_7_method_21_code 62 = .ok (.aload 5, 2) := by decide +kernel
set_option maxRecDepth 100000 in
theorem dX5_performFolded_64 : decode prog_7_method_21_code 64 = .ok (.aload_n 0, 1) := by decide +kernel
set_option maxRecDepth 100000 in
theorem dX5_performFolded_65 : decode prog_7_method_21_code 65 = .ok (.getfield 24, 3) := by decide +kernel
set_option maxRecDepth 100000 in
theorem dX5_performFolded_68 : decode prog_7_method_21_code 68 = .ok (.aload_n 0, 1) := by decide +kernel
set_option maxRecDepth 100000 in
theorem dX5_performFolded_69 : decode prog_7_method_21_code 69 = .ok (.getfield 27, 3) := by decide +kernel
set_option maxRecDepth 100000 in
theorem dX5_performFolded_72 : decode prog_7_method_21_code 72 = .ok (.invokevirtual 90, 3) := by decide +kernel
set_option maxRecDepth 100000 in
theorem dX5_performFolded_75 : decode prog_7_method_21_code 75 = .ok (.aload 5, 2) := by decide +kernel
set_option maxRecDepth 100000 in
theorem dX5_performFolded_77 : decode prog_7_method_21_code 77 = .ok (.aload 4, 2) := by decide +kernel
set_option maxRecDepth 100000 in
theorem dX5_performFolded_79 : decode prog_7_method_21_code 79 = .ok (.iconst 0, 1) := by decide +kernel
set_option maxRecDepth 100000 in
theorem dX5_performFolded_80 : decode prog_7_method_21_code 80 = .ok (.aload 4, 2) := by decide +kernel
set_option maxRecDepth 100000 in
theorem dX5_performFolded_82 : decode prog_7_method_21_code 82 = .ok (.invokevirtual 67, 3) := by decide +kernel
set_option maxRecDepth 100000 in
theorem dX5_performFolded_85 : decode prog_7_method_21_code 85 = .ok (.invokevirtual 213, 3) := by decide +kernel
set_option maxRecDepth 100000 in
theorem dX5_performFolded_88 : decode prog_7_method_21_code 88 = .ok (.aload_n 0, 1) := by decide +kernel
set_option maxRecDepth 100000 in
theorem dX5_performFolded_89 : decode prog_7_method_21_code 89 = .ok (.aload_n 1, 1) := by decide +kernel
set_option maxRecDepth 100000 in
theorem dX5_performFolded_90 : decode prog_7_method_21_code 90 = .ok (.getfield 228, 3) := by decide +kernel
set_option maxRecDepth 100000 in
theorem dX5_performFolded_93 : decode prog_7_method_21_code 93 = .ok (.iload_n 2, 1) := by decide +kernel
set_option maxRecDepth 100000 in
theorem dX5_performFolded_94 : decode prog_7_method_21_code 94 = .ok (.iconst 1, 1) := by decide +kernel
set_option maxRecDepth 100000 in
theorem dX5_performFolded_95 : decode prog_7_method_21_code 95 = .ok (.iadd, 1) := by decide +kernel
set_option maxRecDepth 100000 in
theorem dX5_performFolded_96 : decode prog_7_method_21_code 96 = .ok (.invokevirtual 98, 3) := by decide +kernel
set_option maxRecDepth 100000 in
theorem dX5_performFolded_99 : decode prog_7_method_21_code 99 = .ok (.ireturn, 1) := by decide +kernel

def fX5_performFolded_75 (z : Nat → Nat) (P : Nat → Option Nat → Int32 → aH → Option (Int32 × aH)) (a0 : Nat) (r1 : Option Nat) (x2 : Int32) (r4 : Option Nat) (r5 : Option Nat) (h : aH) : Option (Int32 × aH) :=
  (r4).bind fun a102 =>
  (obO h a102 7).bind fun fs103 =>
  (fX9_count z a102 h).bind fun q101 =>
  (r5).bind fun a105 =>
  (obO q101.2 a105 7).bind fun fs106 =>
  (fX9_addSome z a105 (some a102) 0 q101.1 q101.2).bind fun q104 =>
  (r1).bind fun a107 =>
  (rdR q104 a107 [2] 1).bind fun r108 =>
  (obO q104 a0 4).bind fun fs110 =>
  (P a0 r108 (x2 + 1) q104).bind fun q109 =>
  some (q109.1, q109.2)
set_option maxHeartbeats 4000000 in
set_option maxRecDepth 100000 in
theorem xX5_performFolded_75 {l : Launch} {g : aG} {d : Nat} {P : Nat → Option Nat → Int32 → aH → Option (Int32 × aH)} {dP : Nat} (hP : ∀ (d9 : Nat), dP ≤ d9 → ∀ (a0 : Nat) (r1 : Option Nat) (x2 : Int32) (h : aH) (q : Int32 × aH), P a0 r1 x2 h = some q → Ev l g miX5_perform d9 [.inr (.inr (some a0)), .inr (.inr r1), .inl x2] h (some (.inl q.1), q.2)) (hK : dP + 3 ≤ d + 1) {a0 : Nat} {r1 : Option Nat} {x2 : Int32} {r4 : Option Nat} {r5 : Option Nat} {h : aH} {q : Int32 × aH} (hf : fX5_performFolded_75 g.2.2 P a0 r1 x2 r4 r5 h = some q) : Y l g miX5_performFolded (d + 1) 75 [some (.inr (.inr (some a0))), some (.inr (.inr r1)), some (.inl x2), none, some (.inr (.inr r4)), some (.inr (.inr r5))] [] h (some (.inl q.1), q.2) := by
  unfold fX5_performFolded_75 at hf
  refine y_aload (i := 5) dX5_performFolded_75 rfl ?_
  refine y_aload (i := 4) dX5_performFolded_77 rfl ?_
  refine y_iconst (v := 0) dX5_performFolded_79 (by decide) ?_
  refine y_aload (i := 4) dX5_performFolded_80 rfl ?_
  replace hf := bnd hf
  obtain ⟨a102, rfl, hf⟩ := hf
  replace hf := bnd hf
  obtain ⟨fs103, efs103, hf⟩ := hf
  replace hf := bnd hf
  obtain ⟨q101, eq101, hf⟩ := hf
  refine y_callV (mj := miX9_count) (args := []) (st := [.inl 0, .inr (.inr (some a102)), .inr (.inr r5)]) dX5_performFolded_82 (gd_of 499 rfl rfl) (gd_of 383 rfl rfl) (gd_of 384 rfl rfl) okX9_count (obO_spec efs103) rfl rfl (xX9_count (by omega) eq101) (Nat.le_of_ble_eq_true rfl) rfl ?_
  show Y l g miX5_performFolded (d + 1) 85 [some (.inr (.inr (some a0))), some (.inr (.inr r1)), some (.inl x2), none, some (.inr (.inr (some a102))), some (.inr (.inr r5))] [.inl q101.1, .inl 0, .inr (.inr (some a102)), .inr (.inr r5)] q101.2 _
  replace hf := bnd hf
  obtain ⟨a105, rfl, hf⟩ := hf
  replace hf := bnd hf
  obtain ⟨fs106, efs106, hf⟩ := hf
  replace hf := bnd hf
  obtain ⟨q104, eq104, hf⟩ := hf
  refine y_callV (mj := miX9_addSome) (args := [.inr (.inr (some a102)), .inl 0, .inl q101.1]) (st := []) dX5_performFolded_85 (gd_of 535 rfl rfl) (gd_of 536 rfl rfl) (gd_of 537 rfl rfl) okX9_addSome (obO_spec efs106) rfl rfl (xX9_addSome (by omega) eq104) (Nat.le_of_ble_eq_true rfl) rfl ?_
  show Y l g miX5_performFolded (d + 1) 88 [some (.inr (.inr (some a0))), some (.inr (.inr r1)), some (.inl x2), none, some (.inr (.inr (some a102))), some (.inr (.inr (some a105)))] [] q104 _
  refine y_aload_n (i := 0) dX5_performFolded_88 rfl rfl ?_
  refine y_aload_n (i := 1) dX5_performFolded_89 rfl rfl ?_
  replace hf := bnd hf
  obtain ⟨a107, rfl, hf⟩ := hf
  replace hf := bnd hf
  obtain ⟨r108, er108, hf⟩ := hf
  refine y_getR er108 fl5_228 dX5_performFolded_90 ?_
  refine y_iload_n (i := 2) dX5_performFolded_93 rfl rfl ?_
  refine y_iconst (v := 1) dX5_performFolded_94 (by decide) ?_
  refine y_iadd dX5_performFolded_95 ?_
  replace hf := bnd hf
  obtain ⟨fs110, efs110, hf⟩ := hf
  replace hf := bnd hf
  obtain ⟨q109, eq109, hf⟩ := hf
  refine y_callV (mj := miX5_perform) (args := [.inr (.inr r108), .inl (x2 + 1)]) (st := []) dX5_performFolded_96 (gd_of 542 rfl rfl) (gd_of 519 rfl rfl) (gd_of 520 rfl rfl) okX5_perform (obO_spec efs110) rfl rfl (hP _ (by omega) _ _ _ _ _ eq109) (Nat.le_of_ble_eq_true rfl) rfl ?_
  show Y l g miX5_performFolded (d + 1) 99 [some (.inr (.inr (some a0))), some (.inr (.inr (some a107))), some (.inl x2), none, some (.inr (.inr (some a102))), some (.inr (.inr (some a105)))] [.inl q109.1] q109.2 _
  obtain rfl := Option.some.inj hf
  exact y_ret (v := some (.inl q109.1)) dX5_performFolded_99 rfl
def fX5_performFolded (z : Nat → Nat) (P : Nat → Option Nat → Int32 → aH → Option (Int32 × aH)) (a0 : Nat) (r1 : Option Nat) (x2 : Int32) (h : aH) : Option (Int32 × aH) :=
  (r1).bind fun a101 =>
  (rdR h a101 [2] 2).bind fun r102 =>
  (r102).bind fun a103 =>
  (rdR h a103 [0, 1] 1).bind fun r104 =>
  (r104).bind fun a106 =>
  (obO h a106 6).bind fun fs107 =>
  (fX8_count z a106 h).bind fun q105 =>
  (obO q105.2 a0 4).bind fun fs109 =>
  (fX5_passFirst z a0 q105.1 x2 q105.2).bind fun q108 =>
  (rdR q108 a101 [2] 2).bind fun r110 =>
  (obO q108 a0 4).bind fun fs112 =>
  (P a0 r110 (x2 + 1) q108).bind fun q111 =>
  (if q111.1 = 0 then
  (rdR q111.2 a0 [4] 1).bind fun r113 =>
  (r113).bind fun a114 =>
  (arR q111.2 a114 x2).bind fun r115 =>
  (obO q111.2 a0 4).bind fun fs117 =>
  (fX5_opened z a0 x2 q111.2).bind fun q116 =>
  (rdR q116.2 a101 [2] 2).bind fun r118 =>
  (r118).bind fun a119 =>
  (rdR q116.2 a119 [0, 1] 1).bind fun r120 =>
  (r120).bind fun a121 =>
  (rdI q116.2 a121 [6] 1).bind fun x122 =>
  (if x122 = 4 then
  fX5_performFolded_75 z P a0 (some a101) x2 r115 q116.1 q116.2
  else
  (rdI q116.2 a0 [4] 4).bind fun x123 =>
  (rdJ q116.2 a0 [4] 5).bind fun j124 =>
  (q116.1).bind fun a126 =>
  (obO q116.2 a126 7).bind fun fs127 =>
  (fX9_add z a126 x123 j124 q116.2).bind fun q125 =>
  fX5_performFolded_75 z P a0 (some a101) x2 r115 (some a126) q125)
  else
  some (q111.1, q111.2))
set_option maxHeartbeats 4000000 in
set_option maxRecDepth 100000 in
theorem xX5_performFolded {l : Launch} {g : aG} {d : Nat} {P : Nat → Option Nat → Int32 → aH → Option (Int32 × aH)} {dP : Nat} (hP : ∀ (d9 : Nat), dP ≤ d9 → ∀ (a0 : Nat) (r1 : Option Nat) (x2 : Int32) (h : aH) (q : Int32 × aH), P a0 r1 x2 h = some q → Ev l g miX5_perform d9 [.inr (.inr (some a0)), .inr (.inr r1), .inl x2] h (some (.inl q.1), q.2)) (hK : dP + 3 ≤ d) {a0 : Nat} {r1 : Option Nat} {x2 : Int32} {h : aH} {q : Int32 × aH} (hf : fX5_performFolded g.2.2 P a0 r1 x2 h = some q) : Ev l g miX5_performFolded d [.inr (.inr (some a0)), .inr (.inr r1), .inl x2] h (some (.inl q.1), q.2) := by
  obtain ⟨d, rfl⟩ : ∃ e, d = e + 1 := ⟨d - 1, by omega⟩
  refine ⟨?_, Or.inl rfl, Nat.le_of_ble_eq_true rfl⟩
  unfold fX5_performFolded at hf
  show Y l g miX5_performFolded (d + 1) 0 [some (.inr (.inr (some a0))), some (.inr (.inr r1)), some (.inl x2), none, none, none] [] h _
  refine y_aload_n (i := 0) dX5_performFolded_0 rfl rfl ?_
  refine y_aload_n (i := 1) dX5_performFolded_1 rfl rfl ?_
  replace hf := bnd hf
  obtain ⟨a101, rfl, hf⟩ := hf
  replace hf := bnd hf
  obtain ⟨r102, er102, hf⟩ := hf
  refine y_getR er102 fl5_237 dX5_performFolded_2 ?_
  replace hf := bnd hf
  obtain ⟨a103, rfl, hf⟩ := hf
  replace hf := bnd hf
  obtain ⟨r104, er104, hf⟩ := hf
  refine y_getR er104 fl5_117 dX5_performFolded_5 ?_
  replace hf := bnd hf
  obtain ⟨a106, rfl, hf⟩ := hf
  replace hf := bnd hf
  obtain ⟨fs107, efs107, hf⟩ := hf
  replace hf := bnd hf
  obtain ⟨q105, eq105, hf⟩ := hf
  refine y_callV (mj := miX8_count) (args := []) (st := [.inr (.inr (some a0))]) dX5_performFolded_8 (gd_of 500 rfl rfl) (gd_of 314 rfl rfl) (gd_of 315 rfl rfl) okX8_count (obO_spec efs107) rfl rfl (xX8_count (by omega) eq105) (Nat.le_of_ble_eq_true rfl) rfl ?_
  show Y l g miX5_performFolded (d + 1) 11 [some (.inr (.inr (some a0))), some (.inr (.inr (some a101))), some (.inl x2), none, none, none] [.inl q105.1, .inr (.inr (some a0))] q105.2 _
  refine y_iload_n (i := 2) dX5_performFolded_11 rfl rfl ?_
  replace hf := bnd hf
  obtain ⟨fs109, efs109, hf⟩ := hf
  replace hf := bnd hf
  obtain ⟨q108, eq108, hf⟩ := hf
  refine y_callV (mj := miX5_passFirst) (args := [.inl q105.1, .inl x2]) (st := []) dX5_performFolded_12 (gd_of 556 rfl rfl) (gd_of 558 rfl rfl) (gd_of 13 rfl rfl) okX5_passFirst (obO_spec efs109) rfl rfl (xX5_passFirst (by omega) eq108) (Nat.le_of_ble_eq_true rfl) rfl ?_
  show Y l g miX5_performFolded (d + 1) 15 [some (.inr (.inr (some a0))), some (.inr (.inr (some a101))), some (.inl x2), none, none, none] [] q108 _
  refine y_aload_n (i := 0) dX5_performFolded_15 rfl rfl ?_
  refine y_aload_n (i := 1) dX5_performFolded_16 rfl rfl ?_
  replace hf := bnd hf
  obtain ⟨r110, er110, hf⟩ := hf
  refine y_getR er110 fl5_237 dX5_performFolded_17 ?_
  refine y_iload_n (i := 2) dX5_performFolded_20 rfl rfl ?_
  refine y_iconst (v := 1) dX5_performFolded_21 (by decide) ?_
  refine y_iadd dX5_performFolded_22 ?_
  replace hf := bnd hf
  obtain ⟨fs112, efs112, hf⟩ := hf
  replace hf := bnd hf
  obtain ⟨q111, eq111, hf⟩ := hf
  refine y_callV (mj := miX5_perform) (args := [.inr (.inr r110), .inl (x2 + 1)]) (st := []) dX5_performFolded_23 (gd_of 542 rfl rfl) (gd_of 519 rfl rfl) (gd_of 520 rfl rfl) okX5_perform (obO_spec efs112) rfl rfl (hP _ (by omega) _ _ _ _ _ eq111) (Nat.le_of_ble_eq_true rfl) rfl ?_
  show Y l g miX5_performFolded (d + 1) 26 [some (.inr (.inr (some a0))), some (.inr (.inr (some a101))), some (.inl x2), none, none, none] [.inl q111.1] q111.2 _
  refine y_istore_n (i := 3) (lv2 := [some (.inr (.inr (some a0))), some (.inr (.inr (some a101))), some (.inl x2), some (.inl q111.1), none, none]) dX5_performFolded_26 rfl (by decide) rfl ?_
  refine y_iload_n (i := 3) dX5_performFolded_27 rfl rfl ?_
  refine y_if_eq (tgt := 33) dX5_performFolded_28 (by decide) (fun hc => ?_) (fun hc => ?_)
  · rw [if_pos hc] at hf
    refine y_aload_n (i := 0) dX5_performFolded_33 rfl rfl ?_
    replace hf := bnd hf
    obtain ⟨r113, er113, hf⟩ := hf
    refine y_getR er113 fl5_11 dX5_performFolded_34 ?_
    refine y_iload_n (i := 2) dX5_performFolded_37 rfl rfl ?_
    replace hf := bnd hf
    obtain ⟨a114, rfl, hf⟩ := hf
    replace hf := bnd hf
    obtain ⟨r115, er115, hf⟩ := hf
    refine y_aaload er115 dX5_performFolded_38 ?_
    refine y_astore (i := 4) (lv2 := [some (.inr (.inr (some a0))), some (.inr (.inr (some a101))), some (.inl x2), some (.inl q111.1), some (.inr (.inr r115)), none]) dX5_performFolded_39 (by decide) rfl ?_
    refine y_aload_n (i := 0) dX5_performFolded_41 rfl rfl ?_
    refine y_iload_n (i := 2) dX5_performFolded_42 rfl rfl ?_
    replace hf := bnd hf
    obtain ⟨fs117, efs117, hf⟩ := hf
    replace hf := bnd hf
    obtain ⟨q116, eq116, hf⟩ := hf
    refine y_callV (mj := miX5_opened) (args := [.inl x2]) (st := []) dX5_performFolded_43 (gd_of 531 rfl rfl) (gd_of 533 rfl rfl) (gd_of 9 rfl rfl) okX5_opened (obO_spec efs117) rfl rfl (xX5_opened (by omega) eq116) (Nat.le_of_ble_eq_true rfl) rfl ?_
    show Y l g miX5_performFolded (d + 1) 46 [some (.inr (.inr (some a0))), some (.inr (.inr (some a101))), some (.inl x2), some (.inl q111.1), some (.inr (.inr r115)), none] [.inr (.inr q116.1)] q116.2 _
    refine y_astore (i := 5) (lv2 := [some (.inr (.inr (some a0))), some (.inr (.inr (some a101))), some (.inl x2), some (.inl q111.1), some (.inr (.inr r115)), some (.inr (.inr q116.1))]) dX5_performFolded_46 (by decide) rfl ?_
    refine y_aload_n (i := 1) dX5_performFolded_48 rfl rfl ?_
    replace hf := bnd hf
    obtain ⟨r118, er118, hf⟩ := hf
    refine y_getR er118 fl5_237 dX5_performFolded_49 ?_
    replace hf := bnd hf
    obtain ⟨a119, rfl, hf⟩ := hf
    replace hf := bnd hf
    obtain ⟨r120, er120, hf⟩ := hf
    refine y_getR er120 fl5_117 dX5_performFolded_52 ?_
    replace hf := bnd hf
    obtain ⟨a121, rfl, hf⟩ := hf
    replace hf := bnd hf
    obtain ⟨x122, ex122, hf⟩ := hf
    refine y_getI ex122 fl5_121 dX5_performFolded_55 ?_
    refine y_iconst (v := 4) dX5_performFolded_58 (by decide) ?_
    refine y_icmp_eq (tgt := 75) dX5_performFolded_59 (by decide) (fun hc => ?_) (fun hc => ?_)
    · rw [if_pos hc] at hf
      refine Y.weak (lv2 := [some (.inr (.inr (some a0))), some (.inr (.inr (some a101))), some (.inl x2), none, some (.inr (.inr r115)), some (.inr (.inr q116.1))]) [true, true, true, false, true, true] rfl ?_
      exact xX5_performFolded_75 hP hK hf
    · rw [if_neg hc] at hf
      refine y_aload (i := 5) dX5_performFolded_62 rfl ?_
      refine y_aload_n (i := 0) dX5_performFolded_64 rfl rfl ?_
      replace hf := bnd hf
      obtain ⟨x123, ex123, hf⟩ := hf
      refine y_getI ex123 fl5_24 dX5_performFolded_65 ?_
      refine y_aload_n (i := 0) dX5_performFolded_68 rfl rfl ?_
      replace hf := bnd hf
      obtain ⟨j124, ej124, hf⟩ := hf
      refine y_getJ ej124 fl5_27 dX5_performFolded_69 ?_
      replace hf := bnd hf
      obtain ⟨a126, ea126, hf⟩ := hf
      rw [ea126]
      replace hf := bnd hf
      obtain ⟨fs127, efs127, hf⟩ := hf
      replace hf := bnd hf
      obtain ⟨q125, eq125, hf⟩ := hf
      refine y_callV (mj := miX9_add) (args := [.inl x123, .inr (.inl j124)]) (st := []) dX5_performFolded_72 (gd_of 517 rfl rfl) (gd_of 480 rfl rfl) (gd_of 481 rfl rfl) okX9_add (obO_spec efs127) rfl rfl (xX9_add (by omega) eq125) (Nat.le_of_ble_eq_true rfl) rfl ?_
      show Y l g miX5_performFolded (d + 1) 75 [some (.inr (.inr (some a0))), some (.inr (.inr (some a101))), some (.inl x2), some (.inl q111.1), some (.inr (.inr r115)), some (.inr (.inr (some a126)))] [] q125 _
      refine Y.weak (lv2 := [some (.inr (.inr (some a0))), some (.inr (.inr (some a101))), some (.inl x2), none, some (.inr (.inr r115)), some (.inr (.inr (some a126)))]) [true, true, true, false, true, true] rfl ?_
      exact xX5_performFolded_75 hP hK hf
  · rw [if_neg hc] at hf
    refine y_iload_n (i := 3) dX5_performFolded_31 rfl rfl ?_
    obtain rfl := Option.some.inj hf
    exact y_ret (v := some (.inl q111.1)) dX5_performFolded_32 rfl
set_option maxRecDepth 100000 in
theorem dX5_performGathered_0 : decode prog_7_method_30_code 0 = .ok (.aload_n 0, 1) := by decide +kernel
set_option maxRecDepth 100000 in
theorem dX5_performGathered_1 : decode prog_7_method_30_code 1 = .ok (.getfield 11, 3) := by decide +kernel
set_option maxRecDepth 100000 in
theorem dX5_performGathered_4 : decode prog_7_method_30_code 4 = .ok (.iload_n 2, 1) := by decide +kernel
set_option maxRecDepth 100000 in
theorem dX5_performGathered_5 : decode prog_7_method_30_code 5 = .ok (.aaload, 1) := by decide +kernel
set_option maxRecDepth 100000 in
theorem dX5_performGathered_6 : decode prog_7_method_30_code 6 = .ok (.astore_n 3, 1) := by decide +kernel
set_option maxRecDepth 100000 in
theorem dX5_performGathered_7 : decode prog_7_method_30_code 7 = .ok (.aload_n 3, 1) := by decide +kernel
set_option maxRecDepth 100000 in
theorem dX5_performGathered_8 : decode prog_7_method_30_code 8 = .ok (.invokevirtual 67, 3) := by decide +kernel
set_option maxRecDepth 100000 in
theorem dX5_performGathered_11 : decode prog_7_method_30_code 11 = .ok (.aload_n 1, 1) := by decide +kernel
set_option maxRecDepth 100000 in
theorem dX5_performGathered_12 : decode prog_7_method_30_code 12 = .ok (.getfield 217, 3) := by decide +kernel
set_option maxRecDepth 100000 in
theorem dX5_performGathered_15 : decode prog_7_method_30_code 15 = .ok (.isub, 1) := by decide +kernel
set_option maxRecDepth 100000 in
theorem dX5_performGathered_16 : decode prog_7_method_30_code 16 = .ok (.istore 4, 2) := by decide +kernel
set_option maxRecDepth 100000 in
theorem dX5_performGathered_18 : decode prog_7_method_30_code 18 = .ok (.aload_n 0, 1) := by decide +kernel
set_option maxRecDepth 100000 in
theorem dX5_performGathered_19 : decode prog_7_method_30_code 19 = .ok (.getfield 31, 3) := by decide +kernel
set_option maxRecDepth 100000 in
theorem dX5_performGathered_22 : decode prog_7_method_30_code 22 = .ok (.aload_n 1, 1) := by decide +kernel
set_option maxRecDepth 100000 in
theorem dX5_performGathered_23 : decode prog_7_method_30_code 23 = .ok (.getfield 217, 3) := by decide +kernel
set_option maxRecDepth 100000 in
theorem dX5_performGathered_26 : decode prog_7_method_30_code 26 = .ok (.invokevirtual 165, 3) := by decide +kernel
set_option maxRecDepth 100000 in
theorem dX5_performGathered_29 : decode prog_7_method_30_code 29 = .ok (.istore 5, 2) := by decide +kernel
set_option maxRecDepth 100000 in
theorem dX5_performGathered_31 : decode prog_7_method_30_code 31 = .ok (.iload 5, 2) := by decide +kernel
set_option maxRecDepth 100000 in
theorem dX5_performGathered_33 : decode prog_7_method_30_code 33 = .ok (.iconst (-1), 1) := by decide +kernel
set_option maxRecDepth 100000 in
theorem dX5_performGathered_34 : decode prog_7_method_30_code 34 = .ok (.if_icmp .ne 6, 3) := by decide +kernel
set_option maxRecDepth 100000 in
theorem dX5_performGathered_37 : decode prog_7_method_30_code 37 = .ok (.bipush 10, 2) := by decide +kernel
set_option maxRecDepth 100000 in
theorem dX5_performGathered_39 : decode prog_7_method_30_code 39 = .ok (.ireturn, 1) := by decide +kernel
set_option maxRecDepth 100000 in
theorem dX5_performGathered_40 : decode prog_7_method_30_code 40 = .ok (.iconst 0, 1) := by decide +kernel
set_option maxRecDepth 100000 in
theorem dX5_performGathered_41 : decode prog_7_method_30_code 41 = .ok (.istore 6, 2) := by decide +kernel
set_option maxRecDepth 100000 in
theorem dX5_performGathered_43 : decode prog_7_method_30_code 43 = .ok (.iload 6, 2) := by decide +kernel
set_option maxRecDepth 100000 in
theorem dX5_performGathered_45 : decode prog_7_method_30_code 45 = .ok (.aload_n 1, 1) := by decide +kernel
set_option maxRecDepth 100000 in
theorem dX5_performGathered_46 : decode prog_7_method_30_code 46 = .ok (.getfield 217, 3) := by decide +kernel
set_option maxRecDepth 100000 in
theorem dX5_performGathered_49 : decode prog_7_method_30_code 49 = .ok (.if_icmp .ge 29, 3) := by decide +kernel
set_option maxRecDepth 100000 in
theorem dX5_performGathered_52 : decode prog_7_method_30_code 52 = .ok (.aload_n 0, 1) := by decide +kernel
set_option maxRecDepth 100000 in
theorem dX5_performGathered_53 : decode prog_7_method_30_code 53 = .ok (.getfield 31, 3) := by decide +kernel
set_option maxRecDepth 100000 in
theorem dX5_performGathered_56 : decode prog_7_method_30_code 56 = .ok (.iload 5, 2) := by decide +kernel
set_option maxRecDepth 100000 in
theorem dX5_performGathered_58 : decode prog_7_method_30_code 58 = .ok (.iload 6, 2) := by decide +kernel
set_option maxRecDepth 100000 in
theorem dX5_performGathered_60 : decode prog_7_method_30_code 60 = .ok (.aload_n 3, 1) := by decide +kernel
set_option maxRecDepth 100000 in
theorem dX5_performGathered_61 : decode prog_7_method_30_code 61 = .ok (.iload 4, 2) := by decide +kernel
set_option maxRecDepth 100000 in
theorem dX5_performGathered_63 : decode prog_7_method_30_code 63 = .ok (.iload 6, 2) := by decide +kernel
set_option maxRecDepth 100000 in
theorem dX5_performGathered_65 : decode prog_7_method_30_code 65 = .ok (.iadd, 1) := by decide +kernel
set_option maxRecDepth 100000 in
theorem dX5_performGathered_66 : decode prog_7_method_30_code 66 = .ok (.invokevirtual 134, 3) := by decide +kernel
set_option maxRecDepth 100000 in
theorem dX5_performGathered_69 : decode prog_7_method_30_code 69 = .ok (.invokevirtual 161, 3) := by decide +kernel
set_option maxRecDepth 100000 in
theorem dX5_performGathered_72 : decode prog_7_method_30_code 72 = .ok (.iinc 6 1, 3) := by decide +kernel
set_option maxRecDepth 100000 in
theorem dX5_performGathered_75 : decode prog_7_method_30_code 75 = .ok (.goto (-32), 3) := by decide +kernel
set_option maxRecDepth 100000 in
theorem dX5_performGathered_78 : decode prog_7_method_30_code 78 = .ok (.aload_n 0, 1) := by decide +kernel
set_option maxRecDepth 100000 in
theorem dX5_performGathered_79 : decode prog_7_method_30_code 79 = .ok (.iload_n 2, 1) := by decide +kernel
set_option maxRecDepth 100000 in
theorem dX5_performGathered_80 : decode prog_7_method_30_code 80 = .ok (.invokevirtual 94, 3) := by decide +kernel
set_option maxRecDepth 100000 in
theorem dX5_performGathered_83 : decode prog_7_method_30_code 83 = .ok (.astore 6, 2) := by decide +kernel
set_option maxRecDepth 100000 in
theorem dX5_performGathered_85 : decode prog_7_method_30_code 85 = .ok (.aload 6, 2) := by decide +kernel
set_option maxRecDepth 100000 in
theorem dX5_performGathered_87 : decode prog_7_method_30_code 87 = .ok (.aload_n 3, 1) := by decide +kernel
set_option maxRecDepth 100000 in
theorem dX5_performGathered_88 : decode prog_7_method_30_code 88 = .ok (.iconst 0, 1) := by decide +kernel
set_option maxRecDepth 100000 in
theorem dX5_performGathered_89 : decode prog_7_method_30_code 89 = .ok (.iload 4, 2) := by decide +kernel
set_option maxRecDepth 100000 in
theorem dX5_performGathered_91 : decode prog_7_method_30_code 91 = .ok (.invokevirtual 213, 3) := by decide +kernel
set_option maxRecDepth 100000 in
theorem dX5_performGathered_94 : decode prog_7_method_30_code 94 = .ok (.aload 6, 2) := by decide +kernel
set_option maxRecDepth 100000 in
theorem dX5_performGathered_96 : decode prog_7_method_30_code 96 = .ok (.iconst 2, 1) := by decide +kernel
set_option maxRecDepth 100000 in
theorem dX5_performGathered_97 : decode prog_7_method_30_code 97 = .ok (.iload 5, 2) := by decide +kernel
set_option maxRecDepth 100000 in
theorem dX5_performGathered_99 : decode prog_7_method_30_code 99 = .ok (.i2l, 1) := by decide +kernel
set_option maxRecDepth 100000 in
theorem dX5_performGathered_100 : decode prog_7_method_30_code 100 = .ok (.invokevirtual 90, 3) := by decide +kernel
set_option maxRecDepth 100000 in
theorem dX5_performGathered_103 : decode prog_7_method_30_code 103 = .ok (.aload_n 0, 1) := by decide +kernel
set_option maxRecDepth 100000 in
theorem dX5_performGathered_104 : decode prog_7_method_30_code 104 = .ok (.aload_n 1, 1) := by decide +kernel
set_option maxRecDepth 100000 in
theorem dX5_performGathered_105 : decode prog_7_method_30_code 105 = .ok (.getfield 228, 3) := by decide +kernel
set_option maxRecDepth 100000 in
theorem dX5_performGathered_108 : decode prog_7_method_30_code 108 = .ok (.iload_n 2, 1) := by decide +kernel
set_option maxRecDepth 100000 in
theorem dX5_performGathered_109 : decode prog_7_method_30_code 109 = .ok (.iconst 1, 1) := by decide +kernel
set_option maxRecDepth 100000 in
theorem dX5_performGathered_110 : decode prog_7_method_30_code 110 = .ok (.iadd, 1) := by decide +kernel
set_option maxRecDepth 100000 in
theorem dX5_performGathered_111 : decode prog_7_method_30_code 111 = .ok (.invokevirtual 98, 3) := by decide +kernel
set_option maxRecDepth 100000 in
theorem dX5_performGathered_114 : decode prog_7_method_30_code 114 = .ok (.ireturn, 1) := by decide +kernel

def fX5_performGathered_43 (z : Nat → Nat) (P : Nat → Option Nat → Int32 → aH → Option (Int32 × aH)) : Nat → Nat → Option Nat → Int32 → Option Nat → Int32 → Int32 → Int32 → aH → Option (Int32 × aH)
  | 0, _, _, _, _, _, _, _, _ => none
  | n + 1, a0, r1, x2, r3, x4, x5, x6, h => (r1).bind fun a101 =>
  (rdI h a101 [2] 4).bind fun x102 =>
  (if x102 ≤ x6 then
  (obO h a0 4).bind fun fs104 =>
  (fX5_opened z a0 x2 h).bind fun q103 =>
  (q103.1).bind fun a106 =>
  (obO q103.2 a106 7).bind fun fs107 =>
  (fX9_addSome z a106 r3 0 x4 q103.2).bind fun q105 =>
  (obO q105 a106 7).bind fun fs109 =>
  (fX9_add z a106 2 (Int32.toInt64 x5) q105).bind fun q108 =>
  (rdR q108 a101 [2] 1).bind fun r110 =>
  (obO q108 a0 4).bind fun fs112 =>
  (P a0 r110 (x2 + 1) q108).bind fun q111 =>
  some (q111.1, q111.2)
  else
  (rdR h a0 [4] 0).bind fun r113 =>
  (r3).bind fun a115 =>
  (obO h a115 7).bind fun fs116 =>
  (fX9_intAt z a115 (x4 + x6) h).bind fun q114 =>
  (r113).bind fun a118 =>
  (obO q114.2 a118 3).bind fun fs119 =>
  (fX4_put z a118 x5 x6 q114.1 q114.2).bind fun q117 =>
  fX5_performGathered_43 z P n a0 (some a101) x2 (some a115) x4 x5 (x6 + 1) q117)
set_option maxHeartbeats 4000000 in
set_option maxRecDepth 100000 in
theorem xX5_performGathered_43 {l : Launch} {g : aG} {d : Nat} {P : Nat → Option Nat → Int32 → aH → Option (Int32 × aH)} {dP : Nat} (hP : ∀ (d9 : Nat), dP ≤ d9 → ∀ (a0 : Nat) (r1 : Option Nat) (x2 : Int32) (h : aH) (q : Int32 × aH), P a0 r1 x2 h = some q → Ev l g miX5_perform d9 [.inr (.inr (some a0)), .inr (.inr r1), .inl x2] h (some (.inl q.1), q.2)) (hK : dP + 3 ≤ d + 1) : ∀ (n : Nat) (a0 : Nat) (r1 : Option Nat) (x2 : Int32) (r3 : Option Nat) (x4 : Int32) (x5 : Int32) (x6 : Int32) (h : aH) (q : Int32 × aH), fX5_performGathered_43 g.2.2 P n a0 r1 x2 r3 x4 x5 x6 h = some q → Y l g miX5_performGathered (d + 1) 43 [some (.inr (.inr (some a0))), some (.inr (.inr r1)), some (.inl x2), some (.inr (.inr r3)), some (.inl x4), some (.inl x5), some (.inl x6)] [] h (some (.inl q.1), q.2) := by
  intro n
  induction n with
  | zero => intro a0 r1 x2 r3 x4 x5 x6 h q hf; simp [fX5_performGathered_43] at hf
  | succ n ih =>
    intro a0 r1 x2 r3 x4 x5 x6 h q hf
    rw [fX5_performGathered_43] at hf
    refine y_iload (i := 6) dX5_performGathered_43 rfl ?_
    refine y_aload_n (i := 1) dX5_performGathered_45 rfl rfl ?_
    replace hf := bnd hf
    obtain ⟨a101, rfl, hf⟩ := hf
    replace hf := bnd hf
    obtain ⟨x102, ex102, hf⟩ := hf
    refine y_getI ex102 fl5_217 dX5_performGathered_46 ?_
    refine y_icmp_ge (tgt := 78) dX5_performGathered_49 (by decide) (fun hc => ?_) (fun hc => ?_)
    · rw [if_pos hc] at hf
      refine y_aload_n (i := 0) dX5_performGathered_78 rfl rfl ?_
      refine y_iload_n (i := 2) dX5_performGathered_79 rfl rfl ?_
      replace hf := bnd hf
      obtain ⟨fs104, efs104, hf⟩ := hf
      replace hf := bnd hf
      obtain ⟨q103, eq103, hf⟩ := hf
      refine y_callV (mj := miX5_opened) (args := [.inl x2]) (st := []) dX5_performGathered_80 (gd_of 531 rfl rfl) (gd_of 533 rfl rfl) (gd_of 9 rfl rfl) okX5_opened (obO_spec efs104) rfl rfl (xX5_opened (by omega) eq103) (Nat.le_of_ble_eq_true rfl) rfl ?_
      show Y l g miX5_performGathered (d + 1) 83 [some (.inr (.inr (some a0))), some (.inr (.inr (some a101))), some (.inl x2), some (.inr (.inr r3)), some (.inl x4), some (.inl x5), some (.inl x6)] [.inr (.inr q103.1)] q103.2 _
      refine y_astore (i := 6) (lv2 := [some (.inr (.inr (some a0))), some (.inr (.inr (some a101))), some (.inl x2), some (.inr (.inr r3)), some (.inl x4), some (.inl x5), some (.inr (.inr q103.1))]) dX5_performGathered_83 (by decide) rfl ?_
      refine y_aload (i := 6) dX5_performGathered_85 rfl ?_
      refine y_aload_n (i := 3) dX5_performGathered_87 rfl rfl ?_
      refine y_iconst (v := 0) dX5_performGathered_88 (by decide) ?_
      refine y_iload (i := 4) dX5_performGathered_89 rfl ?_
      replace hf := bnd hf
      obtain ⟨a106, ea106, hf⟩ := hf
      rw [ea106]
      replace hf := bnd hf
      obtain ⟨fs107, efs107, hf⟩ := hf
      replace hf := bnd hf
      obtain ⟨q105, eq105, hf⟩ := hf
      refine y_callV (mj := miX9_addSome) (args := [.inr (.inr r3), .inl 0, .inl x4]) (st := []) dX5_performGathered_91 (gd_of 535 rfl rfl) (gd_of 536 rfl rfl) (gd_of 537 rfl rfl) okX9_addSome (obO_spec efs107) rfl rfl (xX9_addSome (by omega) eq105) (Nat.le_of_ble_eq_true rfl) rfl ?_
      show Y l g miX5_performGathered (d + 1) 94 [some (.inr (.inr (some a0))), some (.inr (.inr (some a101))), some (.inl x2), some (.inr (.inr r3)), some (.inl x4), some (.inl x5), some (.inr (.inr (some a106)))] [] q105 _
      refine y_aload (i := 6) dX5_performGathered_94 rfl ?_
      refine y_iconst (v := 2) dX5_performGathered_96 (by decide) ?_
      refine y_iload (i := 5) dX5_performGathered_97 rfl ?_
      refine y_i2l dX5_performGathered_99 ?_
      replace hf := bnd hf
      obtain ⟨fs109, efs109, hf⟩ := hf
      replace hf := bnd hf
      obtain ⟨q108, eq108, hf⟩ := hf
      refine y_callV (mj := miX9_add) (args := [.inl 2, .inr (.inl (Int32.toInt64 x5))]) (st := []) dX5_performGathered_100 (gd_of 517 rfl rfl) (gd_of 480 rfl rfl) (gd_of 481 rfl rfl) okX9_add (obO_spec efs109) rfl rfl (xX9_add (by omega) eq108) (Nat.le_of_ble_eq_true rfl) rfl ?_
      show Y l g miX5_performGathered (d + 1) 103 [some (.inr (.inr (some a0))), some (.inr (.inr (some a101))), some (.inl x2), some (.inr (.inr r3)), some (.inl x4), some (.inl x5), some (.inr (.inr (some a106)))] [] q108 _
      refine y_aload_n (i := 0) dX5_performGathered_103 rfl rfl ?_
      refine y_aload_n (i := 1) dX5_performGathered_104 rfl rfl ?_
      replace hf := bnd hf
      obtain ⟨r110, er110, hf⟩ := hf
      refine y_getR er110 fl5_228 dX5_performGathered_105 ?_
      refine y_iload_n (i := 2) dX5_performGathered_108 rfl rfl ?_
      refine y_iconst (v := 1) dX5_performGathered_109 (by decide) ?_
      refine y_iadd dX5_performGathered_110 ?_
      replace hf := bnd hf
      obtain ⟨fs112, efs112, hf⟩ := hf
      replace hf := bnd hf
      obtain ⟨q111, eq111, hf⟩ := hf
      refine y_callV (mj := miX5_perform) (args := [.inr (.inr r110), .inl (x2 + 1)]) (st := []) dX5_performGathered_111 (gd_of 542 rfl rfl) (gd_of 519 rfl rfl) (gd_of 520 rfl rfl) okX5_perform (obO_spec efs112) rfl rfl (hP _ (by omega) _ _ _ _ _ eq111) (Nat.le_of_ble_eq_true rfl) rfl ?_
      show Y l g miX5_performGathered (d + 1) 114 [some (.inr (.inr (some a0))), some (.inr (.inr (some a101))), some (.inl x2), some (.inr (.inr r3)), some (.inl x4), some (.inl x5), some (.inr (.inr (some a106)))] [.inl q111.1] q111.2 _
      obtain rfl := Option.some.inj hf
      exact y_ret (v := some (.inl q111.1)) dX5_performGathered_114 rfl
    · rw [if_neg hc] at hf
      refine y_aload_n (i := 0) dX5_performGathered_52 rfl rfl ?_
      replace hf := bnd hf
      obtain ⟨r113, er113, hf⟩ := hf
      refine y_getR er113 fl5_31 dX5_performGathered_53 ?_
      refine y_iload (i := 5) dX5_performGathered_56 rfl ?_
      refine y_iload (i := 6) dX5_performGathered_58 rfl ?_
      refine y_aload_n (i := 3) dX5_performGathered_60 rfl rfl ?_
      refine y_iload (i := 4) dX5_performGathered_61 rfl ?_
      refine y_iload (i := 6) dX5_performGathered_63 rfl ?_
      refine y_iadd dX5_performGathered_65 ?_
      replace hf := bnd hf
      obtain ⟨a115, rfl, hf⟩ := hf
      replace hf := bnd hf
      obtain ⟨fs116, efs116, hf⟩ := hf
      replace hf := bnd hf
      obtain ⟨q114, eq114, hf⟩ := hf
      refine y_callV (mj := miX9_intAt) (args := [.inl (x4 + x6)]) (st := [.inl x6, .inl x5, .inr (.inr r113)]) dX5_performGathered_66 (gd_of 602 rfl rfl) (gd_of 603 rfl rfl) (gd_of 604 rfl rfl) okX9_intAt (obO_spec efs116) rfl rfl (xX9_intAt (by omega) eq114) (Nat.le_of_ble_eq_true rfl) rfl ?_
      show Y l g miX5_performGathered (d + 1) 69 [some (.inr (.inr (some a0))), some (.inr (.inr (some a101))), some (.inl x2), some (.inr (.inr (some a115))), some (.inl x4), some (.inl x5), some (.inl x6)] [.inl q114.1, .inl x6, .inl x5, .inr (.inr r113)] q114.2 _
      replace hf := bnd hf
      obtain ⟨a118, rfl, hf⟩ := hf
      replace hf := bnd hf
      obtain ⟨fs119, efs119, hf⟩ := hf
      replace hf := bnd hf
      obtain ⟨q117, eq117, hf⟩ := hf
      refine y_callV (mj := miX4_put) (args := [.inl x5, .inl x6, .inl q114.1]) (st := []) dX5_performGathered_69 (gd_of 616 rfl rfl) (gd_of 455 rfl rfl) (gd_of 456 rfl rfl) okX4_put (obO_spec efs119) rfl rfl (xX4_put (by omega) eq117) (Nat.le_of_ble_eq_true rfl) rfl ?_
      show Y l g miX5_performGathered (d + 1) 72 [some (.inr (.inr (some a0))), some (.inr (.inr (some a101))), some (.inl x2), some (.inr (.inr (some a115))), some (.inl x4), some (.inl x5), some (.inl x6)] [] q117 _
      refine y_iinc (i := 6) (y := 1) (lv2 := [some (.inr (.inr (some a0))), some (.inr (.inr (some a101))), some (.inl x2), some (.inr (.inr (some a115))), some (.inl x4), some (.inl x5), some (.inl (x6 + 1))]) dX5_performGathered_72 rfl (by decide) (by decide) rfl ?_
      refine y_goto (tgt := 43) dX5_performGathered_75 (by decide) ?_
      refine Y.weak (lv2 := [some (.inr (.inr (some a0))), some (.inr (.inr (some a101))), some (.inl x2), some (.inr (.inr (some a115))), some (.inl x4), some (.inl x5), some (.inl (x6 + 1))]) [true, true, true, true, true, true, true] rfl ?_
      exact ih _ _ _ _ _ _ _ _ _ hf
def fX5_performGathered (z : Nat → Nat) (P : Nat → Option Nat → Int32 → aH → Option (Int32 × aH)) (a0 : Nat) (r1 : Option Nat) (x2 : Int32) (h : aH) : Option (Int32 × aH) :=
  (rdR h a0 [4] 1).bind fun r101 =>
  (r101).bind fun a102 =>
  (arR h a102 x2).bind fun r103 =>
  (r103).bind fun a105 =>
  (obO h a105 7).bind fun fs106 =>
  (fX9_count z a105 h).bind fun q104 =>
  (r1).bind fun a107 =>
  (rdI q104.2 a107 [2] 4).bind fun x108 =>
  (rdR q104.2 a0 [4] 0).bind fun r109 =>
  (rdI q104.2 a107 [2] 4).bind fun x110 =>
  (r109).bind fun a112 =>
  (obO q104.2 a112 3).bind fun fs113 =>
  (fX4_make z a112 x110 q104.2).bind fun q111 =>
  (if q111.1 = (-1) then
  some (10, q111.2)
  else
  fX5_performGathered_43 z P 4000 a0 (some a107) x2 (some a105) (q104.1 - x108) q111.1 0 q111.2)
set_option maxHeartbeats 4000000 in
set_option maxRecDepth 100000 in
theorem xX5_performGathered {l : Launch} {g : aG} {d : Nat} {P : Nat → Option Nat → Int32 → aH → Option (Int32 × aH)} {dP : Nat} (hP : ∀ (d9 : Nat), dP ≤ d9 → ∀ (a0 : Nat) (r1 : Option Nat) (x2 : Int32) (h : aH) (q : Int32 × aH), P a0 r1 x2 h = some q → Ev l g miX5_perform d9 [.inr (.inr (some a0)), .inr (.inr r1), .inl x2] h (some (.inl q.1), q.2)) (hK : dP + 3 ≤ d) {a0 : Nat} {r1 : Option Nat} {x2 : Int32} {h : aH} {q : Int32 × aH} (hf : fX5_performGathered g.2.2 P a0 r1 x2 h = some q) : Ev l g miX5_performGathered d [.inr (.inr (some a0)), .inr (.inr r1), .inl x2] h (some (.inl q.1), q.2) := by
  obtain ⟨d, rfl⟩ : ∃ e, d = e + 1 := ⟨d - 1, by omega⟩
  refine ⟨?_, Or.inl rfl, Nat.le_of_ble_eq_true rfl⟩
  unfold fX5_performGathered at hf
  show Y l g miX5_performGathered (d + 1) 0 [some (.inr (.inr (some a0))), some (.inr (.inr r1)), some (.inl x2), none, none, none, none] [] h _
  refine y_aload_n (i := 0) dX5_performGathered_0 rfl rfl ?_
  replace hf := bnd hf
  obtain ⟨r101, er101, hf⟩ := hf
  refine y_getR er101 fl5_11 dX5_performGathered_1 ?_
  refine y_iload_n (i := 2) dX5_performGathered_4 rfl rfl ?_
  replace hf := bnd hf
  obtain ⟨a102, rfl, hf⟩ := hf
  replace hf := bnd hf
  obtain ⟨r103, er103, hf⟩ := hf
  refine y_aaload er103 dX5_performGathered_5 ?_
  refine y_astore_n (i := 3) (lv2 := [some (.inr (.inr (some a0))), some (.inr (.inr r1)), some (.inl x2), some (.inr (.inr r103)), none, none, none]) dX5_performGathered_6 rfl (by decide) rfl ?_
  refine y_aload_n (i := 3) dX5_performGathered_7 rfl rfl ?_
  replace hf := bnd hf
  obtain ⟨a105, rfl, hf⟩ := hf
  replace hf := bnd hf
  obtain ⟨fs106, efs106, hf⟩ := hf
  replace hf := bnd hf
  obtain ⟨q104, eq104, hf⟩ := hf
  refine y_callV (mj := miX9_count) (args := []) (st := []) dX5_performGathered_8 (gd_of 499 rfl rfl) (gd_of 383 rfl rfl) (gd_of 384 rfl rfl) okX9_count (obO_spec efs106) rfl rfl (xX9_count (by omega) eq104) (Nat.le_of_ble_eq_true rfl) rfl ?_
  show Y l g miX5_performGathered (d + 1) 11 [some (.inr (.inr (some a0))), some (.inr (.inr r1)), some (.inl x2), some (.inr (.inr (some a105))), none, none, none] [.inl q104.1] q104.2 _
  refine y_aload_n (i := 1) dX5_performGathered_11 rfl rfl ?_
  replace hf := bnd hf
  obtain ⟨a107, rfl, hf⟩ := hf
  replace hf := bnd hf
  obtain ⟨x108, ex108, hf⟩ := hf
  refine y_getI ex108 fl5_217 dX5_performGathered_12 ?_
  refine y_isub dX5_performGathered_15 ?_
  refine y_istore (i := 4) (lv2 := [some (.inr (.inr (some a0))), some (.inr (.inr (some a107))), some (.inl x2), some (.inr (.inr (some a105))), some (.inl (q104.1 - x108)), none, none]) dX5_performGathered_16 (by decide) rfl ?_
  refine y_aload_n (i := 0) dX5_performGathered_18 rfl rfl ?_
  replace hf := bnd hf
  obtain ⟨r109, er109, hf⟩ := hf
  refine y_getR er109 fl5_31 dX5_performGathered_19 ?_
  refine y_aload_n (i := 1) dX5_performGathered_22 rfl rfl ?_
  replace hf := bnd hf
  obtain ⟨x110, ex110, hf⟩ := hf
  refine y_getI ex110 fl5_217 dX5_performGathered_23 ?_
  replace hf := bnd hf
  obtain ⟨a112, rfl, hf⟩ := hf
  replace hf := bnd hf
  obtain ⟨fs113, efs113, hf⟩ := hf
  replace hf := bnd hf
  obtain ⟨q111, eq111, hf⟩ := hf
  refine y_callV (mj := miX4_make) (args := [.inl x110]) (st := []) dX5_performGathered_26 (gd_of 615 rfl rfl) (gd_of 442 rfl rfl) (gd_of 443 rfl rfl) okX4_make (obO_spec efs113) rfl rfl (xX4_make (by omega) eq111) (Nat.le_of_ble_eq_true rfl) rfl ?_
  show Y l g miX5_performGathered (d + 1) 29 [some (.inr (.inr (some a0))), some (.inr (.inr (some a107))), some (.inl x2), some (.inr (.inr (some a105))), some (.inl (q104.1 - x108)), none, none] [.inl q111.1] q111.2 _
  refine y_istore (i := 5) (lv2 := [some (.inr (.inr (some a0))), some (.inr (.inr (some a107))), some (.inl x2), some (.inr (.inr (some a105))), some (.inl (q104.1 - x108)), some (.inl q111.1), none]) dX5_performGathered_29 (by decide) rfl ?_
  refine y_iload (i := 5) dX5_performGathered_31 rfl ?_
  refine y_iconst (v := (-1)) dX5_performGathered_33 (by decide) ?_
  refine y_icmp_ne (tgt := 40) dX5_performGathered_34 (by decide) (fun hc => ?_) (fun hc => ?_)
  · rw [if_neg hc] at hf
    refine y_iconst (v := 0) dX5_performGathered_40 (by decide) ?_
    refine y_istore (i := 6) (lv2 := [some (.inr (.inr (some a0))), some (.inr (.inr (some a107))), some (.inl x2), some (.inr (.inr (some a105))), some (.inl (q104.1 - x108)), some (.inl q111.1), some (.inl 0)]) dX5_performGathered_41 (by decide) rfl ?_
    refine Y.weak (lv2 := [some (.inr (.inr (some a0))), some (.inr (.inr (some a107))), some (.inl x2), some (.inr (.inr (some a105))), some (.inl (q104.1 - x108)), some (.inl q111.1), some (.inl 0)]) [true, true, true, true, true, true, true] rfl ?_
    exact xX5_performGathered_43 hP hK 4000 _ _ _ _ _ _ _ _ _ hf
  · rw [if_pos hc] at hf
    refine y_bipush (v := 10) dX5_performGathered_37 (by decide) ?_
    obtain rfl := Option.some.inj hf
    exact y_ret (v := some (.inl 10)) dX5_performGathered_39 rfl
set_option maxRecDepth 100000 in
theorem dX5_performLeft_0 : decode prog_7_method_19_code 0 = .ok (.aload_n 0, 1) := by decide +kernel
set_option maxRecDepth 100000 in
theorem dX5_performLeft_1 : decode prog_7_method_19_code 1 = .ok (.getfield 11, 3) := by decide +kernel
set_option maxRecDepth 100000 in
theorem dX5_performLeft_4 : decode prog_7_method_19_code 4 = .ok (.iload_n 2, 1) := by decide +kernel
set_option maxRecDepth 100000 in
theorem dX5_performLeft_5 : decode prog_7_method_19_code 5 = .ok (.aaload, 1) := by decide +kernel
set_option maxRecDepth 100000 in
theorem dX5_performLeft_6 : decode prog_7_method_19_code 6 = .ok (.astore_n 3, 1) := by decide +kernel
set_option maxRecDepth 100000 in
theorem dX5_performLeft_7 : decode prog_7_method_19_code 7 = .ok (.aload_n 0, 1) := by decide +kernel
set_option maxRecDepth 100000 in
theorem dX5_performLeft_8 : decode prog_7_method_19_code 8 = .ok (.iload_n 2, 1) := by decide +kernel
set_option maxRecDepth 100000 in
theorem dX5_performLeft_9 : decode prog_7_method_19_code 9 = .ok (.invokevirtual 94, 3) := by decide +kernel
set_option maxRecDepth 100000 in
theorem dX5_performLeft_12 : decode prog_7_method_19_code 12 = .ok (.astore 4, 2) := by decide +kernel
set_option maxRecDepth 100000 in
theorem dX5_performLeft_14 : decode prog_7_method_19_code 14 = .ok (.aload 4, 2) := by decide +kernel
set_option maxRecDepth 100000 in
theorem dX5_performLeft_16 : decode prog_7_method_19_code 16 = .ok (.aload_n 3, 1) := by decide +kernel
set_option maxRecDepth 100000 in
theorem dX5_performLeft_17 : decode prog_7_method_19_code 17 = .ok (.iconst 0, 1) := by decide +kernel
set_option maxRecDepth 100000 in
theorem dX5_performLeft_18 : decode prog_7_method_19_code 18 = .ok (.aload_n 1, 1) := by decide +kernel
set_option maxRecDepth 100000 in
theorem dX5_performLeft_19 : decode prog_7_method_19_code 19 = .ok (.getfield 217, 3) := by decide +kernel
set_option maxRecDepth 100000 in
theorem dX5_performLeft_22 : decode prog_7_method_19_code 22 = .ok (.invokevirtual 213, 3) := by decide +kernel
set_option maxRecDepth 100000 in
theorem dX5_performLeft_25 : decode prog_7_method_19_code 25 = .ok (.aload 4, 2) := by decide +kernel
set_option maxRecDepth 100000 in
theorem dX5_performLeft_27 : decode prog_7_method_19_code 27 = .ok (.aload_n 3, 1) := by decide +kernel
set_option maxRecDepth 100000 in
theorem dX5_performLeft_28 : decode prog_7_method_19_code 28 = .ok (.aload_n 1, 1) := by decide +kernel
set_option maxRecDepth 100000 in
theorem dX5_performLeft_29 : decode prog_7_method_19_code 29 = .ok (.getfield 217, 3) := by decide +kernel
set_option maxRecDepth 100000 in
theorem dX5_performLeft_32 : decode prog_7_method_19_code 32 = .ok (.iconst 1, 1) := by decide +kernel
set_option maxRecDepth 100000 in
theorem dX5_performLeft_33 : decode prog_7_method_19_code 33 = .ok (.iadd, 1) := by decide +kernel
set_option maxRecDepth 100000 in
theorem dX5_performLeft_34 : decode prog_7_method_19_code 34 = .ok (.aload_n 3, 1) := by decide +kernel
set_option maxRecDepth 100000 in
theorem dX5_performLeft_35 : decode prog_7_method_19_code 35 = .ok (.invokevirtual 67, 3) := by decide +kernel
set_option maxRecDepth 100000 in
theorem dX5_performLeft_38 : decode prog_7_method_19_code 38 = .ok (.invokevirtual 213, 3) := by decide +kernel
set_option maxRecDepth 100000 in
theorem dX5_performLeft_41 : decode prog_7_method_19_code 41 = .ok (.aload_n 0, 1) := by decide +kernel
set_option maxRecDepth 100000 in
theorem dX5_performLeft_42 : decode prog_7_method_19_code 42 = .ok (.aload_n 1, 1) := by decide +kernel
set_option maxRecDepth 100000 in
theorem dX5_performLeft_43 : decode prog_7_method_19_code 43 = .ok (.getfield 228, 3) := by decide +kernel
set_option maxRecDepth 100000 in
theorem dX5_performLeft_46 : decode prog_7_method_19_code 46 = .ok (.iload_n 2, 1) := by decide +kernel
set_option maxRecDepth 100000 in
theorem dX5_performLeft_47 : decode prog_7_method_19_code 47 = .ok (.iconst 1, 1) := by decide +kernel
set_option maxRecDepth 100000 in
theorem dX5_performLeft_48 : decode prog_7_method_19_code 48 = .ok (.iadd, 1) := by decide +kernel
set_option maxRecDepth 100000 in
theorem dX5_performLeft_49 : decode prog_7_method_19_code 49 = .ok (.invokevirtual 98, 3) := by decide +kernel
set_option maxRecDepth 100000 in
theorem dX5_performLeft_52 : decode prog_7_method_19_code 52 = .ok (.ireturn, 1) := by decide +kernel

def fX5_performLeft (z : Nat → Nat) (P : Nat → Option Nat → Int32 → aH → Option (Int32 × aH)) (a0 : Nat) (r1 : Option Nat) (x2 : Int32) (h : aH) : Option (Int32 × aH) :=
  (rdR h a0 [4] 1).bind fun r101 =>
  (r101).bind fun a102 =>
  (arR h a102 x2).bind fun r103 =>
  (obO h a0 4).bind fun fs105 =>
  (fX5_opened z a0 x2 h).bind fun q104 =>
  (r1).bind fun a106 =>
  (rdI q104.2 a106 [2] 4).bind fun x107 =>
  (q104.1).bind fun a109 =>
  (obO q104.2 a109 7).bind fun fs110 =>
  (fX9_addSome z a109 r103 0 x107 q104.2).bind fun q108 =>
  (rdI q108 a106 [2] 4).bind fun x111 =>
  (r103).bind fun a113 =>
  (obO q108 a113 7).bind fun fs114 =>
  (fX9_count z a113 q108).bind fun q112 =>
  (obO q112.2 a109 7).bind fun fs116 =>
  (fX9_addSome z a109 (some a113) (x111 + 1) q112.1 q112.2).bind fun q115 =>
  (rdR q115 a106 [2] 1).bind fun r117 =>
  (obO q115 a0 4).bind fun fs119 =>
  (P a0 r117 (x2 + 1) q115).bind fun q118 =>
  some (q118.1, q118.2)
set_option maxHeartbeats 4000000 in
set_option maxRecDepth 100000 in
theorem xX5_performLeft {l : Launch} {g : aG} {d : Nat} {P : Nat → Option Nat → Int32 → aH → Option (Int32 × aH)} {dP : Nat} (hP : ∀ (d9 : Nat), dP ≤ d9 → ∀ (a0 : Nat) (r1 : Option Nat) (x2 : Int32) (h : aH) (q : Int32 × aH), P a0 r1 x2 h = some q → Ev l g miX5_perform d9 [.inr (.inr (some a0)), .inr (.inr r1), .inl x2] h (some (.inl q.1), q.2)) (hK : dP + 2 ≤ d) {a0 : Nat} {r1 : Option Nat} {x2 : Int32} {h : aH} {q : Int32 × aH} (hf : fX5_performLeft g.2.2 P a0 r1 x2 h = some q) : Ev l g miX5_performLeft d [.inr (.inr (some a0)), .inr (.inr r1), .inl x2] h (some (.inl q.1), q.2) := by
  obtain ⟨d, rfl⟩ : ∃ e, d = e + 1 := ⟨d - 1, by omega⟩
  refine ⟨?_, Or.inl rfl, Nat.le_of_ble_eq_true rfl⟩
  unfold fX5_performLeft at hf
  show Y l g miX5_performLeft (d + 1) 0 [some (.inr (.inr (some a0))), some (.inr (.inr r1)), some (.inl x2), none, none] [] h _
  refine y_aload_n (i := 0) dX5_performLeft_0 rfl rfl ?_
  replace hf := bnd hf
  obtain ⟨r101, er101, hf⟩ := hf
  refine y_getR er101 fl5_11 dX5_performLeft_1 ?_
  refine y_iload_n (i := 2) dX5_performLeft_4 rfl rfl ?_
  replace hf := bnd hf
  obtain ⟨a102, rfl, hf⟩ := hf
  replace hf := bnd hf
  obtain ⟨r103, er103, hf⟩ := hf
  refine y_aaload er103 dX5_performLeft_5 ?_
  refine y_astore_n (i := 3) (lv2 := [some (.inr (.inr (some a0))), some (.inr (.inr r1)), some (.inl x2), some (.inr (.inr r103)), none]) dX5_performLeft_6 rfl (by decide) rfl ?_
  refine y_aload_n (i := 0) dX5_performLeft_7 rfl rfl ?_
  refine y_iload_n (i := 2) dX5_performLeft_8 rfl rfl ?_
  replace hf := bnd hf
  obtain ⟨fs105, efs105, hf⟩ := hf
  replace hf := bnd hf
  obtain ⟨q104, eq104, hf⟩ := hf
  refine y_callV (mj := miX5_opened) (args := [.inl x2]) (st := []) dX5_performLeft_9 (gd_of 531 rfl rfl) (gd_of 533 rfl rfl) (gd_of 9 rfl rfl) okX5_opened (obO_spec efs105) rfl rfl (xX5_opened (by omega) eq104) (Nat.le_of_ble_eq_true rfl) rfl ?_
  show Y l g miX5_performLeft (d + 1) 12 [some (.inr (.inr (some a0))), some (.inr (.inr r1)), some (.inl x2), some (.inr (.inr r103)), none] [.inr (.inr q104.1)] q104.2 _
  refine y_astore (i := 4) (lv2 := [some (.inr (.inr (some a0))), some (.inr (.inr r1)), some (.inl x2), some (.inr (.inr r103)), some (.inr (.inr q104.1))]) dX5_performLeft_12 (by decide) rfl ?_
  refine y_aload (i := 4) dX5_performLeft_14 rfl ?_
  refine y_aload_n (i := 3) dX5_performLeft_16 rfl rfl ?_
  refine y_iconst (v := 0) dX5_performLeft_17 (by decide) ?_
  refine y_aload_n (i := 1) dX5_performLeft_18 rfl rfl ?_
  replace hf := bnd hf
  obtain ⟨a106, rfl, hf⟩ := hf
  replace hf := bnd hf
  obtain ⟨x107, ex107, hf⟩ := hf
  refine y_getI ex107 fl5_217 dX5_performLeft_19 ?_
  replace hf := bnd hf
  obtain ⟨a109, ea109, hf⟩ := hf
  rw [ea109]
  replace hf := bnd hf
  obtain ⟨fs110, efs110, hf⟩ := hf
  replace hf := bnd hf
  obtain ⟨q108, eq108, hf⟩ := hf
  refine y_callV (mj := miX9_addSome) (args := [.inr (.inr r103), .inl 0, .inl x107]) (st := []) dX5_performLeft_22 (gd_of 535 rfl rfl) (gd_of 536 rfl rfl) (gd_of 537 rfl rfl) okX9_addSome (obO_spec efs110) rfl rfl (xX9_addSome (by omega) eq108) (Nat.le_of_ble_eq_true rfl) rfl ?_
  show Y l g miX5_performLeft (d + 1) 25 [some (.inr (.inr (some a0))), some (.inr (.inr (some a106))), some (.inl x2), some (.inr (.inr r103)), some (.inr (.inr (some a109)))] [] q108 _
  refine y_aload (i := 4) dX5_performLeft_25 rfl ?_
  refine y_aload_n (i := 3) dX5_performLeft_27 rfl rfl ?_
  refine y_aload_n (i := 1) dX5_performLeft_28 rfl rfl ?_
  replace hf := bnd hf
  obtain ⟨x111, ex111, hf⟩ := hf
  refine y_getI ex111 fl5_217 dX5_performLeft_29 ?_
  refine y_iconst (v := 1) dX5_performLeft_32 (by decide) ?_
  refine y_iadd dX5_performLeft_33 ?_
  refine y_aload_n (i := 3) dX5_performLeft_34 rfl rfl ?_
  replace hf := bnd hf
  obtain ⟨a113, rfl, hf⟩ := hf
  replace hf := bnd hf
  obtain ⟨fs114, efs114, hf⟩ := hf
  replace hf := bnd hf
  obtain ⟨q112, eq112, hf⟩ := hf
  refine y_callV (mj := miX9_count) (args := []) (st := [.inl (x111 + 1), .inr (.inr (some a113)), .inr (.inr (some a109))]) dX5_performLeft_35 (gd_of 499 rfl rfl) (gd_of 383 rfl rfl) (gd_of 384 rfl rfl) okX9_count (obO_spec efs114) rfl rfl (xX9_count (by omega) eq112) (Nat.le_of_ble_eq_true rfl) rfl ?_
  show Y l g miX5_performLeft (d + 1) 38 [some (.inr (.inr (some a0))), some (.inr (.inr (some a106))), some (.inl x2), some (.inr (.inr (some a113))), some (.inr (.inr (some a109)))] [.inl q112.1, .inl (x111 + 1), .inr (.inr (some a113)), .inr (.inr (some a109))] q112.2 _
  replace hf := bnd hf
  obtain ⟨fs116, efs116, hf⟩ := hf
  replace hf := bnd hf
  obtain ⟨q115, eq115, hf⟩ := hf
  refine y_callV (mj := miX9_addSome) (args := [.inr (.inr (some a113)), .inl (x111 + 1), .inl q112.1]) (st := []) dX5_performLeft_38 (gd_of 535 rfl rfl) (gd_of 536 rfl rfl) (gd_of 537 rfl rfl) okX9_addSome (obO_spec efs116) rfl rfl (xX9_addSome (by omega) eq115) (Nat.le_of_ble_eq_true rfl) rfl ?_
  show Y l g miX5_performLeft (d + 1) 41 [some (.inr (.inr (some a0))), some (.inr (.inr (some a106))), some (.inl x2), some (.inr (.inr (some a113))), some (.inr (.inr (some a109)))] [] q115 _
  refine y_aload_n (i := 0) dX5_performLeft_41 rfl rfl ?_
  refine y_aload_n (i := 1) dX5_performLeft_42 rfl rfl ?_
  replace hf := bnd hf
  obtain ⟨r117, er117, hf⟩ := hf
  refine y_getR er117 fl5_228 dX5_performLeft_43 ?_
  refine y_iload_n (i := 2) dX5_performLeft_46 rfl rfl ?_
  refine y_iconst (v := 1) dX5_performLeft_47 (by decide) ?_
  refine y_iadd dX5_performLeft_48 ?_
  replace hf := bnd hf
  obtain ⟨fs119, efs119, hf⟩ := hf
  replace hf := bnd hf
  obtain ⟨q118, eq118, hf⟩ := hf
  refine y_callV (mj := miX5_perform) (args := [.inr (.inr r117), .inl (x2 + 1)]) (st := []) dX5_performLeft_49 (gd_of 542 rfl rfl) (gd_of 519 rfl rfl) (gd_of 520 rfl rfl) okX5_perform (obO_spec efs119) rfl rfl (hP _ (by omega) _ _ _ _ _ eq118) (Nat.le_of_ble_eq_true rfl) rfl ?_
  show Y l g miX5_performLeft (d + 1) 52 [some (.inr (.inr (some a0))), some (.inr (.inr (some a106))), some (.inl x2), some (.inr (.inr (some a113))), some (.inr (.inr (some a109)))] [.inl q118.1] q118.2 _
  obtain rfl := Option.some.inj hf
  exact y_ret (v := some (.inl q118.1)) dX5_performLeft_52 rfl
set_option maxRecDepth 100000 in
theorem dX5_performMoved_0 : decode prog_7_method_20_code 0 = .ok (.aload_n 0, 1) := by decide +kernel
set_option maxRecDepth 100000 in
theorem dX5_performMoved_1 : decode prog_7_method_20_code 1 = .ok (.getfield 11, 3) := by decide +kernel
set_option maxRecDepth 100000 in
theorem dX5_performMoved_4 : decode prog_7_method_20_code 4 = .ok (.iload_n 2, 1) := by decide +kernel
set_option maxRecDepth 100000 in
theorem dX5_performMoved_5 : decode prog_7_method_20_code 5 = .ok (.aaload, 1) := by decide +kernel
set_option maxRecDepth 100000 in
theorem dX5_performMoved_6 : decode prog_7_method_20_code 6 = .ok (.astore_n 3, 1) := by decide +kernel
set_option maxRecDepth 100000 in
theorem dX5_performMoved_7 : decode prog_7_method_20_code 7 = .ok (.aload_n 0, 1) := by decide +kernel
set_option maxRecDepth 100000 in
theorem dX5_performMoved_8 : decode prog_7_method_20_code 8 = .ok (.iload_n 2, 1) := by decide +kernel
set_option maxRecDepth 100000 in
theorem dX5_performMoved_9 : decode prog_7_method_20_code 9 = .ok (.invokevirtual 94, 3) := by decide +kernel
set_option maxRecDepth 100000 in
theorem dX5_performMoved_12 : decode prog_7_method_20_code 12 = .ok (.astore 4, 2) := by decide +kernel
set_option maxRecDepth 100000 in
theorem dX5_performMoved_14 : decode prog_7_method_20_code 14 = .ok (.iconst 0, 1) := by decide +kernel
set_option maxRecDepth 100000 in
theorem dX5_performMoved_15 : decode prog_7_method_20_code 15 = .ok (.istore 5, 2) := by decide +kernel
set_option maxRecDepth 100000 in
theorem dX5_performMoved_17 : decode prog_7_method_20_code 17 = .ok (.iload 5, 2) := by decide +kernel
set_option maxRecDepth 100000 in
theorem dX5_performMoved_19 : decode prog_7_method_20_code 19 = .ok (.aload_n 3, 1) := by decide +kernel
set_option maxRecDepth 100000 in
theorem dX5_performMoved_20 : decode prog_7_method_20_code 20 = .ok (.invokevirtual 67, 3) := by decide +kernel
set_option maxRecDepth 100000 in
theorem dX5_performMoved_23 : decode prog_7_method_20_code 23 = .ok (.if_icmp .ge 41, 3) := by decide +kernel
set_option maxRecDepth 100000 in
theorem dX5_performMoved_26 : decode prog_7_method_20_code 26 = .ok (.aload_n 1, 1) := by decide +kernel
set_option maxRecDepth 100000 in
theorem dX5_performMoved_27 : decode prog_7_method_20_code 27 = .ok (.getfield 217, 3) := by decide +kernel
set_option maxRecDepth 100000 in
theorem dX5_performMoved_30 : decode prog_7_method_20_code 30 = .ok (.aload_n 3, 1) := by decide +kernel
set_option maxRecDepth 100000 in
theorem dX5_performMoved_31 : decode prog_7_method_20_code 31 = .ok (.invokevirtual 67, 3) := by decide +kernel
set_option maxRecDepth 100000 in
theorem dX5_performMoved_34 : decode prog_7_method_20_code 34 = .ok (.iload 5, 2) := by decide +kernel
set_option maxRecDepth 100000 in
theorem dX5_performMoved_36 : decode prog_7_method_20_code 36 = .ok (.invokestatic 232, 3) := by decide +kernel
set_option maxRecDepth 100000 in
theorem dX5_performMoved_39 : decode prog_7_method_20_code 39 = .ok (.istore 6, 2) := by decide +kernel
set_option maxRecDepth 100000 in
theorem dX5_performMoved_41 : decode prog_7_method_20_code 41 = .ok (.aload 4, 2) := by decide +kernel
set_option maxRecDepth 100000 in
theorem dX5_performMoved_43 : decode prog_7_method_20_code 43 = .ok (.aload_n 3, 1) := by decide +kernel
set_option maxRecDepth 100000 in
theorem dX5_performMoved_44 : decode prog_7_method_20_code 44 = .ok (.iload 6, 2) := by decide +kernel
set_option maxRecDepth 100000 in
theorem dX5_performMoved_46 : decode prog_7_method_20_code 46 = .ok (.invokevirtual 54, 3) := by decide +kernel
set_option maxRecDepth 100000 in
theorem dX5_performMoved_49 : decode prog_7_method_20_code 49 = .ok (.aload_n 3, 1) := by decide +kernel
set_option maxRecDepth 100000 in
theorem dX5_performMoved_50 : decode prog_7_method_20_code 50 = .ok (.iload 6, 2) := by decide +kernel
set_option maxRecDepth 100000 in
theorem dX5_performMoved_52 : decode prog_7_method_20_code 52 = .ok (.invokevirtual 82, 3) := by decide +kernel
set_option maxRecDepth 100000 in
theorem dX5_performMoved_55 : decode prog_7_method_20_code 55 = .ok (.invokevirtual 90, 3) := by decide +kernel
set_option maxRecDepth 100000 in
theorem dX5_performMoved_58 : decode prog_7_method_20_code 58 = .ok (.iinc 5 1, 3) := by decide +kernel
set_option maxRecDepth 100000 in
theorem dX5_performMoved_61 : decode prog_7_method_20_code 61 = .ok (.goto (-44), 3) := by decide +kernel
set_option maxRecDepth 100000 in
theorem dX5_performMoved_64 : decode prog_7_method_20_code 64 = .ok (.aload_n 0, 1) := by decide +kernel
set_option maxRecDepth 100000 in
theorem dX5_performMoved_65 : decode prog_7_method_20_code 65 = .ok (.aload_n 1, 1) := by decide +kernel
set_option maxRecDepth 100000 in
theorem dX5_performMoved_66 : decode prog_7_method_20_code 66 = .ok (.getfield 228, 3) := by decide +kernel
set_option maxRecDepth 100000 in
theorem dX5_performMoved_69 : decode prog_7_method_20_code 69 = .ok (.iload_n 2, 1) := by decide +kernel
set_option maxRecDepth 100000 in
theorem dX5_performMoved_70 : decode prog_7_method_20_code 70 = .ok (.iconst 1, 1) := by decide +kernel
set_option maxRecDepth 100000 in
theorem dX5_performMoved_71 : decode prog_7_method_20_code 71 = .ok (.iadd, 1) := by decide +kernel
set_option maxRecDepth 100000 in
theorem dX5_performMoved_72 : decode prog_7_method_20_code 72 = .ok (.invokevirtual 98, 3) := by decide +kernel
set_option maxRecDepth 100000 in
theorem dX5_performMoved_75 : decode prog_7_method_20_code 75 = .ok (.ireturn, 1) := by decide +kernel
set_option maxRecDepth 100000 in
theorem okX6_placeAt : mOk miX6_placeAt 3 := ⟨(gd_of 338 rfl rfl), (gd_of 77 rfl rfl), by decide +kernel, ⟨by decide +kernel, by decide +kernel, by decide +kernel⟩, by decide⟩
def fX5_performMoved_17 (z : Nat → Nat) (P : Nat → Option Nat → Int32 → aH → Option (Int32 × aH)) : Nat → Nat → Option Nat → Int32 → Option Nat → Option Nat → Int32 → aH → Option (Int32 × aH)
  | 0, _, _, _, _, _, _, _ => none
  | n + 1, a0, r1, x2, r3, r4, x5, h => (r3).bind fun a102 =>
  (obO h a102 7).bind fun fs103 =>
  (fX9_count z a102 h).bind fun q101 =>
  (if q101.1 ≤ x5 then
  (r1).bind fun a104 =>
  (rdR q101.2 a104 [2] 1).bind fun r105 =>
  (obO q101.2 a0 4).bind fun fs107 =>
  (P a0 r105 (x2 + 1) q101.2).bind fun q106 =>
  some (q106.1, q106.2)
  else
  (r1).bind fun a108 =>
  (rdI q101.2 a108 [2] 4).bind fun x109 =>
  (obO q101.2 a102 7).bind fun fs111 =>
  (fX9_count z a102 q101.2).bind fun q110 =>
  (fX6_placeAt z x109 q110.1 x5 q110.2).bind fun q112 =>
  (obO q112.2 a102 7).bind fun fs114 =>
  (fX9_kindAt z a102 q112.1 q112.2).bind fun q113 =>
  (obO q113.2 a102 7).bind fun fs116 =>
  (fX9_numberAt z a102 q112.1 q113.2).bind fun q115 =>
  (r4).bind fun a118 =>
  (obO q115.2 a118 7).bind fun fs119 =>
  (fX9_add z a118 q113.1 q115.1 q115.2).bind fun q117 =>
  fX5_performMoved_17 z P n a0 (some a108) x2 (some a102) (some a118) (x5 + 1) q117)
set_option maxHeartbeats 4000000 in
set_option maxRecDepth 100000 in
theorem xX5_performMoved_17 {l : Launch} {g : aG} {d : Nat} {P : Nat → Option Nat → Int32 → aH → Option (Int32 × aH)} {dP : Nat} (hP : ∀ (d9 : Nat), dP ≤ d9 → ∀ (a0 : Nat) (r1 : Option Nat) (x2 : Int32) (h : aH) (q : Int32 × aH), P a0 r1 x2 h = some q → Ev l g miX5_perform d9 [.inr (.inr (some a0)), .inr (.inr r1), .inl x2] h (some (.inl q.1), q.2)) (hK : dP + 2 ≤ d + 1) : ∀ (n : Nat) (a0 : Nat) (r1 : Option Nat) (x2 : Int32) (r3 : Option Nat) (r4 : Option Nat) (x5 : Int32) (h : aH) (q : Int32 × aH), fX5_performMoved_17 g.2.2 P n a0 r1 x2 r3 r4 x5 h = some q → Y l g miX5_performMoved (d + 1) 17 [some (.inr (.inr (some a0))), some (.inr (.inr r1)), some (.inl x2), some (.inr (.inr r3)), some (.inr (.inr r4)), some (.inl x5), none] [] h (some (.inl q.1), q.2) := by
  intro n
  induction n with
  | zero => intro a0 r1 x2 r3 r4 x5 h q hf; simp [fX5_performMoved_17] at hf
  | succ n ih =>
    intro a0 r1 x2 r3 r4 x5 h q hf
    rw [fX5_performMoved_17] at hf
    refine y_iload (i := 5) dX5_performMoved_17 rfl ?_
    refine y_aload_n (i := 3) dX5_performMoved_19 rfl rfl ?_
    replace hf := bnd hf
    obtain ⟨a102, rfl, hf⟩ := hf
    replace hf := bnd hf
    obtain ⟨fs103, efs103, hf⟩ := hf
    replace hf := bnd hf
    obtain ⟨q101, eq101, hf⟩ := hf
    refine y_callV (mj := miX9_count) (args := []) (st := [.inl x5]) dX5_performMoved_20 (gd_of 499 rfl rfl) (gd_of 383 rfl rfl) (gd_of 384 rfl rfl) okX9_count (obO_spec efs103) rfl rfl (xX9_count (by omega) eq101) (Nat.le_of_ble_eq_true rfl) rfl ?_
    show Y l g miX5_performMoved (d + 1) 23 [some (.inr (.inr (some a0))), some (.inr (.inr r1)), some (.inl x2), some (.inr (.inr (some a102))), some (.inr (.inr r4)), some (.inl x5), none] [.inl q101.1, .inl x5] q101.2 _
    refine y_icmp_ge (tgt := 64) dX5_performMoved_23 (by decide) (fun hc => ?_) (fun hc => ?_)
    · rw [if_pos hc] at hf
      refine y_aload_n (i := 0) dX5_performMoved_64 rfl rfl ?_
      refine y_aload_n (i := 1) dX5_performMoved_65 rfl rfl ?_
      replace hf := bnd hf
      obtain ⟨a104, rfl, hf⟩ := hf
      replace hf := bnd hf
      obtain ⟨r105, er105, hf⟩ := hf
      refine y_getR er105 fl5_228 dX5_performMoved_66 ?_
      refine y_iload_n (i := 2) dX5_performMoved_69 rfl rfl ?_
      refine y_iconst (v := 1) dX5_performMoved_70 (by decide) ?_
      refine y_iadd dX5_performMoved_71 ?_
      replace hf := bnd hf
      obtain ⟨fs107, efs107, hf⟩ := hf
      replace hf := bnd hf
      obtain ⟨q106, eq106, hf⟩ := hf
      refine y_callV (mj := miX5_perform) (args := [.inr (.inr r105), .inl (x2 + 1)]) (st := []) dX5_performMoved_72 (gd_of 542 rfl rfl) (gd_of 519 rfl rfl) (gd_of 520 rfl rfl) okX5_perform (obO_spec efs107) rfl rfl (hP _ (by omega) _ _ _ _ _ eq106) (Nat.le_of_ble_eq_true rfl) rfl ?_
      show Y l g miX5_performMoved (d + 1) 75 [some (.inr (.inr (some a0))), some (.inr (.inr (some a104))), some (.inl x2), some (.inr (.inr (some a102))), some (.inr (.inr r4)), some (.inl x5), none] [.inl q106.1] q106.2 _
      obtain rfl := Option.some.inj hf
      exact y_ret (v := some (.inl q106.1)) dX5_performMoved_75 rfl
    · rw [if_neg hc] at hf
      refine y_aload_n (i := 1) dX5_performMoved_26 rfl rfl ?_
      replace hf := bnd hf
      obtain ⟨a108, rfl, hf⟩ := hf
      replace hf := bnd hf
      obtain ⟨x109, ex109, hf⟩ := hf
      refine y_getI ex109 fl5_217 dX5_performMoved_27 ?_
      refine y_aload_n (i := 3) dX5_performMoved_30 rfl rfl ?_
      replace hf := bnd hf
      obtain ⟨fs111, efs111, hf⟩ := hf
      replace hf := bnd hf
      obtain ⟨q110, eq110, hf⟩ := hf
      refine y_callV (mj := miX9_count) (args := []) (st := [.inl x109]) dX5_performMoved_31 (gd_of 499 rfl rfl) (gd_of 383 rfl rfl) (gd_of 384 rfl rfl) okX9_count (obO_spec efs111) rfl rfl (xX9_count (by omega) eq110) (Nat.le_of_ble_eq_true rfl) rfl ?_
      show Y l g miX5_performMoved (d + 1) 34 [some (.inr (.inr (some a0))), some (.inr (.inr (some a108))), some (.inl x2), some (.inr (.inr (some a102))), some (.inr (.inr r4)), some (.inl x5), none] [.inl q110.1, .inl x109] q110.2 _
      refine y_iload (i := 5) dX5_performMoved_34 rfl ?_
      replace hf := bnd hf
      obtain ⟨q112, eq112, hf⟩ := hf
      refine y_callS (mj := miX6_placeAt) (args := [.inl x109, .inl q110.1, .inl x5]) (st := []) dX5_performMoved_36 (gd_of 551 rfl rfl) (gd_of 337 rfl rfl) okX6_placeAt (xX6_placeAt (by omega) eq112) (Nat.le_of_ble_eq_true rfl) rfl ?_
      show Y l g miX5_performMoved (d + 1) 39 [some (.inr (.inr (some a0))), some (.inr (.inr (some a108))), some (.inl x2), some (.inr (.inr (some a102))), some (.inr (.inr r4)), some (.inl x5), none] [.inl q112.1] q112.2 _
      refine y_istore (i := 6) (lv2 := [some (.inr (.inr (some a0))), some (.inr (.inr (some a108))), some (.inl x2), some (.inr (.inr (some a102))), some (.inr (.inr r4)), some (.inl x5), some (.inl q112.1)]) dX5_performMoved_39 (by decide) rfl ?_
      refine y_aload (i := 4) dX5_performMoved_41 rfl ?_
      refine y_aload_n (i := 3) dX5_performMoved_43 rfl rfl ?_
      refine y_iload (i := 6) dX5_performMoved_44 rfl ?_
      replace hf := bnd hf
      obtain ⟨fs114, efs114, hf⟩ := hf
      replace hf := bnd hf
      obtain ⟨q113, eq113, hf⟩ := hf
      refine y_callV (mj := miX9_kindAt) (args := [.inl q112.1]) (st := [.inr (.inr r4)]) dX5_performMoved_46 (gd_of 501 rfl rfl) (gd_of 387 rfl rfl) (gd_of 388 rfl rfl) okX9_kindAt (obO_spec efs114) rfl rfl (xX9_kindAt (by omega) eq113) (Nat.le_of_ble_eq_true rfl) rfl ?_
      show Y l g miX5_performMoved (d + 1) 49 [some (.inr (.inr (some a0))), some (.inr (.inr (some a108))), some (.inl x2), some (.inr (.inr (some a102))), some (.inr (.inr r4)), some (.inl x5), some (.inl q112.1)] [.inl q113.1, .inr (.inr r4)] q113.2 _
      refine y_aload_n (i := 3) dX5_performMoved_49 rfl rfl ?_
      refine y_iload (i := 6) dX5_performMoved_50 rfl ?_
      replace hf := bnd hf
      obtain ⟨fs116, efs116, hf⟩ := hf
      replace hf := bnd hf
      obtain ⟨q115, eq115, hf⟩ := hf
      refine y_callV (mj := miX9_numberAt) (args := [.inl q112.1]) (st := [.inl q113.1, .inr (.inr r4)]) dX5_performMoved_52 (gd_of 515 rfl rfl) (gd_of 427 rfl rfl) (gd_of 428 rfl rfl) okX9_numberAt (obO_spec efs116) rfl rfl (xX9_numberAt (by omega) eq115) (Nat.le_of_ble_eq_true rfl) rfl ?_
      show Y l g miX5_performMoved (d + 1) 55 [some (.inr (.inr (some a0))), some (.inr (.inr (some a108))), some (.inl x2), some (.inr (.inr (some a102))), some (.inr (.inr r4)), some (.inl x5), some (.inl q112.1)] [.inr (.inl q115.1), .inl q113.1, .inr (.inr r4)] q115.2 _
      replace hf := bnd hf
      obtain ⟨a118, rfl, hf⟩ := hf
      replace hf := bnd hf
      obtain ⟨fs119, efs119, hf⟩ := hf
      replace hf := bnd hf
      obtain ⟨q117, eq117, hf⟩ := hf
      refine y_callV (mj := miX9_add) (args := [.inl q113.1, .inr (.inl q115.1)]) (st := []) dX5_performMoved_55 (gd_of 517 rfl rfl) (gd_of 480 rfl rfl) (gd_of 481 rfl rfl) okX9_add (obO_spec efs119) rfl rfl (xX9_add (by omega) eq117) (Nat.le_of_ble_eq_true rfl) rfl ?_
      show Y l g miX5_performMoved (d + 1) 58 [some (.inr (.inr (some a0))), some (.inr (.inr (some a108))), some (.inl x2), some (.inr (.inr (some a102))), some (.inr (.inr (some a118))), some (.inl x5), some (.inl q112.1)] [] q117 _
      refine y_iinc (i := 5) (y := 1) (lv2 := [some (.inr (.inr (some a0))), some (.inr (.inr (some a108))), some (.inl x2), some (.inr (.inr (some a102))), some (.inr (.inr (some a118))), some (.inl (x5 + 1)), some (.inl q112.1)]) dX5_performMoved_58 rfl (by decide) (by decide) rfl ?_
      refine y_goto (tgt := 17) dX5_performMoved_61 (by decide) ?_
      refine Y.weak (lv2 := [some (.inr (.inr (some a0))), some (.inr (.inr (some a108))), some (.inl x2), some (.inr (.inr (some a102))), some (.inr (.inr (some a118))), some (.inl (x5 + 1)), none]) [true, true, true, true, true, true, false] rfl ?_
      exact ih _ _ _ _ _ _ _ _ hf
def fX5_performMoved (z : Nat → Nat) (P : Nat → Option Nat → Int32 → aH → Option (Int32 × aH)) (a0 : Nat) (r1 : Option Nat) (x2 : Int32) (h : aH) : Option (Int32 × aH) :=
  (rdR h a0 [4] 1).bind fun r101 =>
  (r101).bind fun a102 =>
  (arR h a102 x2).bind fun r103 =>
  (obO h a0 4).bind fun fs105 =>
  (fX5_opened z a0 x2 h).bind fun q104 =>
  fX5_performMoved_17 z P 4000 a0 r1 x2 r103 q104.1 0 q104.2
set_option maxHeartbeats 4000000 in
set_option maxRecDepth 100000 in
theorem xX5_performMoved {l : Launch} {g : aG} {d : Nat} {P : Nat → Option Nat → Int32 → aH → Option (Int32 × aH)} {dP : Nat} (hP : ∀ (d9 : Nat), dP ≤ d9 → ∀ (a0 : Nat) (r1 : Option Nat) (x2 : Int32) (h : aH) (q : Int32 × aH), P a0 r1 x2 h = some q → Ev l g miX5_perform d9 [.inr (.inr (some a0)), .inr (.inr r1), .inl x2] h (some (.inl q.1), q.2)) (hK : dP + 2 ≤ d) {a0 : Nat} {r1 : Option Nat} {x2 : Int32} {h : aH} {q : Int32 × aH} (hf : fX5_performMoved g.2.2 P a0 r1 x2 h = some q) : Ev l g miX5_performMoved d [.inr (.inr (some a0)), .inr (.inr r1), .inl x2] h (some (.inl q.1), q.2) := by
  obtain ⟨d, rfl⟩ : ∃ e, d = e + 1 := ⟨d - 1, by omega⟩
  refine ⟨?_, Or.inl rfl, Nat.le_of_ble_eq_true rfl⟩
  unfold fX5_performMoved at hf
  show Y l g miX5_performMoved (d + 1) 0 [some (.inr (.inr (some a0))), some (.inr (.inr r1)), some (.inl x2), none, none, none, none] [] h _
  refine y_aload_n (i := 0) dX5_performMoved_0 rfl rfl ?_
  replace hf := bnd hf
  obtain ⟨r101, er101, hf⟩ := hf
  refine y_getR er101 fl5_11 dX5_performMoved_1 ?_
  refine y_iload_n (i := 2) dX5_performMoved_4 rfl rfl ?_
  replace hf := bnd hf
  obtain ⟨a102, rfl, hf⟩ := hf
  replace hf := bnd hf
  obtain ⟨r103, er103, hf⟩ := hf
  refine y_aaload er103 dX5_performMoved_5 ?_
  refine y_astore_n (i := 3) (lv2 := [some (.inr (.inr (some a0))), some (.inr (.inr r1)), some (.inl x2), some (.inr (.inr r103)), none, none, none]) dX5_performMoved_6 rfl (by decide) rfl ?_
  refine y_aload_n (i := 0) dX5_performMoved_7 rfl rfl ?_
  refine y_iload_n (i := 2) dX5_performMoved_8 rfl rfl ?_
  replace hf := bnd hf
  obtain ⟨fs105, efs105, hf⟩ := hf
  replace hf := bnd hf
  obtain ⟨q104, eq104, hf⟩ := hf
  refine y_callV (mj := miX5_opened) (args := [.inl x2]) (st := []) dX5_performMoved_9 (gd_of 531 rfl rfl) (gd_of 533 rfl rfl) (gd_of 9 rfl rfl) okX5_opened (obO_spec efs105) rfl rfl (xX5_opened (by omega) eq104) (Nat.le_of_ble_eq_true rfl) rfl ?_
  show Y l g miX5_performMoved (d + 1) 12 [some (.inr (.inr (some a0))), some (.inr (.inr r1)), some (.inl x2), some (.inr (.inr r103)), none, none, none] [.inr (.inr q104.1)] q104.2 _
  refine y_astore (i := 4) (lv2 := [some (.inr (.inr (some a0))), some (.inr (.inr r1)), some (.inl x2), some (.inr (.inr r103)), some (.inr (.inr q104.1)), none, none]) dX5_performMoved_12 (by decide) rfl ?_
  refine y_iconst (v := 0) dX5_performMoved_14 (by decide) ?_
  refine y_istore (i := 5) (lv2 := [some (.inr (.inr (some a0))), some (.inr (.inr r1)), some (.inl x2), some (.inr (.inr r103)), some (.inr (.inr q104.1)), some (.inl 0), none]) dX5_performMoved_15 (by decide) rfl ?_
  refine Y.weak (lv2 := [some (.inr (.inr (some a0))), some (.inr (.inr r1)), some (.inl x2), some (.inr (.inr r103)), some (.inr (.inr q104.1)), some (.inl 0), none]) [true, true, true, true, true, true, false] rfl ?_
  exact xX5_performMoved_17 hP hK 4000 _ _ _ _ _ _ _ _ hf
set_option maxRecDepth 100000 in
theorem dX5_performRound_0 : decode prog_7_method_28_code 0 = .ok (.aload_n 0, 1) := by decide +kernel
set_option maxRecDepth 100000 in
theorem dX5_performRound_1 : decode prog_7_method_28_code 1 = .ok (.iload_n 2, 1) := by decide +kernel
set_option maxRecDepth 100000 in
theorem dX5_performRound_2 : decode prog_7_method_28_code 2 = .ok (.invokevirtual 94, 3) := by decide +kernel
set_option maxRecDepth 100000 in
theorem dX5_performRound_5 : decode prog_7_method_28_code 5 = .ok (.pop, 1) := by decide +kernel
set_option maxRecDepth 100000 in
theorem dX5_performRound_6 : decode prog_7_method_28_code 6 = .ok (.aload_n 0, 1) := by decide +kernel
set_option maxRecDepth 100000 in
theorem dX5_performRound_7 : decode prog_7_method_28_code 7 = .ok (.aload_n 1, 1) := by decide +kernel
set_option maxRecDepth 100000 in
theorem dX5_performRound_8 : decode prog_7_method_28_code 8 = .ok (.getfield 228, 3) := by decide +kernel
set_option maxRecDepth 100000 in
theorem dX5_performRound_11 : decode prog_7_method_28_code 11 = .ok (.iload_n 2, 1) := by decide +kernel
set_option maxRecDepth 100000 in
theorem dX5_performRound_12 : decode prog_7_method_28_code 12 = .ok (.iconst 1, 1) := by decide +kernel
set_option maxRecDepth 100000 in
theorem dX5_performRound_13 : decode prog_7_method_28_code 13 = .ok (.iadd, 1) := by decide +kernel
set_option maxRecDepth 100000 in
theorem dX5_performRound_14 : decode prog_7_method_28_code 14 = .ok (.invokevirtual 98, 3) := by decide +kernel
set_option maxRecDepth 100000 in
theorem dX5_performRound_17 : decode prog_7_method_28_code 17 = .ok (.istore_n 3, 1) := by decide +kernel
set_option maxRecDepth 100000 in
theorem dX5_performRound_18 : decode prog_7_method_28_code 18 = .ok (.aload_n 0, 1) := by decide +kernel
set_option maxRecDepth 100000 in
theorem dX5_performRound_19 : decode prog_7_method_28_code 19 = .ok (.getfield 27, 3) := by decide +kernel
set_option maxRecDepth 100000 in
theorem dX5_performRound_22 : decode prog_7_method_28_code 22 = .ok (.l2i, 1) := by decide +kernel
set_option maxRecDepth 100000 in
theorem dX5_performRound_23 : decode prog_7_method_28_code 23 = .ok (.bipush 81, 2) := by decide +kernel
set_option maxRecDepth 100000 in
theorem dX5_performRound_25 : decode prog_7_method_28_code 25 = .ok (.invokestatic 253, 3) := by decide +kernel
set_option maxRecDepth 100000 in
theorem dX5_performRound_28 : decode prog_7_method_28_code 28 = .ok (.istore 4, 2) := by decide +kernel
set_option maxRecDepth 100000 in
theorem dX5_performRound_30 : decode prog_7_method_28_code 30 = .ok (.iload_n 3, 1) := by decide +kernel
set_option maxRecDepth 100000 in
theorem dX5_performRound_31 : decode prog_7_method_28_code 31 = .ok (.ifCond .ne 15, 3) := by decide +kernel
set_option maxRecDepth 100000 in
theorem dX5_performRound_34 : decode prog_7_method_28_code 34 = .ok (.aload_n 0, 1) := by decide +kernel
set_option maxRecDepth 100000 in
theorem dX5_performRound_35 : decode prog_7_method_28_code 35 = .ok (.aload_n 1, 1) := by decide +kernel
set_option maxRecDepth 100000 in
theorem dX5_performRound_36 : decode prog_7_method_28_code 36 = .ok (.getfield 244, 3) := by decide +kernel
set_option maxRecDepth 100000 in
theorem dX5_performRound_39 : decode prog_7_method_28_code 39 = .ok (.iload_n 2, 1) := by decide +kernel
set_option maxRecDepth 100000 in
theorem dX5_performRound_40 : decode prog_7_method_28_code 40 = .ok (.iconst 1, 1) := by decide +kernel
set_option maxRecDepth 100000 in
theorem dX5_performRound_41 : decode prog_7_method_28_code 41 = .ok (.iadd, 1) := by decide +kernel
set_option maxRecDepth 100000 in
theorem dX5_performRound_42 : decode prog_7_method_28_code 42 = .ok (.invokevirtual 98, 3) := by decide +kernel
set_option maxRecDepth 100000 in
theorem dX5_performRound_45 : decode prog_7_method_28_code 45 = .ok (.istore_n 3, 1) := by decide +kernel
set_option maxRecDepth 100000 in
theorem dX5_performRound_46 : decode prog_7_method_28_code 46 = .ok (.iconst 0, 1) := by decide +kernel
set_option maxRecDepth 100000 in
theorem dX5_performRound_47 : decode prog_7_method_28_code 47 = .ok (.istore 5, 2) := by decide +kernel
set_option maxRecDepth 100000 in
theorem dX5_performRound_49 : decode prog_7_method_28_code 49 = .ok (.iload 5, 2) := by decide +kernel
set_option maxRecDepth 100000 in
theorem dX5_performRound_51 : decode prog_7_method_28_code 51 = .ok (.iload 4, 2) := by decide +kernel
set_option maxRecDepth 100000 in
theorem dX5_performRound_53 : decode prog_7_method_28_code 53 = .ok (.if_icmp .ge 54, 3) := by decide +kernel
set_option maxRecDepth 100000 in
theorem dX5_performRound_56 : decode prog_7_method_28_code 56 = .ok (.iload_n 3, 1) := by decide +kernel
set_option maxRecDepth 100000 in
theorem dX5_performRound_57 : decode prog_7_method_28_code 57 = .ok (.ifCond .ne 50, 3) := by decide +kernel
set_option maxRecDepth 100000 in
theorem dX5_performRound_60 : decode prog_7_method_28_code 60 = .ok (.aload_n 0, 1) := by decide +kernel
set_option maxRecDepth 100000 in
theorem dX5_performRound_61 : decode prog_7_method_28_code 61 = .ok (.iload_n 2, 1) := by decide +kernel
set_option maxRecDepth 100000 in
theorem dX5_performRound_62 : decode prog_7_method_28_code 62 = .ok (.invokevirtual 94, 3) := by decide +kernel
set_option maxRecDepth 100000 in
theorem dX5_performRound_65 : decode prog_7_method_28_code 65 = .ok (.astore 6, 2) := by decide +kernel
set_option maxRecDepth 100000 in
theorem dX5_performRound_67 : decode prog_7_method_28_code 67 = .ok (.aload 6, 2) := by decide +kernel
set_option maxRecDepth 100000 in
theorem dX5_performRound_69 : decode prog_7_method_28_code 69 = .ok (.aload_n 0, 1) := by decide +kernel
set_option maxRecDepth 100000 in
theorem dX5_performRound_70 : decode prog_7_method_28_code 70 = .ok (.getfield 24, 3) := by decide +kernel
set_option maxRecDepth 100000 in
theorem dX5_performRound_73 : decode prog_7_method_28_code 73 = .ok (.aload_n 0, 1) := by decide +kernel
set_option maxRecDepth 100000 in
theorem dX5_performRound_74 : decode prog_7_method_28_code 74 = .ok (.getfield 27, 3) := by decide +kernel
set_option maxRecDepth 100000 in
theorem dX5_performRound_77 : decode prog_7_method_28_code 77 = .ok (.invokevirtual 90, 3) := by decide +kernel
set_option maxRecDepth 100000 in
theorem dX5_performRound_80 : decode prog_7_method_28_code 80 = .ok (.aload 6, 2) := by decide +kernel
set_option maxRecDepth 100000 in
theorem dX5_performRound_82 : decode prog_7_method_28_code 82 = .ok (.iconst 0, 1) := by decide +kernel
set_option maxRecDepth 100000 in
theorem dX5_performRound_83 : decode prog_7_method_28_code 83 = .ok (.iload 5, 2) := by decide +kernel
set_option maxRecDepth 100000 in
theorem dX5_performRound_85 : decode prog_7_method_28_code 85 = .ok (.i2l, 1) := by decide +kernel
set_option maxRecDepth 100000 in
theorem dX5_performRound_86 : decode prog_7_method_28_code 86 = .ok (.invokevirtual 90, 3) := by decide +kernel
set_option maxRecDepth 100000 in
theorem dX5_performRound_89 : decode prog_7_method_28_code 89 = .ok (.aload_n 0, 1) := by decide +kernel
set_option maxRecDepth 100000 in
theorem dX5_performRound_90 : decode prog_7_method_28_code 90 = .ok (.aload_n 1, 1) := by decide +kernel
set_option maxRecDepth 100000 in
theorem dX5_performRound_91 : decode prog_7_method_28_code 91 = .ok (.getfield 237, 3) := by decide +kernel
set_option maxRecDepth 100000 in
theorem dX5_performRound_94 : decode prog_7_method_28_code 94 = .ok (.iload_n 2, 1) := by decide +kernel
set_option maxRecDepth 100000 in
theorem dX5_performRound_95 : decode prog_7_method_28_code 95 = .ok (.iconst 1, 1) := by decide +kernel
set_option maxRecDepth 100000 in
theorem dX5_performRound_96 : decode prog_7_method_28_code 96 = .ok (.iadd, 1) := by decide +kernel
set_option maxRecDepth 100000 in
theorem dX5_performRound_97 : decode prog_7_method_28_code 97 = .ok (.invokevirtual 98, 3) := by decide +kernel
set_option maxRecDepth 100000 in
theorem dX5_performRound_100 : decode prog_7_method_28_code 100 = .ok (.istore_n 3, 1) := by decide +kernel
set_option maxRecDepth 100000 in
theorem dX5_performRound_101 : decode prog_7_method_28_code 101 = .ok (.iinc 5 1, 3) := by decide +kernel
set_option maxRecDepth 100000 in
theorem dX5_performRound_104 : decode prog_7_method_28_code 104 = .ok (.goto (-55), 3) := by decide +kernel
set_option maxRecDepth 100000 in
theorem dX5_performRound_107 : decode prog_7_method_28_code 107 = .ok (.iload_n 3, 1) := by decide +kernel
set_option maxRecDepth 100000 in
theorem dX5_performRound_108 : decode prog_7_method_28_code 108 = .ok (.ireturn, 1) := by decide +kernel

def fX5_performRound_49 (z : Nat → Nat) (P : Nat → Option Nat → Int32 → aH → Option (Int32 × aH)) : Nat → Nat → Option Nat → Int32 → Int32 → Int32 → Int32 → aH → Option (Int32 × aH)
  | 0, _, _, _, _, _, _, _ => none
  | n + 1, a0, r1, x2, x3, x4, x5, h => (if x4 ≤ x5 then
  some (x3, h)
  else
  (if x3 = 0 then
  (obO h a0 4).bind fun fs102 =>
  (fX5_opened z a0 x2 h).bind fun q101 =>
  (rdI q101.2 a0 [4] 4).bind fun x103 =>
  (rdJ q101.2 a0 [4] 5).bind fun j104 =>
  (q101.1).bind fun a106 =>
  (obO q101.2 a106 7).bind fun fs107 =>
  (fX9_add z a106 x103 j104 q101.2).bind fun q105 =>
  (obO q105 a106 7).bind fun fs109 =>
  (fX9_add z a106 0 (Int32.toInt64 x5) q105).bind fun q108 =>
  (r1).bind fun a110 =>
  (rdR q108 a110 [2] 2).bind fun r111 =>
  (obO q108 a0 4).bind fun fs113 =>
  (P a0 r111 (x2 + 1) q108).bind fun q112 =>
  fX5_performRound_49 z P n a0 (some a110) x2 q112.1 x4 (x5 + 1) q112.2
  else
  some (x3, h)))
set_option maxHeartbeats 4000000 in
set_option maxRecDepth 100000 in
theorem xX5_performRound_49 {l : Launch} {g : aG} {d : Nat} {P : Nat → Option Nat → Int32 → aH → Option (Int32 × aH)} {dP : Nat} (hP : ∀ (d9 : Nat), dP ≤ d9 → ∀ (a0 : Nat) (r1 : Option Nat) (x2 : Int32) (h : aH) (q : Int32 × aH), P a0 r1 x2 h = some q → Ev l g miX5_perform d9 [.inr (.inr (some a0)), .inr (.inr r1), .inl x2] h (some (.inl q.1), q.2)) (hK : dP + 2 ≤ d + 1) : ∀ (n : Nat) (a0 : Nat) (r1 : Option Nat) (x2 : Int32) (x3 : Int32) (x4 : Int32) (x5 : Int32) (h : aH) (q : Int32 × aH), fX5_performRound_49 g.2.2 P n a0 r1 x2 x3 x4 x5 h = some q → Y l g miX5_performRound (d + 1) 49 [some (.inr (.inr (some a0))), some (.inr (.inr r1)), some (.inl x2), some (.inl x3), some (.inl x4), some (.inl x5), none] [] h (some (.inl q.1), q.2) := by
  intro n
  induction n with
  | zero => intro a0 r1 x2 x3 x4 x5 h q hf; simp [fX5_performRound_49] at hf
  | succ n ih =>
    intro a0 r1 x2 x3 x4 x5 h q hf
    rw [fX5_performRound_49] at hf
    refine y_iload (i := 5) dX5_performRound_49 rfl ?_
    refine y_iload (i := 4) dX5_performRound_51 rfl ?_
    refine y_icmp_ge (tgt := 107) dX5_performRound_53 (by decide) (fun hc => ?_) (fun hc => ?_)
    · rw [if_pos hc] at hf
      refine y_iload_n (i := 3) dX5_performRound_107 rfl rfl ?_
      obtain rfl := Option.some.inj hf
      exact y_ret (v := some (.inl x3)) dX5_performRound_108 rfl
    · rw [if_neg hc] at hf
      refine y_iload_n (i := 3) dX5_performRound_56 rfl rfl ?_
      refine y_if_ne (tgt := 107) dX5_performRound_57 (by decide) (fun hc => ?_) (fun hc => ?_)
      · rw [if_neg hc] at hf
        refine y_iload_n (i := 3) dX5_performRound_107 rfl rfl ?_
        obtain rfl := Option.some.inj hf
        exact y_ret (v := some (.inl x3)) dX5_performRound_108 rfl
      · rw [if_pos hc] at hf
        refine y_aload_n (i := 0) dX5_performRound_60 rfl rfl ?_
        refine y_iload_n (i := 2) dX5_performRound_61 rfl rfl ?_
        replace hf := bnd hf
        obtain ⟨fs102, efs102, hf⟩ := hf
        replace hf := bnd hf
        obtain ⟨q101, eq101, hf⟩ := hf
        refine y_callV (mj := miX5_opened) (args := [.inl x2]) (st := []) dX5_performRound_62 (gd_of 531 rfl rfl) (gd_of 533 rfl rfl) (gd_of 9 rfl rfl) okX5_opened (obO_spec efs102) rfl rfl (xX5_opened (by omega) eq101) (Nat.le_of_ble_eq_true rfl) rfl ?_
        show Y l g miX5_performRound (d + 1) 65 [some (.inr (.inr (some a0))), some (.inr (.inr r1)), some (.inl x2), some (.inl x3), some (.inl x4), some (.inl x5), none] [.inr (.inr q101.1)] q101.2 _
        refine y_astore (i := 6) (lv2 := [some (.inr (.inr (some a0))), some (.inr (.inr r1)), some (.inl x2), some (.inl x3), some (.inl x4), some (.inl x5), some (.inr (.inr q101.1))]) dX5_performRound_65 (by decide) rfl ?_
        refine y_aload (i := 6) dX5_performRound_67 rfl ?_
        refine y_aload_n (i := 0) dX5_performRound_69 rfl rfl ?_
        replace hf := bnd hf
        obtain ⟨x103, ex103, hf⟩ := hf
        refine y_getI ex103 fl5_24 dX5_performRound_70 ?_
        refine y_aload_n (i := 0) dX5_performRound_73 rfl rfl ?_
        replace hf := bnd hf
        obtain ⟨j104, ej104, hf⟩ := hf
        refine y_getJ ej104 fl5_27 dX5_performRound_74 ?_
        replace hf := bnd hf
        obtain ⟨a106, ea106, hf⟩ := hf
        rw [ea106]
        replace hf := bnd hf
        obtain ⟨fs107, efs107, hf⟩ := hf
        replace hf := bnd hf
        obtain ⟨q105, eq105, hf⟩ := hf
        refine y_callV (mj := miX9_add) (args := [.inl x103, .inr (.inl j104)]) (st := []) dX5_performRound_77 (gd_of 517 rfl rfl) (gd_of 480 rfl rfl) (gd_of 481 rfl rfl) okX9_add (obO_spec efs107) rfl rfl (xX9_add (by omega) eq105) (Nat.le_of_ble_eq_true rfl) rfl ?_
        show Y l g miX5_performRound (d + 1) 80 [some (.inr (.inr (some a0))), some (.inr (.inr r1)), some (.inl x2), some (.inl x3), some (.inl x4), some (.inl x5), some (.inr (.inr (some a106)))] [] q105 _
        refine y_aload (i := 6) dX5_performRound_80 rfl ?_
        refine y_iconst (v := 0) dX5_performRound_82 (by decide) ?_
        refine y_iload (i := 5) dX5_performRound_83 rfl ?_
        refine y_i2l dX5_performRound_85 ?_
        replace hf := bnd hf
        obtain ⟨fs109, efs109, hf⟩ := hf
        replace hf := bnd hf
        obtain ⟨q108, eq108, hf⟩ := hf
        refine y_callV (mj := miX9_add) (args := [.inl 0, .inr (.inl (Int32.toInt64 x5))]) (st := []) dX5_performRound_86 (gd_of 517 rfl rfl) (gd_of 480 rfl rfl) (gd_of 481 rfl rfl) okX9_add (obO_spec efs109) rfl rfl (xX9_add (by omega) eq108) (Nat.le_of_ble_eq_true rfl) rfl ?_
        show Y l g miX5_performRound (d + 1) 89 [some (.inr (.inr (some a0))), some (.inr (.inr r1)), some (.inl x2), some (.inl x3), some (.inl x4), some (.inl x5), some (.inr (.inr (some a106)))] [] q108 _
        refine y_aload_n (i := 0) dX5_performRound_89 rfl rfl ?_
        refine y_aload_n (i := 1) dX5_performRound_90 rfl rfl ?_
        replace hf := bnd hf
        obtain ⟨a110, rfl, hf⟩ := hf
        replace hf := bnd hf
        obtain ⟨r111, er111, hf⟩ := hf
        refine y_getR er111 fl5_237 dX5_performRound_91 ?_
        refine y_iload_n (i := 2) dX5_performRound_94 rfl rfl ?_
        refine y_iconst (v := 1) dX5_performRound_95 (by decide) ?_
        refine y_iadd dX5_performRound_96 ?_
        replace hf := bnd hf
        obtain ⟨fs113, efs113, hf⟩ := hf
        replace hf := bnd hf
        obtain ⟨q112, eq112, hf⟩ := hf
        refine y_callV (mj := miX5_perform) (args := [.inr (.inr r111), .inl (x2 + 1)]) (st := []) dX5_performRound_97 (gd_of 542 rfl rfl) (gd_of 519 rfl rfl) (gd_of 520 rfl rfl) okX5_perform (obO_spec efs113) rfl rfl (hP _ (by omega) _ _ _ _ _ eq112) (Nat.le_of_ble_eq_true rfl) rfl ?_
        show Y l g miX5_performRound (d + 1) 100 [some (.inr (.inr (some a0))), some (.inr (.inr (some a110))), some (.inl x2), some (.inl x3), some (.inl x4), some (.inl x5), some (.inr (.inr (some a106)))] [.inl q112.1] q112.2 _
        refine y_istore_n (i := 3) (lv2 := [some (.inr (.inr (some a0))), some (.inr (.inr (some a110))), some (.inl x2), some (.inl q112.1), some (.inl x4), some (.inl x5), some (.inr (.inr (some a106)))]) dX5_performRound_100 rfl (by decide) rfl ?_
        refine y_iinc (i := 5) (y := 1) (lv2 := [some (.inr (.inr (some a0))), some (.inr (.inr (some a110))), some (.inl x2), some (.inl q112.1), some (.inl x4), some (.inl (x5 + 1)), some (.inr (.inr (some a106)))]) dX5_performRound_101 rfl (by decide) (by decide) rfl ?_
        refine y_goto (tgt := 49) dX5_performRound_104 (by decide) ?_
        refine Y.weak (lv2 := [some (.inr (.inr (some a0))), some (.inr (.inr (some a110))), some (.inl x2), some (.inl q112.1), some (.inl x4), some (.inl (x5 + 1)), none]) [true, true, true, true, true, true, false] rfl ?_
        exact ih _ _ _ _ _ _ _ _ hf
def fX5_performRound (z : Nat → Nat) (P : Nat → Option Nat → Int32 → aH → Option (Int32 × aH)) (a0 : Nat) (r1 : Option Nat) (x2 : Int32) (h : aH) : Option (Int32 × aH) :=
  (obO h a0 4).bind fun fs102 =>
  (fX5_opened z a0 x2 h).bind fun q101 =>
  (r1).bind fun a103 =>
  (rdR q101.2 a103 [2] 1).bind fun r104 =>
  (obO q101.2 a0 4).bind fun fs106 =>
  (P a0 r104 (x2 + 1) q101.2).bind fun q105 =>
  (rdJ q105.2 a0 [4] 5).bind fun j107 =>
  (if q105.1 = 0 then
  (rdR q105.2 a103 [2] 3).bind fun r108 =>
  (obO q105.2 a0 4).bind fun fs110 =>
  (P a0 r108 (x2 + 1) q105.2).bind fun q109 =>
  fX5_performRound_49 z P 4000 a0 (some a103) x2 q109.1 (if 81 < (Int64.toInt32 j107) then 81 else (Int64.toInt32 j107)) 0 q109.2
  else
  fX5_performRound_49 z P 4000 a0 (some a103) x2 q105.1 (if 81 < (Int64.toInt32 j107) then 81 else (Int64.toInt32 j107)) 0 q105.2)
set_option maxHeartbeats 4000000 in
set_option maxRecDepth 100000 in
theorem xX5_performRound {l : Launch} {g : aG} {d : Nat} {P : Nat → Option Nat → Int32 → aH → Option (Int32 × aH)} {dP : Nat} (hP : ∀ (d9 : Nat), dP ≤ d9 → ∀ (a0 : Nat) (r1 : Option Nat) (x2 : Int32) (h : aH) (q : Int32 × aH), P a0 r1 x2 h = some q → Ev l g miX5_perform d9 [.inr (.inr (some a0)), .inr (.inr r1), .inl x2] h (some (.inl q.1), q.2)) (hK : dP + 2 ≤ d) {a0 : Nat} {r1 : Option Nat} {x2 : Int32} {h : aH} {q : Int32 × aH} (hf : fX5_performRound g.2.2 P a0 r1 x2 h = some q) : Ev l g miX5_performRound d [.inr (.inr (some a0)), .inr (.inr r1), .inl x2] h (some (.inl q.1), q.2) := by
  obtain ⟨d, rfl⟩ : ∃ e, d = e + 1 := ⟨d - 1, by omega⟩
  refine ⟨?_, Or.inl rfl, Nat.le_of_ble_eq_true rfl⟩
  unfold fX5_performRound at hf
  show Y l g miX5_performRound (d + 1) 0 [some (.inr (.inr (some a0))), some (.inr (.inr r1)), some (.inl x2), none, none, none, none] [] h _
  refine y_aload_n (i := 0) dX5_performRound_0 rfl rfl ?_
  refine y_iload_n (i := 2) dX5_performRound_1 rfl rfl ?_
  replace hf := bnd hf
  obtain ⟨fs102, efs102, hf⟩ := hf
  replace hf := bnd hf
  obtain ⟨q101, eq101, hf⟩ := hf
  refine y_callV (mj := miX5_opened) (args := [.inl x2]) (st := []) dX5_performRound_2 (gd_of 531 rfl rfl) (gd_of 533 rfl rfl) (gd_of 9 rfl rfl) okX5_opened (obO_spec efs102) rfl rfl (xX5_opened (by omega) eq101) (Nat.le_of_ble_eq_true rfl) rfl ?_
  show Y l g miX5_performRound (d + 1) 5 [some (.inr (.inr (some a0))), some (.inr (.inr r1)), some (.inl x2), none, none, none, none] [.inr (.inr q101.1)] q101.2 _
  refine y_pop dX5_performRound_5 rfl ?_
  refine y_aload_n (i := 0) dX5_performRound_6 rfl rfl ?_
  refine y_aload_n (i := 1) dX5_performRound_7 rfl rfl ?_
  replace hf := bnd hf
  obtain ⟨a103, rfl, hf⟩ := hf
  replace hf := bnd hf
  obtain ⟨r104, er104, hf⟩ := hf
  refine y_getR er104 fl5_228 dX5_performRound_8 ?_
  refine y_iload_n (i := 2) dX5_performRound_11 rfl rfl ?_
  refine y_iconst (v := 1) dX5_performRound_12 (by decide) ?_
  refine y_iadd dX5_performRound_13 ?_
  replace hf := bnd hf
  obtain ⟨fs106, efs106, hf⟩ := hf
  replace hf := bnd hf
  obtain ⟨q105, eq105, hf⟩ := hf
  refine y_callV (mj := miX5_perform) (args := [.inr (.inr r104), .inl (x2 + 1)]) (st := []) dX5_performRound_14 (gd_of 542 rfl rfl) (gd_of 519 rfl rfl) (gd_of 520 rfl rfl) okX5_perform (obO_spec efs106) rfl rfl (hP _ (by omega) _ _ _ _ _ eq105) (Nat.le_of_ble_eq_true rfl) rfl ?_
  show Y l g miX5_performRound (d + 1) 17 [some (.inr (.inr (some a0))), some (.inr (.inr (some a103))), some (.inl x2), none, none, none, none] [.inl q105.1] q105.2 _
  refine y_istore_n (i := 3) (lv2 := [some (.inr (.inr (some a0))), some (.inr (.inr (some a103))), some (.inl x2), some (.inl q105.1), none, none, none]) dX5_performRound_17 rfl (by decide) rfl ?_
  refine y_aload_n (i := 0) dX5_performRound_18 rfl rfl ?_
  replace hf := bnd hf
  obtain ⟨j107, ej107, hf⟩ := hf
  refine y_getJ ej107 fl5_27 dX5_performRound_19 ?_
  refine y_l2i dX5_performRound_22 ?_
  refine y_bipush (v := 81) dX5_performRound_23 (by decide) ?_
  refine y_min dX5_performRound_25 (gd_of 595 rfl rfl) (gd_of 596 rfl rfl) (gd_of 84 rfl rfl) (gd_of 597 rfl rfl) (Nat.le_of_ble_eq_true rfl) ?_
  refine y_istore (i := 4) (lv2 := [some (.inr (.inr (some a0))), some (.inr (.inr (some a103))), some (.inl x2), some (.inl q105.1), some (.inl (if 81 < (Int64.toInt32 j107) then 81 else (Int64.toInt32 j107))), none, none]) dX5_performRound_28 (by decide) rfl ?_
  refine y_iload_n (i := 3) dX5_performRound_30 rfl rfl ?_
  refine y_if_ne (tgt := 46) dX5_performRound_31 (by decide) (fun hc => ?_) (fun hc => ?_)
  · rw [if_neg hc] at hf
    refine y_iconst (v := 0) dX5_performRound_46 (by decide) ?_
    refine y_istore (i := 5) (lv2 := [some (.inr (.inr (some a0))), some (.inr (.inr (some a103))), some (.inl x2), some (.inl q105.1), some (.inl (if 81 < (Int64.toInt32 j107) then 81 else (Int64.toInt32 j107))), some (.inl 0), none]) dX5_performRound_47 (by decide) rfl ?_
    refine Y.weak (lv2 := [some (.inr (.inr (some a0))), some (.inr (.inr (some a103))), some (.inl x2), some (.inl q105.1), some (.inl (if 81 < (Int64.toInt32 j107) then 81 else (Int64.toInt32 j107))), some (.inl 0), none]) [true, true, true, true, true, true, false] rfl ?_
    exact xX5_performRound_49 hP hK 4000 _ _ _ _ _ _ _ _ hf
  · rw [if_pos hc] at hf
    refine y_aload_n (i := 0) dX5_performRound_34 rfl rfl ?_
    refine y_aload_n (i := 1) dX5_performRound_35 rfl rfl ?_
    replace hf := bnd hf
    obtain ⟨r108, er108, hf⟩ := hf
    refine y_getR er108 fl5_244 dX5_performRound_36 ?_
    refine y_iload_n (i := 2) dX5_performRound_39 rfl rfl ?_
    refine y_iconst (v := 1) dX5_performRound_40 (by decide) ?_
    refine y_iadd dX5_performRound_41 ?_
    replace hf := bnd hf
    obtain ⟨fs110, efs110, hf⟩ := hf
    replace hf := bnd hf
    obtain ⟨q109, eq109, hf⟩ := hf
    refine y_callV (mj := miX5_perform) (args := [.inr (.inr r108), .inl (x2 + 1)]) (st := []) dX5_performRound_42 (gd_of 542 rfl rfl) (gd_of 519 rfl rfl) (gd_of 520 rfl rfl) okX5_perform (obO_spec efs110) rfl rfl (hP _ (by omega) _ _ _ _ _ eq109) (Nat.le_of_ble_eq_true rfl) rfl ?_
    show Y l g miX5_performRound (d + 1) 45 [some (.inr (.inr (some a0))), some (.inr (.inr (some a103))), some (.inl x2), some (.inl q105.1), some (.inl (if 81 < (Int64.toInt32 j107) then 81 else (Int64.toInt32 j107))), none, none] [.inl q109.1] q109.2 _
    refine y_istore_n (i := 3) (lv2 := [some (.inr (.inr (some a0))), some (.inr (.inr (some a103))), some (.inl x2), some (.inl q109.1), some (.inl (if 81 < (Int64.toInt32 j107) then 81 else (Int64.toInt32 j107))), none, none]) dX5_performRound_45 rfl (by decide) rfl ?_
    refine y_iconst (v := 0) dX5_performRound_46 (by decide) ?_
    refine y_istore (i := 5) (lv2 := [some (.inr (.inr (some a0))), some (.inr (.inr (some a103))), some (.inl x2), some (.inl q109.1), some (.inl (if 81 < (Int64.toInt32 j107) then 81 else (Int64.toInt32 j107))), some (.inl 0), none]) dX5_performRound_47 (by decide) rfl ?_
    refine Y.weak (lv2 := [some (.inr (.inr (some a0))), some (.inr (.inr (some a103))), some (.inl x2), some (.inl q109.1), some (.inl (if 81 < (Int64.toInt32 j107) then 81 else (Int64.toInt32 j107))), some (.inl 0), none]) [true, true, true, true, true, true, false] rfl ?_
    exact xX5_performRound_49 hP hK 4000 _ _ _ _ _ _ _ _ hf
set_option maxRecDepth 100000 in
theorem dX5_performSifted_0 : decode prog_7_method_22_code 0 = .ok (.aload_n 0, 1) := by decide +kernel
set_option maxRecDepth 100000 in
theorem dX5_performSifted_1 : decode prog_7_method_22_code 1 = .ok (.getfield 11, 3) := by decide +kernel
set_option maxRecDepth 100000 in
theorem dX5_performSifted_4 : decode prog_7_method_22_code 4 = .ok (.iload_n 2, 1) := by decide +kernel
set_option maxRecDepth 100000 in
theorem dX5_performSifted_5 : decode prog_7_method_22_code 5 = .ok (.aaload, 1) := by decide +kernel
set_option maxRecDepth 100000 in
theorem dX5_performSifted_6 : decode prog_7_method_22_code 6 = .ok (.astore_n 3, 1) := by decide +kernel
set_option maxRecDepth 100000 in
theorem dX5_performSifted_7 : decode prog_7_method_22_code 7 = .ok (.aload_n 0, 1) := by decide +kernel
set_option maxRecDepth 100000 in
theorem dX5_performSifted_8 : decode prog_7_method_22_code 8 = .ok (.iload_n 2, 1) := by decide +kernel
set_option maxRecDepth 100000 in
theorem dX5_performSifted_9 : decode prog_7_method_22_code 9 = .ok (.invokevirtual 94, 3) := by decide +kernel
set_option maxRecDepth 100000 in
theorem dX5_performSifted_12 : decode prog_7_method_22_code 12 = .ok (.astore 4, 2) := by decide +kernel
set_option maxRecDepth 100000 in
theorem dX5_performSifted_14 : decode prog_7_method_22_code 14 = .ok (.aload 4, 2) := by decide +kernel
set_option maxRecDepth 100000 in
theorem dX5_performSifted_16 : decode prog_7_method_22_code 16 = .ok (.aload_n 3, 1) := by decide +kernel
set_option maxRecDepth 100000 in
theorem dX5_performSifted_17 : decode prog_7_method_22_code 17 = .ok (.aload_n 1, 1) := by decide +kernel
set_option maxRecDepth 100000 in
theorem dX5_performSifted_18 : decode prog_7_method_22_code 18 = .ok (.getfield 217, 3) := by decide +kernel
set_option maxRecDepth 100000 in
theorem dX5_performSifted_21 : decode prog_7_method_22_code 21 = .ok (.aload_n 1, 1) := by decide +kernel
set_option maxRecDepth 100000 in
theorem dX5_performSifted_22 : decode prog_7_method_22_code 22 = .ok (.getfield 217, 3) := by decide +kernel
set_option maxRecDepth 100000 in
theorem dX5_performSifted_25 : decode prog_7_method_22_code 25 = .ok (.iconst 1, 1) := by decide +kernel
set_option maxRecDepth 100000 in
theorem dX5_performSifted_26 : decode prog_7_method_22_code 26 = .ok (.iadd, 1) := by decide +kernel
set_option maxRecDepth 100000 in
theorem dX5_performSifted_27 : decode prog_7_method_22_code 27 = .ok (.invokevirtual 213, 3) := by decide +kernel
set_option maxRecDepth 100000 in
theorem dX5_performSifted_30 : decode prog_7_method_22_code 30 = .ok (.aload_n 0, 1) := by decide +kernel
set_option maxRecDepth 100000 in
theorem dX5_performSifted_31 : decode prog_7_method_22_code 31 = .ok (.aload_n 1, 1) := by decide +kernel
set_option maxRecDepth 100000 in
theorem dX5_performSifted_32 : decode prog_7_method_22_code 32 = .ok (.getfield 237, 3) := by decide +kernel
set_option maxRecDepth 100000 in
theorem dX5_performSifted_35 : decode prog_7_method_22_code 35 = .ok (.iload_n 2, 1) := by decide +kernel
set_option maxRecDepth 100000 in
theorem dX5_performSifted_36 : decode prog_7_method_22_code 36 = .ok (.iconst 1, 1) := by decide +kernel
set_option maxRecDepth 100000 in
theorem dX5_performSifted_37 : decode prog_7_method_22_code 37 = .ok (.iadd, 1) := by decide +kernel
set_option maxRecDepth 100000 in
theorem dX5_performSifted_38 : decode prog_7_method_22_code 38 = .ok (.invokevirtual 98, 3) := by decide +kernel
set_option maxRecDepth 100000 in
theorem dX5_performSifted_41 : decode prog_7_method_22_code 41 = .ok (.istore 5, 2) := by decide +kernel
set_option maxRecDepth 100000 in
theorem dX5_performSifted_43 : decode prog_7_method_22_code 43 = .ok (.iload 5, 2) := by decide +kernel
set_option maxRecDepth 100000 in
theorem dX5_performSifted_45 : decode prog_7_method_22_code 45 = .ok (.ifCond .eq 6, 3) := by decide +kernel
set_option maxRecDepth 100000 in
theorem dX5_performSifted_48 : decode prog_7_method_22_code 48 = .ok (.iload 5, 2) := by decide +kernel
set_option maxRecDepth 100000 in
theorem dX5_performSifted_50 : decode prog_7_method_22_code 50 = .ok (.ireturn, 1) := by decide +kernel
set_option maxRecDepth 100000 in
theorem dX5_performSifted_51 : decode prog_7_method_22_code 51 = .ok (.aload 4, 2) := by decide +kernel
set_option maxRecDepth 100000 in
theorem dX5_performSifted_53 : decode prog_7_method_22_code 53 = .ok (.iconst 0, 1) := by decide +kernel
set_option maxRecDepth 100000 in
theorem dX5_performSifted_54 : decode prog_7_method_22_code 54 = .ok (.invokevirtual 40, 3) := by decide +kernel
set_option maxRecDepth 100000 in
theorem dX5_performSifted_57 : decode prog_7_method_22_code 57 = .ok (.aload 4, 2) := by decide +kernel
set_option maxRecDepth 100000 in
theorem dX5_performSifted_59 : decode prog_7_method_22_code 59 = .ok (.aload_n 3, 1) := by decide +kernel
set_option maxRecDepth 100000 in
theorem dX5_performSifted_60 : decode prog_7_method_22_code 60 = .ok (.iconst 0, 1) := by decide +kernel
set_option maxRecDepth 100000 in
theorem dX5_performSifted_61 : decode prog_7_method_22_code 61 = .ok (.aload_n 1, 1) := by decide +kernel
set_option maxRecDepth 100000 in
theorem dX5_performSifted_62 : decode prog_7_method_22_code 62 = .ok (.getfield 217, 3) := by decide +kernel
set_option maxRecDepth 100000 in
theorem dX5_performSifted_65 : decode prog_7_method_22_code 65 = .ok (.invokevirtual 213, 3) := by decide +kernel
set_option maxRecDepth 100000 in
theorem dX5_performSifted_68 : decode prog_7_method_22_code 68 = .ok (.aload 4, 2) := by decide +kernel
set_option maxRecDepth 100000 in
theorem dX5_performSifted_70 : decode prog_7_method_22_code 70 = .ok (.aload_n 0, 1) := by decide +kernel
set_option maxRecDepth 100000 in
theorem dX5_performSifted_71 : decode prog_7_method_22_code 71 = .ok (.getfield 24, 3) := by decide +kernel
set_option maxRecDepth 100000 in
theorem dX5_performSifted_74 : decode prog_7_method_22_code 74 = .ok (.aload_n 0, 1) := by decide +kernel
set_option maxRecDepth 100000 in
theorem dX5_performSifted_75 : decode prog_7_method_22_code 75 = .ok (.getfield 27, 3) := by decide +kernel
set_option maxRecDepth 100000 in
theorem dX5_performSifted_78 : decode prog_7_method_22_code 78 = .ok (.invokevirtual 90, 3) := by decide +kernel
set_option maxRecDepth 100000 in
theorem dX5_performSifted_81 : decode prog_7_method_22_code 81 = .ok (.aload 4, 2) := by decide +kernel
set_option maxRecDepth 100000 in
theorem dX5_performSifted_83 : decode prog_7_method_22_code 83 = .ok (.aload_n 3, 1) := by decide +kernel
set_option maxRecDepth 100000 in
theorem dX5_performSifted_84 : decode prog_7_method_22_code 84 = .ok (.aload_n 1, 1) := by decide +kernel
set_option maxRecDepth 100000 in
theorem dX5_performSifted_85 : decode prog_7_method_22_code 85 = .ok (.getfield 217, 3) := by decide +kernel
set_option maxRecDepth 100000 in
theorem dX5_performSifted_88 : decode prog_7_method_22_code 88 = .ok (.iconst 1, 1) := by decide +kernel
set_option maxRecDepth 100000 in
theorem dX5_performSifted_89 : decode prog_7_method_22_code 89 = .ok (.iadd, 1) := by decide +kernel
set_option maxRecDepth 100000 in
theorem dX5_performSifted_90 : decode prog_7_method_22_code 90 = .ok (.aload_n 3, 1) := by decide +kernel
set_option maxRecDepth 100000 in
theorem dX5_performSifted_91 : decode prog_7_method_22_code 91 = .ok (.invokevirtual 67, 3) := by decide +kernel
set_option maxRecDepth 100000 in
theorem dX5_performSifted_94 : decode prog_7_method_22_code 94 = .ok (.invokevirtual 213, 3) := by decide +kernel
set_option maxRecDepth 100000 in
theorem dX5_performSifted_97 : decode prog_7_method_22_code 97 = .ok (.aload_n 0, 1) := by decide +kernel
set_option maxRecDepth 100000 in
theorem dX5_performSifted_98 : decode prog_7_method_22_code 98 = .ok (.aload_n 1, 1) := by decide +kernel
set_option maxRecDepth 100000 in
theorem dX5_performSifted_99 : decode prog_7_method_22_code 99 = .ok (.getfield 228, 3) := by decide +kernel
set_option maxRecDepth 100000 in
theorem dX5_performSifted_102 : decode prog_7_method_22_code 102 = .ok (.iload_n 2, 1) := by decide +kernel
set_option maxRecDepth 100000 in
theorem dX5_performSifted_103 : decode prog_7_method_22_code 103 = .ok (.iconst 1, 1) := by decide +kernel
set_option maxRecDepth 100000 in
theorem dX5_performSifted_104 : decode prog_7_method_22_code 104 = .ok (.iadd, 1) := by decide +kernel
set_option maxRecDepth 100000 in
theorem dX5_performSifted_105 : decode prog_7_method_22_code 105 = .ok (.invokevirtual 98, 3) := by decide +kernel
set_option maxRecDepth 100000 in
theorem dX5_performSifted_108 : decode prog_7_method_22_code 108 = .ok (.ireturn, 1) := by decide +kernel

def fX5_performSifted (z : Nat → Nat) (P : Nat → Option Nat → Int32 → aH → Option (Int32 × aH)) (a0 : Nat) (r1 : Option Nat) (x2 : Int32) (h : aH) : Option (Int32 × aH) :=
  (rdR h a0 [4] 1).bind fun r101 =>
  (r101).bind fun a102 =>
  (arR h a102 x2).bind fun r103 =>
  (obO h a0 4).bind fun fs105 =>
  (fX5_opened z a0 x2 h).bind fun q104 =>
  (r1).bind fun a106 =>
  (rdI q104.2 a106 [2] 4).bind fun x107 =>
  (rdI q104.2 a106 [2] 4).bind fun x108 =>
  (q104.1).bind fun a110 =>
  (obO q104.2 a110 7).bind fun fs111 =>
  (fX9_addSome z a110 r103 x107 (x108 + 1) q104.2).bind fun q109 =>
  (rdR q109 a106 [2] 2).bind fun r112 =>
  (obO q109 a0 4).bind fun fs114 =>
  (P a0 r112 (x2 + 1) q109).bind fun q113 =>
  (if q113.1 = 0 then
  (obO q113.2 a110 7).bind fun fs116 =>
  (fX9_cutTo z a110 0 q113.2).bind fun q115 =>
  (rdI q115 a106 [2] 4).bind fun x117 =>
  (obO q115 a110 7).bind fun fs119 =>
  (fX9_addSome z a110 r103 0 x117 q115).bind fun q118 =>
  (rdI q118 a0 [4] 4).bind fun x120 =>
  (rdJ q118 a0 [4] 5).bind fun j121 =>
  (obO q118 a110 7).bind fun fs123 =>
  (fX9_add z a110 x120 j121 q118).bind fun q122 =>
  (rdI q122 a106 [2] 4).bind fun x124 =>
  (r103).bind fun a126 =>
  (obO q122 a126 7).bind fun fs127 =>
  (fX9_count z a126 q122).bind fun q125 =>
  (obO q125.2 a110 7).bind fun fs129 =>
  (fX9_addSome z a110 (some a126) (x124 + 1) q125.1 q125.2).bind fun q128 =>
  (rdR q128 a106 [2] 1).bind fun r130 =>
  (obO q128 a0 4).bind fun fs132 =>
  (P a0 r130 (x2 + 1) q128).bind fun q131 =>
  some (q131.1, q131.2)
  else
  some (q113.1, q113.2))
set_option maxHeartbeats 4000000 in
set_option maxRecDepth 100000 in
theorem xX5_performSifted {l : Launch} {g : aG} {d : Nat} {P : Nat → Option Nat → Int32 → aH → Option (Int32 × aH)} {dP : Nat} (hP : ∀ (d9 : Nat), dP ≤ d9 → ∀ (a0 : Nat) (r1 : Option Nat) (x2 : Int32) (h : aH) (q : Int32 × aH), P a0 r1 x2 h = some q → Ev l g miX5_perform d9 [.inr (.inr (some a0)), .inr (.inr r1), .inl x2] h (some (.inl q.1), q.2)) (hK : dP + 2 ≤ d) {a0 : Nat} {r1 : Option Nat} {x2 : Int32} {h : aH} {q : Int32 × aH} (hf : fX5_performSifted g.2.2 P a0 r1 x2 h = some q) : Ev l g miX5_performSifted d [.inr (.inr (some a0)), .inr (.inr r1), .inl x2] h (some (.inl q.1), q.2) := by
  obtain ⟨d, rfl⟩ : ∃ e, d = e + 1 := ⟨d - 1, by omega⟩
  refine ⟨?_, Or.inl rfl, Nat.le_of_ble_eq_true rfl⟩
  unfold fX5_performSifted at hf
  show Y l g miX5_performSifted (d + 1) 0 [some (.inr (.inr (some a0))), some (.inr (.inr r1)), some (.inl x2), none, none, none] [] h _
  refine y_aload_n (i := 0) dX5_performSifted_0 rfl rfl ?_
  replace hf := bnd hf
  obtain ⟨r101, er101, hf⟩ := hf
  refine y_getR er101 fl5_11 dX5_performSifted_1 ?_
  refine y_iload_n (i := 2) dX5_performSifted_4 rfl rfl ?_
  replace hf := bnd hf
  obtain ⟨a102, rfl, hf⟩ := hf
  replace hf := bnd hf
  obtain ⟨r103, er103, hf⟩ := hf
  refine y_aaload er103 dX5_performSifted_5 ?_
  refine y_astore_n (i := 3) (lv2 := [some (.inr (.inr (some a0))), some (.inr (.inr r1)), some (.inl x2), some (.inr (.inr r103)), none, none]) dX5_performSifted_6 rfl (by decide) rfl ?_
  refine y_aload_n (i := 0) dX5_performSifted_7 rfl rfl ?_
  refine y_iload_n (i := 2) dX5_performSifted_8 rfl rfl ?_
  replace hf := bnd hf
  obtain ⟨fs105, efs105, hf⟩ := hf
  replace hf := bnd hf
  obtain ⟨q104, eq104, hf⟩ := hf
  refine y_callV (mj := miX5_opened) (args := [.inl x2]) (st := []) dX5_performSifted_9 (gd_of 531 rfl rfl) (gd_of 533 rfl rfl) (gd_of 9 rfl rfl) okX5_opened (obO_spec efs105) rfl rfl (xX5_opened (by omega) eq104) (Nat.le_of_ble_eq_true rfl) rfl ?_
  show Y l g miX5_performSifted (d + 1) 12 [some (.inr (.inr (some a0))), some (.inr (.inr r1)), some (.inl x2), some (.inr (.inr r103)), none, none] [.inr (.inr q104.1)] q104.2 _
  refine y_astore (i := 4) (lv2 := [some (.inr (.inr (some a0))), some (.inr (.inr r1)), some (.inl x2), some (.inr (.inr r103)), some (.inr (.inr q104.1)), none]) dX5_performSifted_12 (by decide) rfl ?_
  refine y_aload (i := 4) dX5_performSifted_14 rfl ?_
  refine y_aload_n (i := 3) dX5_performSifted_16 rfl rfl ?_
  refine y_aload_n (i := 1) dX5_performSifted_17 rfl rfl ?_
  replace hf := bnd hf
  obtain ⟨a106, rfl, hf⟩ := hf
  replace hf := bnd hf
  obtain ⟨x107, ex107, hf⟩ := hf
  refine y_getI ex107 fl5_217 dX5_performSifted_18 ?_
  refine y_aload_n (i := 1) dX5_performSifted_21 rfl rfl ?_
  replace hf := bnd hf
  obtain ⟨x108, ex108, hf⟩ := hf
  refine y_getI ex108 fl5_217 dX5_performSifted_22 ?_
  refine y_iconst (v := 1) dX5_performSifted_25 (by decide) ?_
  refine y_iadd dX5_performSifted_26 ?_
  replace hf := bnd hf
  obtain ⟨a110, ea110, hf⟩ := hf
  rw [ea110]
  replace hf := bnd hf
  obtain ⟨fs111, efs111, hf⟩ := hf
  replace hf := bnd hf
  obtain ⟨q109, eq109, hf⟩ := hf
  refine y_callV (mj := miX9_addSome) (args := [.inr (.inr r103), .inl x107, .inl (x108 + 1)]) (st := []) dX5_performSifted_27 (gd_of 535 rfl rfl) (gd_of 536 rfl rfl) (gd_of 537 rfl rfl) okX9_addSome (obO_spec efs111) rfl rfl (xX9_addSome (by omega) eq109) (Nat.le_of_ble_eq_true rfl) rfl ?_
  show Y l g miX5_performSifted (d + 1) 30 [some (.inr (.inr (some a0))), some (.inr (.inr (some a106))), some (.inl x2), some (.inr (.inr r103)), some (.inr (.inr (some a110))), none] [] q109 _
  refine y_aload_n (i := 0) dX5_performSifted_30 rfl rfl ?_
  refine y_aload_n (i := 1) dX5_performSifted_31 rfl rfl ?_
  replace hf := bnd hf
  obtain ⟨r112, er112, hf⟩ := hf
  refine y_getR er112 fl5_237 dX5_performSifted_32 ?_
  refine y_iload_n (i := 2) dX5_performSifted_35 rfl rfl ?_
  refine y_iconst (v := 1) dX5_performSifted_36 (by decide) ?_
  refine y_iadd dX5_performSifted_37 ?_
  replace hf := bnd hf
  obtain ⟨fs114, efs114, hf⟩ := hf
  replace hf := bnd hf
  obtain ⟨q113, eq113, hf⟩ := hf
  refine y_callV (mj := miX5_perform) (args := [.inr (.inr r112), .inl (x2 + 1)]) (st := []) dX5_performSifted_38 (gd_of 542 rfl rfl) (gd_of 519 rfl rfl) (gd_of 520 rfl rfl) okX5_perform (obO_spec efs114) rfl rfl (hP _ (by omega) _ _ _ _ _ eq113) (Nat.le_of_ble_eq_true rfl) rfl ?_
  show Y l g miX5_performSifted (d + 1) 41 [some (.inr (.inr (some a0))), some (.inr (.inr (some a106))), some (.inl x2), some (.inr (.inr r103)), some (.inr (.inr (some a110))), none] [.inl q113.1] q113.2 _
  refine y_istore (i := 5) (lv2 := [some (.inr (.inr (some a0))), some (.inr (.inr (some a106))), some (.inl x2), some (.inr (.inr r103)), some (.inr (.inr (some a110))), some (.inl q113.1)]) dX5_performSifted_41 (by decide) rfl ?_
  refine y_iload (i := 5) dX5_performSifted_43 rfl ?_
  refine y_if_eq (tgt := 51) dX5_performSifted_45 (by decide) (fun hc => ?_) (fun hc => ?_)
  · rw [if_pos hc] at hf
    refine y_aload (i := 4) dX5_performSifted_51 rfl ?_
    refine y_iconst (v := 0) dX5_performSifted_53 (by decide) ?_
    replace hf := bnd hf
    obtain ⟨fs116, efs116, hf⟩ := hf
    replace hf := bnd hf
    obtain ⟨q115, eq115, hf⟩ := hf
    refine y_callV (mj := miX9_cutTo) (args := [.inl 0]) (st := []) dX5_performSifted_54 (gd_of 508 rfl rfl) (gd_of 476 rfl rfl) (gd_of 477 rfl rfl) okX9_cutTo (obO_spec efs116) rfl rfl (xX9_cutTo (by omega) eq115) (Nat.le_of_ble_eq_true rfl) rfl ?_
    show Y l g miX5_performSifted (d + 1) 57 [some (.inr (.inr (some a0))), some (.inr (.inr (some a106))), some (.inl x2), some (.inr (.inr r103)), some (.inr (.inr (some a110))), some (.inl q113.1)] [] q115 _
    refine y_aload (i := 4) dX5_performSifted_57 rfl ?_
    refine y_aload_n (i := 3) dX5_performSifted_59 rfl rfl ?_
    refine y_iconst (v := 0) dX5_performSifted_60 (by decide) ?_
    refine y_aload_n (i := 1) dX5_performSifted_61 rfl rfl ?_
    replace hf := bnd hf
    obtain ⟨x117, ex117, hf⟩ := hf
    refine y_getI ex117 fl5_217 dX5_performSifted_62 ?_
    replace hf := bnd hf
    obtain ⟨fs119, efs119, hf⟩ := hf
    replace hf := bnd hf
    obtain ⟨q118, eq118, hf⟩ := hf
    refine y_callV (mj := miX9_addSome) (args := [.inr (.inr r103), .inl 0, .inl x117]) (st := []) dX5_performSifted_65 (gd_of 535 rfl rfl) (gd_of 536 rfl rfl) (gd_of 537 rfl rfl) okX9_addSome (obO_spec efs119) rfl rfl (xX9_addSome (by omega) eq118) (Nat.le_of_ble_eq_true rfl) rfl ?_
    show Y l g miX5_performSifted (d + 1) 68 [some (.inr (.inr (some a0))), some (.inr (.inr (some a106))), some (.inl x2), some (.inr (.inr r103)), some (.inr (.inr (some a110))), some (.inl q113.1)] [] q118 _
    refine y_aload (i := 4) dX5_performSifted_68 rfl ?_
    refine y_aload_n (i := 0) dX5_performSifted_70 rfl rfl ?_
    replace hf := bnd hf
    obtain ⟨x120, ex120, hf⟩ := hf
    refine y_getI ex120 fl5_24 dX5_performSifted_71 ?_
    refine y_aload_n (i := 0) dX5_performSifted_74 rfl rfl ?_
    replace hf := bnd hf
    obtain ⟨j121, ej121, hf⟩ := hf
    refine y_getJ ej121 fl5_27 dX5_performSifted_75 ?_
    replace hf := bnd hf
    obtain ⟨fs123, efs123, hf⟩ := hf
    replace hf := bnd hf
    obtain ⟨q122, eq122, hf⟩ := hf
    refine y_callV (mj := miX9_add) (args := [.inl x120, .inr (.inl j121)]) (st := []) dX5_performSifted_78 (gd_of 517 rfl rfl) (gd_of 480 rfl rfl) (gd_of 481 rfl rfl) okX9_add (obO_spec efs123) rfl rfl (xX9_add (by omega) eq122) (Nat.le_of_ble_eq_true rfl) rfl ?_
    show Y l g miX5_performSifted (d + 1) 81 [some (.inr (.inr (some a0))), some (.inr (.inr (some a106))), some (.inl x2), some (.inr (.inr r103)), some (.inr (.inr (some a110))), some (.inl q113.1)] [] q122 _
    refine y_aload (i := 4) dX5_performSifted_81 rfl ?_
    refine y_aload_n (i := 3) dX5_performSifted_83 rfl rfl ?_
    refine y_aload_n (i := 1) dX5_performSifted_84 rfl rfl ?_
    replace hf := bnd hf
    obtain ⟨x124, ex124, hf⟩ := hf
    refine y_getI ex124 fl5_217 dX5_performSifted_85 ?_
    refine y_iconst (v := 1) dX5_performSifted_88 (by decide) ?_
    refine y_iadd dX5_performSifted_89 ?_
    refine y_aload_n (i := 3) dX5_performSifted_90 rfl rfl ?_
    replace hf := bnd hf
    obtain ⟨a126, rfl, hf⟩ := hf
    replace hf := bnd hf
    obtain ⟨fs127, efs127, hf⟩ := hf
    replace hf := bnd hf
    obtain ⟨q125, eq125, hf⟩ := hf
    refine y_callV (mj := miX9_count) (args := []) (st := [.inl (x124 + 1), .inr (.inr (some a126)), .inr (.inr (some a110))]) dX5_performSifted_91 (gd_of 499 rfl rfl) (gd_of 383 rfl rfl) (gd_of 384 rfl rfl) okX9_count (obO_spec efs127) rfl rfl (xX9_count (by omega) eq125) (Nat.le_of_ble_eq_true rfl) rfl ?_
    show Y l g miX5_performSifted (d + 1) 94 [some (.inr (.inr (some a0))), some (.inr (.inr (some a106))), some (.inl x2), some (.inr (.inr (some a126))), some (.inr (.inr (some a110))), some (.inl q113.1)] [.inl q125.1, .inl (x124 + 1), .inr (.inr (some a126)), .inr (.inr (some a110))] q125.2 _
    replace hf := bnd hf
    obtain ⟨fs129, efs129, hf⟩ := hf
    replace hf := bnd hf
    obtain ⟨q128, eq128, hf⟩ := hf
    refine y_callV (mj := miX9_addSome) (args := [.inr (.inr (some a126)), .inl (x124 + 1), .inl q125.1]) (st := []) dX5_performSifted_94 (gd_of 535 rfl rfl) (gd_of 536 rfl rfl) (gd_of 537 rfl rfl) okX9_addSome (obO_spec efs129) rfl rfl (xX9_addSome (by omega) eq128) (Nat.le_of_ble_eq_true rfl) rfl ?_
    show Y l g miX5_performSifted (d + 1) 97 [some (.inr (.inr (some a0))), some (.inr (.inr (some a106))), some (.inl x2), some (.inr (.inr (some a126))), some (.inr (.inr (some a110))), some (.inl q113.1)] [] q128 _
    refine y_aload_n (i := 0) dX5_performSifted_97 rfl rfl ?_
    refine y_aload_n (i := 1) dX5_performSifted_98 rfl rfl ?_
    replace hf := bnd hf
    obtain ⟨r130, er130, hf⟩ := hf
    refine y_getR er130 fl5_228 dX5_performSifted_99 ?_
    refine y_iload_n (i := 2) dX5_performSifted_102 rfl rfl ?_
    refine y_iconst (v := 1) dX5_performSifted_103 (by decide) ?_
    refine y_iadd dX5_performSifted_104 ?_
    replace hf := bnd hf
    obtain ⟨fs132, efs132, hf⟩ := hf
    replace hf := bnd hf
    obtain ⟨q131, eq131, hf⟩ := hf
    refine y_callV (mj := miX5_perform) (args := [.inr (.inr r130), .inl (x2 + 1)]) (st := []) dX5_performSifted_105 (gd_of 542 rfl rfl) (gd_of 519 rfl rfl) (gd_of 520 rfl rfl) okX5_perform (obO_spec efs132) rfl rfl (hP _ (by omega) _ _ _ _ _ eq131) (Nat.le_of_ble_eq_true rfl) rfl ?_
    show Y l g miX5_performSifted (d + 1) 108 [some (.inr (.inr (some a0))), some (.inr (.inr (some a106))), some (.inl x2), some (.inr (.inr (some a126))), some (.inr (.inr (some a110))), some (.inl q113.1)] [.inl q131.1] q131.2 _
    obtain rfl := Option.some.inj hf
    exact y_ret (v := some (.inl q131.1)) dX5_performSifted_108 rfl
  · rw [if_neg hc] at hf
    refine y_iload (i := 5) dX5_performSifted_48 rfl ?_
    obtain rfl := Option.some.inj hf
    exact y_ret (v := some (.inl q113.1)) dX5_performSifted_50 rfl
set_option maxRecDepth 100000 in
theorem dX5_performSpread_0 : decode prog_7_method_29_code 0 = .ok (.aload_n 0, 1) := by decide +kernel
set_option maxRecDepth 100000 in
theorem dX5_performSpread_1 : decode prog_7_method_29_code 1 = .ok (.getfield 11, 3) := by decide +kernel
set_option maxRecDepth 100000 in
theorem dX5_performSpread_4 : decode prog_7_method_29_code 4 = .ok (.iload_n 2, 1) := by decide +kernel
set_option maxRecDepth 100000 in
theorem dX5_performSpread_5 : decode prog_7_method_29_code 5 = .ok (.aaload, 1) := by decide +kernel
set_option maxRecDepth 100000 in
theorem dX5_performSpread_6 : decode prog_7_method_29_code 6 = .ok (.astore_n 3, 1) := by decide +kernel
set_option maxRecDepth 100000 in
theorem dX5_performSpread_7 : decode prog_7_method_29_code 7 = .ok (.aload_n 3, 1) := by decide +kernel
set_option maxRecDepth 100000 in
theorem dX5_performSpread_8 : decode prog_7_method_29_code 8 = .ok (.invokevirtual 67, 3) := by decide +kernel
set_option maxRecDepth 100000 in
theorem dX5_performSpread_11 : decode prog_7_method_29_code 11 = .ok (.iconst 1, 1) := by decide +kernel
set_option maxRecDepth 100000 in
theorem dX5_performSpread_12 : decode prog_7_method_29_code 12 = .ok (.isub, 1) := by decide +kernel
set_option maxRecDepth 100000 in
theorem dX5_performSpread_13 : decode prog_7_method_29_code 13 = .ok (.istore 4, 2) := by decide +kernel
set_option maxRecDepth 100000 in
theorem dX5_performSpread_15 : decode prog_7_method_29_code 15 = .ok (.aload_n 3, 1) := by decide +kernel
set_option maxRecDepth 100000 in
theorem dX5_performSpread_16 : decode prog_7_method_29_code 16 = .ok (.iload 4, 2) := by decide +kernel
set_option maxRecDepth 100000 in
theorem dX5_performSpread_18 : decode prog_7_method_29_code 18 = .ok (.invokevirtual 54, 3) := by decide +kernel
set_option maxRecDepth 100000 in
theorem dX5_performSpread_21 : decode prog_7_method_29_code 21 = .ok (.iconst 3, 1) := by decide +kernel
set_option maxRecDepth 100000 in
theorem dX5_performSpread_22 : decode prog_7_method_29_code 22 = .ok (.if_icmp .ne 5, 3) := by decide +kernel
set_option maxRecDepth 100000 in
theorem dX5_performSpread_25 : decode prog_7_method_29_code 25 = .ok (.iconst 3, 1) := by decide +kernel
set_option maxRecDepth 100000 in
theorem dX5_performSpread_26 : decode prog_7_method_29_code 26 = .ok (.ireturn, 1) := by decide +kernel
set_option maxRecDepth 100000 in
theorem dX5_performSpread_27 : decode prog_7_method_29_code 27 = .ok (.aload_n 3, 1) := by decide +kernel
set_option maxRecDepth 100000 in
theorem dX5_performSpread_28 : decode prog_7_method_29_code 28 = .ok (.iload 4, 2) := by decide +kernel
set_option maxRecDepth 100000 in
theorem dX5_performSpread_30 : decode prog_7_method_29_code 30 = .ok (.invokevirtual 134, 3) := by decide +kernel
set_option maxRecDepth 100000 in
theorem dX5_performSpread_33 : decode prog_7_method_29_code 33 = .ok (.istore 5, 2) := by decide +kernel
set_option maxRecDepth 100000 in
theorem dX5_performSpread_35 : decode prog_7_method_29_code 35 = .ok (.aload_n 0, 1) := by decide +kernel
set_option maxRecDepth 100000 in
theorem dX5_performSpread_36 : decode prog_7_method_29_code 36 = .ok (.getfield 31, 3) := by decide +kernel
set_option maxRecDepth 100000 in
theorem dX5_performSpread_39 : decode prog_7_method_29_code 39 = .ok (.iload 5, 2) := by decide +kernel
set_option maxRecDepth 100000 in
theorem dX5_performSpread_41 : decode prog_7_method_29_code 41 = .ok (.invokevirtual 144, 3) := by decide +kernel
set_option maxRecDepth 100000 in
theorem dX5_performSpread_44 : decode prog_7_method_29_code 44 = .ok (.aload_n 1, 1) := by decide +kernel
set_option maxRecDepth 100000 in
theorem dX5_performSpread_45 : decode prog_7_method_29_code 45 = .ok (.getfield 217, 3) := by decide +kernel
set_option maxRecDepth 100000 in
theorem dX5_performSpread_48 : decode prog_7_method_29_code 48 = .ok (.if_icmp .eq 6, 3) := by decide +kernel
set_option maxRecDepth 100000 in
theorem dX5_performSpread_51 : decode prog_7_method_29_code 51 = .ok (.bipush 6, 2) := by decide +kernel
set_option maxRecDepth 100000 in
theorem dX5_performSpread_53 : decode prog_7_method_29_code 53 = .ok (.ireturn, 1) := by decide +kernel
set_option maxRecDepth 100000 in
theorem dX5_performSpread_54 : decode prog_7_method_29_code 54 = .ok (.aload_n 0, 1) := by decide +kernel
set_option maxRecDepth 100000 in
theorem dX5_performSpread_55 : decode prog_7_method_29_code 55 = .ok (.iload_n 2, 1) := by decide +kernel
set_option maxRecDepth 100000 in
theorem dX5_performSpread_56 : decode prog_7_method_29_code 56 = .ok (.invokevirtual 94, 3) := by decide +kernel
set_option maxRecDepth 100000 in
theorem dX5_performSpread_59 : decode prog_7_method_29_code 59 = .ok (.astore 6, 2) := by decide +kernel
set_option maxRecDepth 100000 in
theorem dX5_performSpread_61 : decode prog_7_method_29_code 61 = .ok (.aload 6, 2) := by decide +kernel
set_option maxRecDepth 100000 in
theorem dX5_performSpread_63 : decode prog_7_method_29_code 63 = .ok (.aload_n 3, 1) := by decide +kernel
set_option maxRecDepth 100000 in
theorem dX5_performSpread_64 : decode prog_7_method_29_code 64 = .ok (.iconst 0, 1) := by decide +kernel
set_option maxRecDepth 100000 in
theorem dX5_performSpread_65 : decode prog_7_method_29_code 65 = .ok (.iload 4, 2) := by decide +kernel
set_option maxRecDepth 100000 in
theorem dX5_performSpread_67 : decode prog_7_method_29_code 67 = .ok (.invokevirtual 213, 3) := by decide +kernel
set_option maxRecDepth 100000 in
theorem dX5_performSpread_70 : decode prog_7_method_29_code 70 = .ok (.iconst 0, 1) := by decide +kernel
set_option maxRecDepth 100000 in
theorem dX5_performSpread_71 : decode prog_7_method_29_code 71 = .ok (.istore 7, 2) := by decide +kernel
set_option maxRecDepth 100000 in
theorem dX5_performSpread_73 : decode prog_7_method_29_code 73 = .ok (.iload 7, 2) := by decide +kernel
set_option maxRecDepth 100000 in
theorem dX5_performSpread_75 : decode prog_7_method_29_code 75 = .ok (.aload_n 1, 1) := by decide +kernel
set_option maxRecDepth 100000 in
theorem dX5_performSpread_76 : decode prog_7_method_29_code 76 = .ok (.getfield 217, 3) := by decide +kernel
set_option maxRecDepth 100000 in
theorem dX5_performSpread_79 : decode prog_7_method_29_code 79 = .ok (.if_icmp .ge 27, 3) := by decide +kernel
set_option maxRecDepth 100000 in
theorem dX5_performSpread_82 : decode prog_7_method_29_code 82 = .ok (.aload 6, 2) := by decide +kernel
set_option maxRecDepth 100000 in
theorem dX5_performSpread_84 : decode prog_7_method_29_code 84 = .ok (.iconst 0, 1) := by decide +kernel
set_option maxRecDepth 100000 in
theorem dX5_performSpread_85 : decode prog_7_method_29_code 85 = .ok (.aload_n 0, 1) := by decide +kernel
set_option maxRecDepth 100000 in
theorem dX5_performSpread_86 : decode prog_7_method_29_code 86 = .ok (.getfield 31, 3) := by decide +kernel
set_option maxRecDepth 100000 in
theorem dX5_performSpread_89 : decode prog_7_method_29_code 89 = .ok (.iload 5, 2) := by decide +kernel
set_option maxRecDepth 100000 in
theorem dX5_performSpread_91 : decode prog_7_method_29_code 91 = .ok (.iload 7, 2) := by decide +kernel
set_option maxRecDepth 100000 in
theorem dX5_performSpread_93 : decode prog_7_method_29_code 93 = .ok (.invokevirtual 158, 3) := by decide +kernel
set_option maxRecDepth 100000 in
theorem dX5_performSpread_96 : decode prog_7_method_29_code 96 = .ok (.i2l, 1) := by decide +kernel
set_option maxRecDepth 100000 in
theorem dX5_performSpread_97 : decode prog_7_method_29_code 97 = .ok (.invokevirtual 90, 3) := by decide +kernel
set_option maxRecDepth 100000 in
theorem dX5_performSpread_100 : decode prog_7_method_29_code 100 = .ok (.iinc 7 1, 3) := by decide +kernel
set_option maxRecDepth 100000 in
theorem dX5_performSpread_103 : decode prog_7_method_29_code 103 = .ok (.goto (-30), 3) := by decide +kernel
set_option maxRecDepth 100000 in
theorem dX5_performSpread_106 : decode prog_7_method_29_code 106 = .ok (.aload_n 0, 1) := by decide +kernel
set_option maxRecDepth 100000 in
theorem dX5_performSpread_107 : decode prog_7_method_29_code 107 = .ok (.aload_n 1, 1) := by decide +kernel
set_option maxRecDepth 100000 in
theorem dX5_performSpread_108 : decode prog_7_method_29_code 108 = .ok (.getfield 228, 3) := by decide +kernel
set_option maxRecDepth 100000 in
theorem dX5_performSpread_111 : decode prog_7_method_29_code 111 = .ok (.iload_n 2, 1) := by decide +kernel
set_option maxRecDepth 100000 in
theorem dX5_performSpread_112 : decode prog_7_method_29_code 112 = .ok (.iconst 1, 1) := by decide +kernel
set_option maxRecDepth 100000 in
theorem dX5_performSpread_113 : decode prog_7_method_29_code 113 = .ok (.iadd, 1) := by decide +kernel
set_option maxRecDepth 100000 in
theorem dX5_performSpread_114 : decode prog_7_method_29_code 114 = .ok (.invokevirtual 98, 3) := by decide +kernel
set_option maxRecDepth 100000 in
theorem dX5_performSpread_117 : decode prog_7_method_29_code 117 = .ok (.ireturn, 1) := by decide +kernel

def fX5_performSpread_73 (z : Nat → Nat) (P : Nat → Option Nat → Int32 → aH → Option (Int32 × aH)) : Nat → Nat → Option Nat → Int32 → Int32 → Option Nat → Int32 → aH → Option (Int32 × aH)
  | 0, _, _, _, _, _, _, _ => none
  | n + 1, a0, r1, x2, x5, r6, x7, h => (r1).bind fun a101 =>
  (rdI h a101 [2] 4).bind fun x102 =>
  (if x102 ≤ x7 then
  (rdR h a101 [2] 1).bind fun r103 =>
  (obO h a0 4).bind fun fs105 =>
  (P a0 r103 (x2 + 1) h).bind fun q104 =>
  some (q104.1, q104.2)
  else
  (rdR h a0 [4] 0).bind fun r106 =>
  (r106).bind fun a108 =>
  (obO h a108 3).bind fun fs109 =>
  (fX4_itemAt z a108 x5 x7 h).bind fun q107 =>
  (r6).bind fun a111 =>
  (obO q107.2 a111 7).bind fun fs112 =>
  (fX9_add z a111 0 (Int32.toInt64 q107.1) q107.2).bind fun q110 =>
  fX5_performSpread_73 z P n a0 (some a101) x2 x5 (some a111) (x7 + 1) q110)
set_option maxHeartbeats 4000000 in
set_option maxRecDepth 100000 in
theorem xX5_performSpread_73 {l : Launch} {g : aG} {d : Nat} {P : Nat → Option Nat → Int32 → aH → Option (Int32 × aH)} {dP : Nat} (hP : ∀ (d9 : Nat), dP ≤ d9 → ∀ (a0 : Nat) (r1 : Option Nat) (x2 : Int32) (h : aH) (q : Int32 × aH), P a0 r1 x2 h = some q → Ev l g miX5_perform d9 [.inr (.inr (some a0)), .inr (.inr r1), .inl x2] h (some (.inl q.1), q.2)) (hK : dP + 3 ≤ d + 1) : ∀ (n : Nat) (a0 : Nat) (r1 : Option Nat) (x2 : Int32) (x5 : Int32) (r6 : Option Nat) (x7 : Int32) (h : aH) (q : Int32 × aH), fX5_performSpread_73 g.2.2 P n a0 r1 x2 x5 r6 x7 h = some q → Y l g miX5_performSpread (d + 1) 73 [some (.inr (.inr (some a0))), some (.inr (.inr r1)), some (.inl x2), none, none, some (.inl x5), some (.inr (.inr r6)), some (.inl x7)] [] h (some (.inl q.1), q.2) := by
  intro n
  induction n with
  | zero => intro a0 r1 x2 x5 r6 x7 h q hf; simp [fX5_performSpread_73] at hf
  | succ n ih =>
    intro a0 r1 x2 x5 r6 x7 h q hf
    rw [fX5_performSpread_73] at hf
    refine y_iload (i := 7) dX5_performSpread_73 rfl ?_
    refine y_aload_n (i := 1) dX5_performSpread_75 rfl rfl ?_
    replace hf := bnd hf
    obtain ⟨a101, rfl, hf⟩ := hf
    replace hf := bnd hf
    obtain ⟨x102, ex102, hf⟩ := hf
    refine y_getI ex102 fl5_217 dX5_performSpread_76 ?_
    refine y_icmp_ge (tgt := 106) dX5_performSpread_79 (by decide) (fun hc => ?_) (fun hc => ?_)
    · rw [if_pos hc] at hf
      refine y_aload_n (i := 0) dX5_performSpread_106 rfl rfl ?_
      refine y_aload_n (i := 1) dX5_performSpread_107 rfl rfl ?_
      replace hf := bnd hf
      obtain ⟨r103, er103, hf⟩ := hf
      refine y_getR er103 fl5_228 dX5_performSpread_108 ?_
      refine y_iload_n (i := 2) dX5_performSpread_111 rfl rfl ?_
      refine y_iconst (v := 1) dX5_performSpread_112 (by decide) ?_
      refine y_iadd dX5_performSpread_113 ?_
      replace hf := bnd hf
      obtain ⟨fs105, efs105, hf⟩ := hf
      replace hf := bnd hf
      obtain ⟨q104, eq104, hf⟩ := hf
      refine y_callV (mj := miX5_perform) (args := [.inr (.inr r103), .inl (x2 + 1)]) (st := []) dX5_performSpread_114 (gd_of 542 rfl rfl) (gd_of 519 rfl rfl) (gd_of 520 rfl rfl) okX5_perform (obO_spec efs105) rfl rfl (hP _ (by omega) _ _ _ _ _ eq104) (Nat.le_of_ble_eq_true rfl) rfl ?_
      show Y l g miX5_performSpread (d + 1) 117 [some (.inr (.inr (some a0))), some (.inr (.inr (some a101))), some (.inl x2), none, none, some (.inl x5), some (.inr (.inr r6)), some (.inl x7)] [.inl q104.1] q104.2 _
      obtain rfl := Option.some.inj hf
      exact y_ret (v := some (.inl q104.1)) dX5_performSpread_117 rfl
    · rw [if_neg hc] at hf
      refine y_aload (i := 6) dX5_performSpread_82 rfl ?_
      refine y_iconst (v := 0) dX5_performSpread_84 (by decide) ?_
      refine y_aload_n (i := 0) dX5_performSpread_85 rfl rfl ?_
      replace hf := bnd hf
      obtain ⟨r106, er106, hf⟩ := hf
      refine y_getR er106 fl5_31 dX5_performSpread_86 ?_
      refine y_iload (i := 5) dX5_performSpread_89 rfl ?_
      refine y_iload (i := 7) dX5_performSpread_91 rfl ?_
      replace hf := bnd hf
      obtain ⟨a108, rfl, hf⟩ := hf
      replace hf := bnd hf
      obtain ⟨fs109, efs109, hf⟩ := hf
      replace hf := bnd hf
      obtain ⟨q107, eq107, hf⟩ := hf
      refine y_callV (mj := miX4_itemAt) (args := [.inl x5, .inl x7]) (st := [.inl 0, .inr (.inr r6)]) dX5_performSpread_93 (gd_of 610 rfl rfl) (gd_of 464 rfl rfl) (gd_of 465 rfl rfl) okX4_itemAt (obO_spec efs109) rfl rfl (xX4_itemAt (by omega) eq107) (Nat.le_of_ble_eq_true rfl) rfl ?_
      show Y l g miX5_performSpread (d + 1) 96 [some (.inr (.inr (some a0))), some (.inr (.inr (some a101))), some (.inl x2), none, none, some (.inl x5), some (.inr (.inr r6)), some (.inl x7)] [.inl q107.1, .inl 0, .inr (.inr r6)] q107.2 _
      refine y_i2l dX5_performSpread_96 ?_
      replace hf := bnd hf
      obtain ⟨a111, rfl, hf⟩ := hf
      replace hf := bnd hf
      obtain ⟨fs112, efs112, hf⟩ := hf
      replace hf := bnd hf
      obtain ⟨q110, eq110, hf⟩ := hf
      refine y_callV (mj := miX9_add) (args := [.inl 0, .inr (.inl (Int32.toInt64 q107.1))]) (st := []) dX5_performSpread_97 (gd_of 517 rfl rfl) (gd_of 480 rfl rfl) (gd_of 481 rfl rfl) okX9_add (obO_spec efs112) rfl rfl (xX9_add (by omega) eq110) (Nat.le_of_ble_eq_true rfl) rfl ?_
      show Y l g miX5_performSpread (d + 1) 100 [some (.inr (.inr (some a0))), some (.inr (.inr (some a101))), some (.inl x2), none, none, some (.inl x5), some (.inr (.inr (some a111))), some (.inl x7)] [] q110 _
      refine y_iinc (i := 7) (y := 1) (lv2 := [some (.inr (.inr (some a0))), some (.inr (.inr (some a101))), some (.inl x2), none, none, some (.inl x5), some (.inr (.inr (some a111))), some (.inl (x7 + 1))]) dX5_performSpread_100 rfl (by decide) (by decide) rfl ?_
      refine y_goto (tgt := 73) dX5_performSpread_103 (by decide) ?_
      refine Y.weak (lv2 := [some (.inr (.inr (some a0))), some (.inr (.inr (some a101))), some (.inl x2), none, none, some (.inl x5), some (.inr (.inr (some a111))), some (.inl (x7 + 1))]) [true, true, true, false, false, true, true, true] rfl ?_
      exact ih _ _ _ _ _ _ _ _ hf
def fX5_performSpread (z : Nat → Nat) (P : Nat → Option Nat → Int32 → aH → Option (Int32 × aH)) (a0 : Nat) (r1 : Option Nat) (x2 : Int32) (h : aH) : Option (Int32 × aH) :=
  (rdR h a0 [4] 1).bind fun r101 =>
  (r101).bind fun a102 =>
  (arR h a102 x2).bind fun r103 =>
  (r103).bind fun a105 =>
  (obO h a105 7).bind fun fs106 =>
  (fX9_count z a105 h).bind fun q104 =>
  (obO q104.2 a105 7).bind fun fs108 =>
  (fX9_kindAt z a105 (q104.1 - 1) q104.2).bind fun q107 =>
  (if q107.1 = 3 then
  some (3, q107.2)
  else
  (obO q107.2 a105 7).bind fun fs110 =>
  (fX9_intAt z a105 (q104.1 - 1) q107.2).bind fun q109 =>
  (rdR q109.2 a0 [4] 0).bind fun r111 =>
  (r111).bind fun a113 =>
  (obO q109.2 a113 3).bind fun fs114 =>
  (fX4_lengthOf z a113 q109.1 q109.2).bind fun q112 =>
  (r1).bind fun a115 =>
  (rdI q112.2 a115 [2] 4).bind fun x116 =>
  (if q112.1 = x116 then
  (obO q112.2 a0 4).bind fun fs118 =>
  (fX5_opened z a0 x2 q112.2).bind fun q117 =>
  (q117.1).bind fun a120 =>
  (obO q117.2 a120 7).bind fun fs121 =>
  (fX9_addSome z a120 (some a105) 0 (q104.1 - 1) q117.2).bind fun q119 =>
  fX5_performSpread_73 z P 4000 a0 (some a115) x2 q109.1 (some a120) 0 q119
  else
  some (6, q112.2)))
set_option maxHeartbeats 4000000 in
set_option maxRecDepth 100000 in
theorem xX5_performSpread {l : Launch} {g : aG} {d : Nat} {P : Nat → Option Nat → Int32 → aH → Option (Int32 × aH)} {dP : Nat} (hP : ∀ (d9 : Nat), dP ≤ d9 → ∀ (a0 : Nat) (r1 : Option Nat) (x2 : Int32) (h : aH) (q : Int32 × aH), P a0 r1 x2 h = some q → Ev l g miX5_perform d9 [.inr (.inr (some a0)), .inr (.inr r1), .inl x2] h (some (.inl q.1), q.2)) (hK : dP + 3 ≤ d) {a0 : Nat} {r1 : Option Nat} {x2 : Int32} {h : aH} {q : Int32 × aH} (hf : fX5_performSpread g.2.2 P a0 r1 x2 h = some q) : Ev l g miX5_performSpread d [.inr (.inr (some a0)), .inr (.inr r1), .inl x2] h (some (.inl q.1), q.2) := by
  obtain ⟨d, rfl⟩ : ∃ e, d = e + 1 := ⟨d - 1, by omega⟩
  refine ⟨?_, Or.inl rfl, Nat.le_of_ble_eq_true rfl⟩
  unfold fX5_performSpread at hf
  show Y l g miX5_performSpread (d + 1) 0 [some (.inr (.inr (some a0))), some (.inr (.inr r1)), some (.inl x2), none, none, none, none, none] [] h _
  refine y_aload_n (i := 0) dX5_performSpread_0 rfl rfl ?_
  replace hf := bnd hf
  obtain ⟨r101, er101, hf⟩ := hf
  refine y_getR er101 fl5_11 dX5_performSpread_1 ?_
  refine y_iload_n (i := 2) dX5_performSpread_4 rfl rfl ?_
  replace hf := bnd hf
  obtain ⟨a102, rfl, hf⟩ := hf
  replace hf := bnd hf
  obtain ⟨r103, er103, hf⟩ := hf
  refine y_aaload er103 dX5_performSpread_5 ?_
  refine y_astore_n (i := 3) (lv2 := [some (.inr (.inr (some a0))), some (.inr (.inr r1)), some (.inl x2), some (.inr (.inr r103)), none, none, none, none]) dX5_performSpread_6 rfl (by decide) rfl ?_
  refine y_aload_n (i := 3) dX5_performSpread_7 rfl rfl ?_
  replace hf := bnd hf
  obtain ⟨a105, rfl, hf⟩ := hf
  replace hf := bnd hf
  obtain ⟨fs106, efs106, hf⟩ := hf
  replace hf := bnd hf
  obtain ⟨q104, eq104, hf⟩ := hf
  refine y_callV (mj := miX9_count) (args := []) (st := []) dX5_performSpread_8 (gd_of 499 rfl rfl) (gd_of 383 rfl rfl) (gd_of 384 rfl rfl) okX9_count (obO_spec efs106) rfl rfl (xX9_count (by omega) eq104) (Nat.le_of_ble_eq_true rfl) rfl ?_
  show Y l g miX5_performSpread (d + 1) 11 [some (.inr (.inr (some a0))), some (.inr (.inr r1)), some (.inl x2), some (.inr (.inr (some a105))), none, none, none, none] [.inl q104.1] q104.2 _
  refine y_iconst (v := 1) dX5_performSpread_11 (by decide) ?_
  refine y_isub dX5_performSpread_12 ?_
  refine y_istore (i := 4) (lv2 := [some (.inr (.inr (some a0))), some (.inr (.inr r1)), some (.inl x2), some (.inr (.inr (some a105))), some (.inl (q104.1 - 1)), none, none, none]) dX5_performSpread_13 (by decide) rfl ?_
  refine y_aload_n (i := 3) dX5_performSpread_15 rfl rfl ?_
  refine y_iload (i := 4) dX5_performSpread_16 rfl ?_
  replace hf := bnd hf
  obtain ⟨fs108, efs108, hf⟩ := hf
  replace hf := bnd hf
  obtain ⟨q107, eq107, hf⟩ := hf
  refine y_callV (mj := miX9_kindAt) (args := [.inl (q104.1 - 1)]) (st := []) dX5_performSpread_18 (gd_of 501 rfl rfl) (gd_of 387 rfl rfl) (gd_of 388 rfl rfl) okX9_kindAt (obO_spec efs108) rfl rfl (xX9_kindAt (by omega) eq107) (Nat.le_of_ble_eq_true rfl) rfl ?_
  show Y l g miX5_performSpread (d + 1) 21 [some (.inr (.inr (some a0))), some (.inr (.inr r1)), some (.inl x2), some (.inr (.inr (some a105))), some (.inl (q104.1 - 1)), none, none, none] [.inl q107.1] q107.2 _
  refine y_iconst (v := 3) dX5_performSpread_21 (by decide) ?_
  refine y_icmp_ne (tgt := 27) dX5_performSpread_22 (by decide) (fun hc => ?_) (fun hc => ?_)
  · rw [if_neg hc] at hf
    refine y_aload_n (i := 3) dX5_performSpread_27 rfl rfl ?_
    refine y_iload (i := 4) dX5_performSpread_28 rfl ?_
    replace hf := bnd hf
    obtain ⟨fs110, efs110, hf⟩ := hf
    replace hf := bnd hf
    obtain ⟨q109, eq109, hf⟩ := hf
    refine y_callV (mj := miX9_intAt) (args := [.inl (q104.1 - 1)]) (st := []) dX5_performSpread_30 (gd_of 602 rfl rfl) (gd_of 603 rfl rfl) (gd_of 604 rfl rfl) okX9_intAt (obO_spec efs110) rfl rfl (xX9_intAt (by omega) eq109) (Nat.le_of_ble_eq_true rfl) rfl ?_
    show Y l g miX5_performSpread (d + 1) 33 [some (.inr (.inr (some a0))), some (.inr (.inr r1)), some (.inl x2), some (.inr (.inr (some a105))), some (.inl (q104.1 - 1)), none, none, none] [.inl q109.1] q109.2 _
    refine y_istore (i := 5) (lv2 := [some (.inr (.inr (some a0))), some (.inr (.inr r1)), some (.inl x2), some (.inr (.inr (some a105))), some (.inl (q104.1 - 1)), some (.inl q109.1), none, none]) dX5_performSpread_33 (by decide) rfl ?_
    refine y_aload_n (i := 0) dX5_performSpread_35 rfl rfl ?_
    replace hf := bnd hf
    obtain ⟨r111, er111, hf⟩ := hf
    refine y_getR er111 fl5_31 dX5_performSpread_36 ?_
    refine y_iload (i := 5) dX5_performSpread_39 rfl ?_
    replace hf := bnd hf
    obtain ⟨a113, rfl, hf⟩ := hf
    replace hf := bnd hf
    obtain ⟨fs114, efs114, hf⟩ := hf
    replace hf := bnd hf
    obtain ⟨q112, eq112, hf⟩ := hf
    refine y_callV (mj := miX4_lengthOf) (args := [.inl q109.1]) (st := []) dX5_performSpread_41 (gd_of 606 rfl rfl) (gd_of 607 rfl rfl) (gd_of 608 rfl rfl) okX4_lengthOf (obO_spec efs114) rfl rfl (xX4_lengthOf (by omega) eq112) (Nat.le_of_ble_eq_true rfl) rfl ?_
    show Y l g miX5_performSpread (d + 1) 44 [some (.inr (.inr (some a0))), some (.inr (.inr r1)), some (.inl x2), some (.inr (.inr (some a105))), some (.inl (q104.1 - 1)), some (.inl q109.1), none, none] [.inl q112.1] q112.2 _
    refine y_aload_n (i := 1) dX5_performSpread_44 rfl rfl ?_
    replace hf := bnd hf
    obtain ⟨a115, rfl, hf⟩ := hf
    replace hf := bnd hf
    obtain ⟨x116, ex116, hf⟩ := hf
    refine y_getI ex116 fl5_217 dX5_performSpread_45 ?_
    refine y_icmp_eq (tgt := 54) dX5_performSpread_48 (by decide) (fun hc => ?_) (fun hc => ?_)
    · rw [if_pos hc] at hf
      refine y_aload_n (i := 0) dX5_performSpread_54 rfl rfl ?_
      refine y_iload_n (i := 2) dX5_performSpread_55 rfl rfl ?_
      replace hf := bnd hf
      obtain ⟨fs118, efs118, hf⟩ := hf
      replace hf := bnd hf
      obtain ⟨q117, eq117, hf⟩ := hf
      refine y_callV (mj := miX5_opened) (args := [.inl x2]) (st := []) dX5_performSpread_56 (gd_of 531 rfl rfl) (gd_of 533 rfl rfl) (gd_of 9 rfl rfl) okX5_opened (obO_spec efs118) rfl rfl (xX5_opened (by omega) eq117) (Nat.le_of_ble_eq_true rfl) rfl ?_
      show Y l g miX5_performSpread (d + 1) 59 [some (.inr (.inr (some a0))), some (.inr (.inr (some a115))), some (.inl x2), some (.inr (.inr (some a105))), some (.inl (q104.1 - 1)), some (.inl q109.1), none, none] [.inr (.inr q117.1)] q117.2 _
      refine y_astore (i := 6) (lv2 := [some (.inr (.inr (some a0))), some (.inr (.inr (some a115))), some (.inl x2), some (.inr (.inr (some a105))), some (.inl (q104.1 - 1)), some (.inl q109.1), some (.inr (.inr q117.1)), none]) dX5_performSpread_59 (by decide) rfl ?_
      refine y_aload (i := 6) dX5_performSpread_61 rfl ?_
      refine y_aload_n (i := 3) dX5_performSpread_63 rfl rfl ?_
      refine y_iconst (v := 0) dX5_performSpread_64 (by decide) ?_
      refine y_iload (i := 4) dX5_performSpread_65 rfl ?_
      replace hf := bnd hf
      obtain ⟨a120, ea120, hf⟩ := hf
      rw [ea120]
      replace hf := bnd hf
      obtain ⟨fs121, efs121, hf⟩ := hf
      replace hf := bnd hf
      obtain ⟨q119, eq119, hf⟩ := hf
      refine y_callV (mj := miX9_addSome) (args := [.inr (.inr (some a105)), .inl 0, .inl (q104.1 - 1)]) (st := []) dX5_performSpread_67 (gd_of 535 rfl rfl) (gd_of 536 rfl rfl) (gd_of 537 rfl rfl) okX9_addSome (obO_spec efs121) rfl rfl (xX9_addSome (by omega) eq119) (Nat.le_of_ble_eq_true rfl) rfl ?_
      show Y l g miX5_performSpread (d + 1) 70 [some (.inr (.inr (some a0))), some (.inr (.inr (some a115))), some (.inl x2), some (.inr (.inr (some a105))), some (.inl (q104.1 - 1)), some (.inl q109.1), some (.inr (.inr (some a120))), none] [] q119 _
      refine y_iconst (v := 0) dX5_performSpread_70 (by decide) ?_
      refine y_istore (i := 7) (lv2 := [some (.inr (.inr (some a0))), some (.inr (.inr (some a115))), some (.inl x2), some (.inr (.inr (some a105))), some (.inl (q104.1 - 1)), some (.inl q109.1), some (.inr (.inr (some a120))), some (.inl 0)]) dX5_performSpread_71 (by decide) rfl ?_
      refine Y.weak (lv2 := [some (.inr (.inr (some a0))), some (.inr (.inr (some a115))), some (.inl x2), none, none, some (.inl q109.1), some (.inr (.inr (some a120))), some (.inl 0)]) [true, true, true, false, false, true, true, true] rfl ?_
      exact xX5_performSpread_73 hP hK 4000 _ _ _ _ _ _ _ _ hf
    · rw [if_neg hc] at hf
      refine y_bipush (v := 6) dX5_performSpread_51 (by decide) ?_
      obtain rfl := Option.some.inj hf
      exact y_ret (v := some (.inl 6)) dX5_performSpread_53 rfl
  · rw [if_pos hc] at hf
    refine y_iconst (v := 3) dX5_performSpread_25 (by decide) ?_
    obtain rfl := Option.some.inj hf
    exact y_ret (v := some (.inl 3)) dX5_performSpread_26 rfl
set_option maxRecDepth 100000 in
theorem dX5_performThen_0 : decode prog_7_method_23_code 0 = .ok (.aload_n 0, 1) := by decide +kernel
set_option maxRecDepth 100000 in
theorem dX5_performThen_1 : decode prog_7_method_23_code 1 = .ok (.aload_n 0, 1) := by decide +kernel
set_option maxRecDepth 100000 in
theorem dX5_performThen_2 : decode prog_7_method_23_code 2 = .ok (.getfield 11, 3) := by decide +kernel
set_option maxRecDepth 100000 in
theorem dX5_performThen_5 : decode prog_7_method_23_code 5 = .ok (.iload_n 2, 1) := by decide +kernel
set_option maxRecDepth 100000 in
theorem dX5_performThen_6 : decode prog_7_method_23_code 6 = .ok (.aaload, 1) := by decide +kernel
set_option maxRecDepth 100000 in
theorem dX5_performThen_7 : decode prog_7_method_23_code 7 = .ok (.invokevirtual 67, 3) := by decide +kernel
set_option maxRecDepth 100000 in
theorem dX5_performThen_10 : decode prog_7_method_23_code 10 = .ok (.iload_n 2, 1) := by decide +kernel
set_option maxRecDepth 100000 in
theorem dX5_performThen_11 : decode prog_7_method_23_code 11 = .ok (.invokevirtual 240, 3) := by decide +kernel
set_option maxRecDepth 100000 in
theorem dX5_performThen_14 : decode prog_7_method_23_code 14 = .ok (.aload_n 0, 1) := by decide +kernel
set_option maxRecDepth 100000 in
theorem dX5_performThen_15 : decode prog_7_method_23_code 15 = .ok (.aload_n 1, 1) := by decide +kernel
set_option maxRecDepth 100000 in
theorem dX5_performThen_16 : decode prog_7_method_23_code 16 = .ok (.getfield 228, 3) := by decide +kernel
set_option maxRecDepth 100000 in
theorem dX5_performThen_19 : decode prog_7_method_23_code 19 = .ok (.iload_n 2, 1) := by decide +kernel
set_option maxRecDepth 100000 in
theorem dX5_performThen_20 : decode prog_7_method_23_code 20 = .ok (.iconst 1, 1) := by decide +kernel
set_option maxRecDepth 100000 in
theorem dX5_performThen_21 : decode prog_7_method_23_code 21 = .ok (.iadd, 1) := by decide +kernel
set_option maxRecDepth 100000 in
theorem dX5_performThen_22 : decode prog_7_method_23_code 22 = .ok (.invokevirtual 98, 3) := by decide +kernel
set_option maxRecDepth 100000 in
theorem dX5_performThen_25 : decode prog_7_method_23_code 25 = .ok (.istore_n 3, 1) := by decide +kernel
set_option maxRecDepth 100000 in
theorem dX5_performThen_26 : decode prog_7_method_23_code 26 = .ok (.iload_n 3, 1) := by decide +kernel
set_option maxRecDepth 100000 in
theorem dX5_performThen_27 : decode prog_7_method_23_code 27 = .ok (.ifCond .eq 5, 3) := by decide +kernel
set_option maxRecDepth 100000 in
theorem dX5_performThen_30 : decode prog_7_method_23_code 30 = .ok (.iload_n 3, 1) := by decide +kernel
set_option maxRecDepth 100000 in
theorem dX5_performThen_31 : decode prog_7_method_23_code 31 = .ok (.ireturn, 1) := by decide +kernel
set_option maxRecDepth 100000 in
theorem dX5_performThen_32 : decode prog_7_method_23_code 32 = .ok (.aload_n 0, 1) := by decide +kernel
set_option maxRecDepth 100000 in
theorem dX5_performThen_33 : decode prog_7_method_23_code 33 = .ok (.iload_n 2, 1) := by decide +kernel
set_option maxRecDepth 100000 in
theorem dX5_performThen_34 : decode prog_7_method_23_code 34 = .ok (.invokevirtual 94, 3) := by decide +kernel
set_option maxRecDepth 100000 in
theorem dX5_performThen_37 : decode prog_7_method_23_code 37 = .ok (.astore 4, 2) := by decide +kernel
set_option maxRecDepth 100000 in
theorem dX5_performThen_39 : decode prog_7_method_23_code 39 = .ok (.aload_n 1, 1) := by decide +kernel
set_option maxRecDepth 100000 in
theorem dX5_performThen_40 : decode prog_7_method_23_code 40 = .ok (.getfield 228, 3) := by decide +kernel
set_option maxRecDepth 100000 in
theorem dX5_performThen_43 : decode prog_7_method_23_code 43 = .ok (.getfield 117, 3) := by decide +kernel
set_option maxRecDepth 100000 in
theorem dX5_performThen_46 : decode prog_7_method_23_code 46 = .ok (.getfield 121, 3) := by decide +kernel
set_option maxRecDepth 100000 in
theorem dX5_performThen_49 : decode prog_7_method_23_code 49 = .ok (.iconst 4, 1) := by decide +kernel
set_option maxRecDepth 100000 in
theorem dX5_performThen_50 : decode prog_7_method_23_code 50 = .ok (.if_icmp .eq 16, 3) := by decide +kernel
set_option maxRecDepth 100000 in
theorem dX5_performThen_53 : decode prog_7_method_23_code 53 = .ok (.aload 4, 2) := by decide +kernel
set_option maxRecDepth 100000 in
theorem dX5_performThen_55 : decode prog_7_method_23_code 55 = .ok (.aload_n 0, 1) := by decide +kernel
set_option maxRecDepth 100000 in
theorem dX5_performThen_56 : decode prog_7_method_23_code 56 = .ok (.getfield 24, 3) := by decide +kernel
set_option maxRecDepth 100000 in
theorem dX5_performThen_59 : decode prog_7_method_23_code 59 = .ok (.aload_n 0, 1) := by decide +kernel
set_option maxRecDepth 100000 in
theorem dX5_performThen_60 : decode prog_7_method_23_code 60 = .ok (.getfield 27, 3) := by decide +kernel
set_option maxRecDepth 100000 in
theorem dX5_performThen_63 : decode prog_7_method_23_code 63 = .ok (.invokevirtual 90, 3) := by decide +kernel
set_option maxRecDepth 100000 in
theorem dX5_performThen_66 : decode prog_7_method_23_code 66 = .ok (.aload_n 0, 1) := by decide +kernel
set_option maxRecDepth 100000 in
theorem dX5_performThen_67 : decode prog_7_method_23_code 67 = .ok (.aload_n 1, 1) := by decide +kernel
set_option maxRecDepth 100000 in
theorem dX5_performThen_68 : decode prog_7_method_23_code 68 = .ok (.getfield 237, 3) := by decide +kernel
set_option maxRecDepth 100000 in
theorem dX5_performThen_71 : decode prog_7_method_23_code 71 = .ok (.iload_n 2, 1) := by decide +kernel
set_option maxRecDepth 100000 in
theorem dX5_performThen_72 : decode prog_7_method_23_code 72 = .ok (.iconst 1, 1) := by decide +kernel
set_option maxRecDepth 100000 in
theorem dX5_performThen_73 : decode prog_7_method_23_code 73 = .ok (.iadd, 1) := by decide +kernel
set_option maxRecDepth 100000 in
theorem dX5_performThen_74 : decode prog_7_method_23_code 74 = .ok (.invokevirtual 98, 3) := by decide +kernel
set_option maxRecDepth 100000 in
theorem dX5_performThen_77 : decode prog_7_method_23_code 77 = .ok (.ireturn, 1) := by decide +kernel

def fX5_performThen_66 (z : Nat → Nat) (P : Nat → Option Nat → Int32 → aH → Option (Int32 × aH)) (a0 : Nat) (r1 : Option Nat) (x2 : Int32) (h : aH) : Option (Int32 × aH) :=
  (r1).bind fun a101 =>
  (rdR h a101 [2] 2).bind fun r102 =>
  (obO h a0 4).bind fun fs104 =>
  (P a0 r102 (x2 + 1) h).bind fun q103 =>
  some (q103.1, q103.2)
set_option maxHeartbeats 4000000 in
set_option maxRecDepth 100000 in
theorem xX5_performThen_66 {l : Launch} {g : aG} {d : Nat} {P : Nat → Option Nat → Int32 → aH → Option (Int32 × aH)} {dP : Nat} (hP : ∀ (d9 : Nat), dP ≤ d9 → ∀ (a0 : Nat) (r1 : Option Nat) (x2 : Int32) (h : aH) (q : Int32 × aH), P a0 r1 x2 h = some q → Ev l g miX5_perform d9 [.inr (.inr (some a0)), .inr (.inr r1), .inl x2] h (some (.inl q.1), q.2)) (hK : dP + 3 ≤ d + 1) {a0 : Nat} {r1 : Option Nat} {x2 : Int32} {h : aH} {q : Int32 × aH} (hf : fX5_performThen_66 g.2.2 P a0 r1 x2 h = some q) : Y l g miX5_performThen (d + 1) 66 [some (.inr (.inr (some a0))), some (.inr (.inr r1)), some (.inl x2), none, none] [] h (some (.inl q.1), q.2) := by
  unfold fX5_performThen_66 at hf
  refine y_aload_n (i := 0) dX5_performThen_66 rfl rfl ?_
  refine y_aload_n (i := 1) dX5_performThen_67 rfl rfl ?_
  replace hf := bnd hf
  obtain ⟨a101, rfl, hf⟩ := hf
  replace hf := bnd hf
  obtain ⟨r102, er102, hf⟩ := hf
  refine y_getR er102 fl5_237 dX5_performThen_68 ?_
  refine y_iload_n (i := 2) dX5_performThen_71 rfl rfl ?_
  refine y_iconst (v := 1) dX5_performThen_72 (by decide) ?_
  refine y_iadd dX5_performThen_73 ?_
  replace hf := bnd hf
  obtain ⟨fs104, efs104, hf⟩ := hf
  replace hf := bnd hf
  obtain ⟨q103, eq103, hf⟩ := hf
  refine y_callV (mj := miX5_perform) (args := [.inr (.inr r102), .inl (x2 + 1)]) (st := []) dX5_performThen_74 (gd_of 542 rfl rfl) (gd_of 519 rfl rfl) (gd_of 520 rfl rfl) okX5_perform (obO_spec efs104) rfl rfl (hP _ (by omega) _ _ _ _ _ eq103) (Nat.le_of_ble_eq_true rfl) rfl ?_
  show Y l g miX5_performThen (d + 1) 77 [some (.inr (.inr (some a0))), some (.inr (.inr (some a101))), some (.inl x2), none, none] [.inl q103.1] q103.2 _
  obtain rfl := Option.some.inj hf
  exact y_ret (v := some (.inl q103.1)) dX5_performThen_77 rfl
def fX5_performThen (z : Nat → Nat) (P : Nat → Option Nat → Int32 → aH → Option (Int32 × aH)) (a0 : Nat) (r1 : Option Nat) (x2 : Int32) (h : aH) : Option (Int32 × aH) :=
  (rdR h a0 [4] 1).bind fun r101 =>
  (r101).bind fun a102 =>
  (arR h a102 x2).bind fun r103 =>
  (r103).bind fun a105 =>
  (obO h a105 7).bind fun fs106 =>
  (fX9_count z a105 h).bind fun q104 =>
  (obO q104.2 a0 4).bind fun fs108 =>
  (fX5_passFirst z a0 q104.1 x2 q104.2).bind fun q107 =>
  (r1).bind fun a109 =>
  (rdR q107 a109 [2] 1).bind fun r110 =>
  (obO q107 a0 4).bind fun fs112 =>
  (P a0 r110 (x2 + 1) q107).bind fun q111 =>
  (if q111.1 = 0 then
  (obO q111.2 a0 4).bind fun fs114 =>
  (fX5_opened z a0 x2 q111.2).bind fun q113 =>
  (rdR q113.2 a109 [2] 1).bind fun r115 =>
  (r115).bind fun a116 =>
  (rdR q113.2 a116 [0, 1] 1).bind fun r117 =>
  (r117).bind fun a118 =>
  (rdI q113.2 a118 [6] 1).bind fun x119 =>
  (if x119 = 4 then
  fX5_performThen_66 z P a0 (some a109) x2 q113.2
  else
  (rdI q113.2 a0 [4] 4).bind fun x120 =>
  (rdJ q113.2 a0 [4] 5).bind fun j121 =>
  (q113.1).bind fun a123 =>
  (obO q113.2 a123 7).bind fun fs124 =>
  (fX9_add z a123 x120 j121 q113.2).bind fun q122 =>
  fX5_performThen_66 z P a0 (some a109) x2 q122)
  else
  some (q111.1, q111.2))
set_option maxHeartbeats 4000000 in
set_option maxRecDepth 100000 in
theorem xX5_performThen {l : Launch} {g : aG} {d : Nat} {P : Nat → Option Nat → Int32 → aH → Option (Int32 × aH)} {dP : Nat} (hP : ∀ (d9 : Nat), dP ≤ d9 → ∀ (a0 : Nat) (r1 : Option Nat) (x2 : Int32) (h : aH) (q : Int32 × aH), P a0 r1 x2 h = some q → Ev l g miX5_perform d9 [.inr (.inr (some a0)), .inr (.inr r1), .inl x2] h (some (.inl q.1), q.2)) (hK : dP + 3 ≤ d) {a0 : Nat} {r1 : Option Nat} {x2 : Int32} {h : aH} {q : Int32 × aH} (hf : fX5_performThen g.2.2 P a0 r1 x2 h = some q) : Ev l g miX5_performThen d [.inr (.inr (some a0)), .inr (.inr r1), .inl x2] h (some (.inl q.1), q.2) := by
  obtain ⟨d, rfl⟩ : ∃ e, d = e + 1 := ⟨d - 1, by omega⟩
  refine ⟨?_, Or.inl rfl, Nat.le_of_ble_eq_true rfl⟩
  unfold fX5_performThen at hf
  show Y l g miX5_performThen (d + 1) 0 [some (.inr (.inr (some a0))), some (.inr (.inr r1)), some (.inl x2), none, none] [] h _
  refine y_aload_n (i := 0) dX5_performThen_0 rfl rfl ?_
  refine y_aload_n (i := 0) dX5_performThen_1 rfl rfl ?_
  replace hf := bnd hf
  obtain ⟨r101, er101, hf⟩ := hf
  refine y_getR er101 fl5_11 dX5_performThen_2 ?_
  refine y_iload_n (i := 2) dX5_performThen_5 rfl rfl ?_
  replace hf := bnd hf
  obtain ⟨a102, rfl, hf⟩ := hf
  replace hf := bnd hf
  obtain ⟨r103, er103, hf⟩ := hf
  refine y_aaload er103 dX5_performThen_6 ?_
  replace hf := bnd hf
  obtain ⟨a105, rfl, hf⟩ := hf
  replace hf := bnd hf
  obtain ⟨fs106, efs106, hf⟩ := hf
  replace hf := bnd hf
  obtain ⟨q104, eq104, hf⟩ := hf
  refine y_callV (mj := miX9_count) (args := []) (st := [.inr (.inr (some a0))]) dX5_performThen_7 (gd_of 499 rfl rfl) (gd_of 383 rfl rfl) (gd_of 384 rfl rfl) okX9_count (obO_spec efs106) rfl rfl (xX9_count (by omega) eq104) (Nat.le_of_ble_eq_true rfl) rfl ?_
  show Y l g miX5_performThen (d + 1) 10 [some (.inr (.inr (some a0))), some (.inr (.inr r1)), some (.inl x2), none, none] [.inl q104.1, .inr (.inr (some a0))] q104.2 _
  refine y_iload_n (i := 2) dX5_performThen_10 rfl rfl ?_
  replace hf := bnd hf
  obtain ⟨fs108, efs108, hf⟩ := hf
  replace hf := bnd hf
  obtain ⟨q107, eq107, hf⟩ := hf
  refine y_callV (mj := miX5_passFirst) (args := [.inl q104.1, .inl x2]) (st := []) dX5_performThen_11 (gd_of 556 rfl rfl) (gd_of 558 rfl rfl) (gd_of 13 rfl rfl) okX5_passFirst (obO_spec efs108) rfl rfl (xX5_passFirst (by omega) eq107) (Nat.le_of_ble_eq_true rfl) rfl ?_
  show Y l g miX5_performThen (d + 1) 14 [some (.inr (.inr (some a0))), some (.inr (.inr r1)), some (.inl x2), none, none] [] q107 _
  refine y_aload_n (i := 0) dX5_performThen_14 rfl rfl ?_
  refine y_aload_n (i := 1) dX5_performThen_15 rfl rfl ?_
  replace hf := bnd hf
  obtain ⟨a109, rfl, hf⟩ := hf
  replace hf := bnd hf
  obtain ⟨r110, er110, hf⟩ := hf
  refine y_getR er110 fl5_228 dX5_performThen_16 ?_
  refine y_iload_n (i := 2) dX5_performThen_19 rfl rfl ?_
  refine y_iconst (v := 1) dX5_performThen_20 (by decide) ?_
  refine y_iadd dX5_performThen_21 ?_
  replace hf := bnd hf
  obtain ⟨fs112, efs112, hf⟩ := hf
  replace hf := bnd hf
  obtain ⟨q111, eq111, hf⟩ := hf
  refine y_callV (mj := miX5_perform) (args := [.inr (.inr r110), .inl (x2 + 1)]) (st := []) dX5_performThen_22 (gd_of 542 rfl rfl) (gd_of 519 rfl rfl) (gd_of 520 rfl rfl) okX5_perform (obO_spec efs112) rfl rfl (hP _ (by omega) _ _ _ _ _ eq111) (Nat.le_of_ble_eq_true rfl) rfl ?_
  show Y l g miX5_performThen (d + 1) 25 [some (.inr (.inr (some a0))), some (.inr (.inr (some a109))), some (.inl x2), none, none] [.inl q111.1] q111.2 _
  refine y_istore_n (i := 3) (lv2 := [some (.inr (.inr (some a0))), some (.inr (.inr (some a109))), some (.inl x2), some (.inl q111.1), none]) dX5_performThen_25 rfl (by decide) rfl ?_
  refine y_iload_n (i := 3) dX5_performThen_26 rfl rfl ?_
  refine y_if_eq (tgt := 32) dX5_performThen_27 (by decide) (fun hc => ?_) (fun hc => ?_)
  · rw [if_pos hc] at hf
    refine y_aload_n (i := 0) dX5_performThen_32 rfl rfl ?_
    refine y_iload_n (i := 2) dX5_performThen_33 rfl rfl ?_
    replace hf := bnd hf
    obtain ⟨fs114, efs114, hf⟩ := hf
    replace hf := bnd hf
    obtain ⟨q113, eq113, hf⟩ := hf
    refine y_callV (mj := miX5_opened) (args := [.inl x2]) (st := []) dX5_performThen_34 (gd_of 531 rfl rfl) (gd_of 533 rfl rfl) (gd_of 9 rfl rfl) okX5_opened (obO_spec efs114) rfl rfl (xX5_opened (by omega) eq113) (Nat.le_of_ble_eq_true rfl) rfl ?_
    show Y l g miX5_performThen (d + 1) 37 [some (.inr (.inr (some a0))), some (.inr (.inr (some a109))), some (.inl x2), some (.inl q111.1), none] [.inr (.inr q113.1)] q113.2 _
    refine y_astore (i := 4) (lv2 := [some (.inr (.inr (some a0))), some (.inr (.inr (some a109))), some (.inl x2), some (.inl q111.1), some (.inr (.inr q113.1))]) dX5_performThen_37 (by decide) rfl ?_
    refine y_aload_n (i := 1) dX5_performThen_39 rfl rfl ?_
    replace hf := bnd hf
    obtain ⟨r115, er115, hf⟩ := hf
    refine y_getR er115 fl5_228 dX5_performThen_40 ?_
    replace hf := bnd hf
    obtain ⟨a116, rfl, hf⟩ := hf
    replace hf := bnd hf
    obtain ⟨r117, er117, hf⟩ := hf
    refine y_getR er117 fl5_117 dX5_performThen_43 ?_
    replace hf := bnd hf
    obtain ⟨a118, rfl, hf⟩ := hf
    replace hf := bnd hf
    obtain ⟨x119, ex119, hf⟩ := hf
    refine y_getI ex119 fl5_121 dX5_performThen_46 ?_
    refine y_iconst (v := 4) dX5_performThen_49 (by decide) ?_
    refine y_icmp_eq (tgt := 66) dX5_performThen_50 (by decide) (fun hc => ?_) (fun hc => ?_)
    · rw [if_pos hc] at hf
      refine Y.weak (lv2 := [some (.inr (.inr (some a0))), some (.inr (.inr (some a109))), some (.inl x2), none, none]) [true, true, true, false, false] rfl ?_
      exact xX5_performThen_66 hP hK hf
    · rw [if_neg hc] at hf
      refine y_aload (i := 4) dX5_performThen_53 rfl ?_
      refine y_aload_n (i := 0) dX5_performThen_55 rfl rfl ?_
      replace hf := bnd hf
      obtain ⟨x120, ex120, hf⟩ := hf
      refine y_getI ex120 fl5_24 dX5_performThen_56 ?_
      refine y_aload_n (i := 0) dX5_performThen_59 rfl rfl ?_
      replace hf := bnd hf
      obtain ⟨j121, ej121, hf⟩ := hf
      refine y_getJ ej121 fl5_27 dX5_performThen_60 ?_
      replace hf := bnd hf
      obtain ⟨a123, ea123, hf⟩ := hf
      rw [ea123]
      replace hf := bnd hf
      obtain ⟨fs124, efs124, hf⟩ := hf
      replace hf := bnd hf
      obtain ⟨q122, eq122, hf⟩ := hf
      refine y_callV (mj := miX9_add) (args := [.inl x120, .inr (.inl j121)]) (st := []) dX5_performThen_63 (gd_of 517 rfl rfl) (gd_of 480 rfl rfl) (gd_of 481 rfl rfl) okX9_add (obO_spec efs124) rfl rfl (xX9_add (by omega) eq122) (Nat.le_of_ble_eq_true rfl) rfl ?_
      show Y l g miX5_performThen (d + 1) 66 [some (.inr (.inr (some a0))), some (.inr (.inr (some a109))), some (.inl x2), some (.inl q111.1), some (.inr (.inr (some a123)))] [] q122 _
      refine Y.weak (lv2 := [some (.inr (.inr (some a0))), some (.inr (.inr (some a109))), some (.inl x2), none, none]) [true, true, true, false, false] rfl ?_
      exact xX5_performThen_66 hP hK hf
  · rw [if_neg hc] at hf
    refine y_iload_n (i := 3) dX5_performThen_30 rfl rfl ?_
    obtain rfl := Option.some.inj hf
    exact y_ret (v := some (.inl q111.1)) dX5_performThen_31 rfl
