set_option maxRecDepth 100000 in
theorem dX5_reachItem_0 : decode prog_7_method_11_code 0 = .ok (.aload_n 1, 1) := by decide +kernel
set_option maxRecDepth 100000 in
theorem dX5_reachItem_1 : decode prog_7_method_11_code 1 = .ok (.iconst 0, 1) := by decide +kernel
set_option maxRecDepth 100000 in
theorem dX5_reachItem_2 : decode prog_7_method_11_code 2 = .ok (.invokevirtual 54, 3) := by decide +kernel
set_option maxRecDepth 100000 in
theorem dX5_reachItem_5 : decode prog_7_method_11_code 5 = .ok (.iconst 3, 1) := by decide +kernel
set_option maxRecDepth 100000 in
theorem dX5_reachItem_6 : decode prog_7_method_11_code 6 = .ok (.if_icmp .ne 5, 3) := by decide +kernel
set_option maxRecDepth 100000 in
theorem dX5_reachItem_9 : decode prog_7_method_11_code 9 = .ok (.iconst 3, 1) := by decide +kernel
set_option maxRecDepth 100000 in
theorem dX5_reachItem_10 : decode prog_7_method_11_code 10 = .ok (.ireturn, 1) := by decide +kernel
set_option maxRecDepth 100000 in
theorem dX5_reachItem_11 : decode prog_7_method_11_code 11 = .ok (.aload_n 1, 1) := by decide +kernel
set_option maxRecDepth 100000 in
theorem dX5_reachItem_12 : decode prog_7_method_11_code 12 = .ok (.iconst 0, 1) := by decide +kernel
set_option maxRecDepth 100000 in
theorem dX5_reachItem_13 : decode prog_7_method_11_code 13 = .ok (.invokevirtual 134, 3) := by decide +kernel
set_option maxRecDepth 100000 in
theorem dX5_reachItem_16 : decode prog_7_method_11_code 16 = .ok (.istore_n 3, 1) := by decide +kernel
set_option maxRecDepth 100000 in
theorem dX5_reachItem_17 : decode prog_7_method_11_code 17 = .ok (.aload_n 1, 1) := by decide +kernel
set_option maxRecDepth 100000 in
theorem dX5_reachItem_18 : decode prog_7_method_11_code 18 = .ok (.iconst 1, 1) := by decide +kernel
set_option maxRecDepth 100000 in
theorem dX5_reachItem_19 : decode prog_7_method_11_code 19 = .ok (.invokevirtual 134, 3) := by decide +kernel
set_option maxRecDepth 100000 in
theorem dX5_reachItem_22 : decode prog_7_method_11_code 22 = .ok (.istore 4, 2) := by decide +kernel
set_option maxRecDepth 100000 in
theorem dX5_reachItem_24 : decode prog_7_method_11_code 24 = .ok (.aload_n 0, 1) := by decide +kernel
set_option maxRecDepth 100000 in
theorem dX5_reachItem_25 : decode prog_7_method_11_code 25 = .ok (.getfield 31, 3) := by decide +kernel
set_option maxRecDepth 100000 in
theorem dX5_reachItem_28 : decode prog_7_method_11_code 28 = .ok (.iload_n 3, 1) := by decide +kernel
set_option maxRecDepth 100000 in
theorem dX5_reachItem_29 : decode prog_7_method_11_code 29 = .ok (.iload 4, 2) := by decide +kernel
set_option maxRecDepth 100000 in
theorem dX5_reachItem_31 : decode prog_7_method_11_code 31 = .ok (.invokevirtual 155, 3) := by decide +kernel
set_option maxRecDepth 100000 in
theorem dX5_reachItem_34 : decode prog_7_method_11_code 34 = .ok (.ifCond .ne 5, 3) := by decide +kernel
set_option maxRecDepth 100000 in
theorem dX5_reachItem_37 : decode prog_7_method_11_code 37 = .ok (.iconst 4, 1) := by decide +kernel
set_option maxRecDepth 100000 in
theorem dX5_reachItem_38 : decode prog_7_method_11_code 38 = .ok (.ireturn, 1) := by decide +kernel
set_option maxRecDepth 100000 in
theorem dX5_reachItem_39 : decode prog_7_method_11_code 39 = .ok (.iload_n 2, 1) := by decide +kernel
set_option maxRecDepth 100000 in
theorem dX5_reachItem_40 : decode prog_7_method_11_code 40 = .ok (.ifCond .ne 20, 3) := by decide +kernel
set_option maxRecDepth 100000 in
theorem dX5_reachItem_43 : decode prog_7_method_11_code 43 = .ok (.aload_n 0, 1) := by decide +kernel
set_option maxRecDepth 100000 in
theorem dX5_reachItem_44 : decode prog_7_method_11_code 44 = .ok (.iconst 0, 1) := by decide +kernel
set_option maxRecDepth 100000 in
theorem dX5_reachItem_45 : decode prog_7_method_11_code 45 = .ok (.aload_n 0, 1) := by decide +kernel
set_option maxRecDepth 100000 in
theorem dX5_reachItem_46 : decode prog_7_method_11_code 46 = .ok (.getfield 31, 3) := by decide +kernel
set_option maxRecDepth 100000 in
theorem dX5_reachItem_49 : decode prog_7_method_11_code 49 = .ok (.iload_n 3, 1) := by decide +kernel
set_option maxRecDepth 100000 in
theorem dX5_reachItem_50 : decode prog_7_method_11_code 50 = .ok (.iload 4, 2) := by decide +kernel
set_option maxRecDepth 100000 in
theorem dX5_reachItem_52 : decode prog_7_method_11_code 52 = .ok (.invokevirtual 158, 3) := by decide +kernel
set_option maxRecDepth 100000 in
theorem dX5_reachItem_55 : decode prog_7_method_11_code 55 = .ok (.i2l, 1) := by decide +kernel
set_option maxRecDepth 100000 in
theorem dX5_reachItem_56 : decode prog_7_method_11_code 56 = .ok (.invokevirtual 130, 3) := by decide +kernel
set_option maxRecDepth 100000 in
theorem dX5_reachItem_59 : decode prog_7_method_11_code 59 = .ok (.ireturn, 1) := by decide +kernel
set_option maxRecDepth 100000 in
theorem dX5_reachItem_60 : decode prog_7_method_11_code 60 = .ok (.aload_n 0, 1) := by decide +kernel
set_option maxRecDepth 100000 in
theorem dX5_reachItem_61 : decode prog_7_method_11_code 61 = .ok (.getfield 31, 3) := by decide +kernel
set_option maxRecDepth 100000 in
theorem dX5_reachItem_64 : decode prog_7_method_11_code 64 = .ok (.iload_n 3, 1) := by decide +kernel
set_option maxRecDepth 100000 in
theorem dX5_reachItem_65 : decode prog_7_method_11_code 65 = .ok (.iload 4, 2) := by decide +kernel
set_option maxRecDepth 100000 in
theorem dX5_reachItem_67 : decode prog_7_method_11_code 67 = .ok (.aload_n 1, 1) := by decide +kernel
set_option maxRecDepth 100000 in
theorem dX5_reachItem_68 : decode prog_7_method_11_code 68 = .ok (.iconst 2, 1) := by decide +kernel
set_option maxRecDepth 100000 in
theorem dX5_reachItem_69 : decode prog_7_method_11_code 69 = .ok (.invokevirtual 134, 3) := by decide +kernel
set_option maxRecDepth 100000 in
theorem dX5_reachItem_72 : decode prog_7_method_11_code 72 = .ok (.invokevirtual 161, 3) := by decide +kernel
set_option maxRecDepth 100000 in
theorem dX5_reachItem_75 : decode prog_7_method_11_code 75 = .ok (.aload_n 0, 1) := by decide +kernel
set_option maxRecDepth 100000 in
theorem dX5_reachItem_76 : decode prog_7_method_11_code 76 = .ok (.iconst 3, 1) := by decide +kernel
set_option maxRecDepth 100000 in
theorem dX5_reachItem_77 : decode prog_7_method_11_code 77 = .ok (.lconst 0, 1) := by decide +kernel
set_option maxRecDepth 100000 in
theorem dX5_reachItem_78 : decode prog_7_method_11_code 78 = .ok (.invokevirtual 130, 3) := by decide +kernel
set_option maxRecDepth 100000 in
theorem dX5_reachItem_81 : decode prog_7_method_11_code 81 = .ok (.ireturn, 1) := by decide +kernel
set_option maxRecDepth 100000 in
theorem okX9_intAt : mOk miX9_intAt 1 := ⟨(gd_of 605 rfl rfl), (gd_of 74 rfl rfl), by decide +kernel, ⟨by decide +kernel, by decide +kernel, by decide +kernel⟩, by decide⟩
set_option maxRecDepth 100000 in
theorem okX4_put : mOk miX4_put 3 := ⟨(gd_of 457 rfl rfl), (gd_of 73 rfl rfl), by decide +kernel, ⟨by decide +kernel, by decide +kernel, by decide +kernel⟩, by decide⟩
def fX5_reachItem (z : Nat → Nat) (a0 : Nat) (r1 : Option Nat) (x2 : Int32) (h : aH) : Option (Int32 × aH) :=
  (r1).bind fun a102 =>
  (obO h a102 7).bind fun fs103 =>
  (fX9_kindAt z a102 0 h).bind fun q101 =>
  (if q101.1 = 3 then
  some (3, q101.2)
  else
  (obO q101.2 a102 7).bind fun fs105 =>
  (fX9_intAt z a102 0 q101.2).bind fun q104 =>
  (obO q104.2 a102 7).bind fun fs107 =>
  (fX9_intAt z a102 1 q104.2).bind fun q106 =>
  (rdR q106.2 a0 [4] 0).bind fun r108 =>
  (r108).bind fun a110 =>
  (obO q106.2 a110 3).bind fun fs111 =>
  (fX4_hasItem z a110 q104.1 q106.1 q106.2).bind fun q109 =>
  (if q109.1 = 0 then
  some (4, q109.2)
  else
  (if x2 = 0 then
  (rdR q109.2 a0 [4] 0).bind fun r120 =>
  (r120).bind fun a122 =>
  (obO q109.2 a122 3).bind fun fs123 =>
  (fX4_itemAt z a122 q104.1 q106.1 q109.2).bind fun q121 =>
  (obO q121.2 a0 4).bind fun fs125 =>
  (fX5_give z a0 0 (Int32.toInt64 q121.1) q121.2).bind fun q124 =>
  some (q124.1, q124.2)
  else
  (rdR q109.2 a0 [4] 0).bind fun r112 =>
  (obO q109.2 a102 7).bind fun fs114 =>
  (fX9_intAt z a102 2 q109.2).bind fun q113 =>
  (r112).bind fun a116 =>
  (obO q113.2 a116 3).bind fun fs117 =>
  (fX4_put z a116 q104.1 q106.1 q113.1 q113.2).bind fun q115 =>
  (obO q115 a0 4).bind fun fs119 =>
  (fX5_give z a0 3 0 q115).bind fun q118 =>
  some (q118.1, q118.2))))
set_option maxHeartbeats 4000000 in
set_option maxRecDepth 100000 in
theorem xX5_reachItem {l : Launch} {g : aG} {d : Nat} (hK : 3 ≤ d) {a0 : Nat} {r1 : Option Nat} {x2 : Int32} {h : aH} {q : Int32 × aH} (hf : fX5_reachItem g.2.2 a0 r1 x2 h = some q) : Ev l g miX5_reachItem d [.inr (.inr (some a0)), .inr (.inr r1), .inl x2] h (some (.inl q.1), q.2) := by
  obtain ⟨d, rfl⟩ : ∃ e, d = e + 1 := ⟨d - 1, by omega⟩
  refine ⟨?_, Or.inl rfl, Nat.le_of_ble_eq_true rfl⟩
  unfold fX5_reachItem at hf
  show Y l g miX5_reachItem (d + 1) 0 [some (.inr (.inr (some a0))), some (.inr (.inr r1)), some (.inl x2), none, none] [] h _
  refine y_aload_n (i := 1) dX5_reachItem_0 rfl rfl ?_
  refine y_iconst (v := 0) dX5_reachItem_1 (by decide) ?_
  replace hf := bnd hf
  obtain ⟨a102, rfl, hf⟩ := hf
  replace hf := bnd hf
  obtain ⟨fs103, efs103, hf⟩ := hf
  replace hf := bnd hf
  obtain ⟨q101, eq101, hf⟩ := hf
  refine y_callV (mj := miX9_kindAt) (args := [.inl 0]) (st := []) dX5_reachItem_2 (gd_of 501 rfl rfl) (gd_of 387 rfl rfl) (gd_of 388 rfl rfl) okX9_kindAt (obO_spec efs103) rfl rfl (xX9_kindAt (by omega) eq101) (Nat.le_of_ble_eq_true rfl) rfl ?_
  show Y l g miX5_reachItem (d + 1) 5 [some (.inr (.inr (some a0))), some (.inr (.inr (some a102))), some (.inl x2), none, none] [.inl q101.1] q101.2 _
  refine y_iconst (v := 3) dX5_reachItem_5 (by decide) ?_
  refine y_icmp_ne (tgt := 11) dX5_reachItem_6 (by decide) (fun hc => ?_) (fun hc => ?_)
  · rw [if_neg hc] at hf
    refine y_aload_n (i := 1) dX5_reachItem_11 rfl rfl ?_
    refine y_iconst (v := 0) dX5_reachItem_12 (by decide) ?_
    replace hf := bnd hf
    obtain ⟨fs105, efs105, hf⟩ := hf
    replace hf := bnd hf
    obtain ⟨q104, eq104, hf⟩ := hf
    refine y_callV (mj := miX9_intAt) (args := [.inl 0]) (st := []) dX5_reachItem_13 (gd_of 602 rfl rfl) (gd_of 603 rfl rfl) (gd_of 604 rfl rfl) okX9_intAt (obO_spec efs105) rfl rfl (xX9_intAt (by omega) eq104) (Nat.le_of_ble_eq_true rfl) rfl ?_
    show Y l g miX5_reachItem (d + 1) 16 [some (.inr (.inr (some a0))), some (.inr (.inr (some a102))), some (.inl x2), none, none] [.inl q104.1] q104.2 _
    refine y_istore_n (i := 3) (lv2 := [some (.inr (.inr (some a0))), some (.inr (.inr (some a102))), some (.inl x2), some (.inl q104.1), none]) dX5_reachItem_16 rfl (by decide) rfl ?_
    refine y_aload_n (i := 1) dX5_reachItem_17 rfl rfl ?_
    refine y_iconst (v := 1) dX5_reachItem_18 (by decide) ?_
    replace hf := bnd hf
    obtain ⟨fs107, efs107, hf⟩ := hf
    replace hf := bnd hf
    obtain ⟨q106, eq106, hf⟩ := hf
    refine y_callV (mj := miX9_intAt) (args := [.inl 1]) (st := []) dX5_reachItem_19 (gd_of 602 rfl rfl) (gd_of 603 rfl rfl) (gd_of 604 rfl rfl) okX9_intAt (obO_spec efs107) rfl rfl (xX9_intAt (by omega) eq106) (Nat.le_of_ble_eq_true rfl) rfl ?_
    show Y l g miX5_reachItem (d + 1) 22 [some (.inr (.inr (some a0))), some (.inr (.inr (some a102))), some (.inl x2), some (.inl q104.1), none] [.inl q106.1] q106.2 _
    refine y_istore (i := 4) (lv2 := [some (.inr (.inr (some a0))), some (.inr (.inr (some a102))), some (.inl x2), some (.inl q104.1), some (.inl q106.1)]) dX5_reachItem_22 (by decide) rfl ?_
    refine y_aload_n (i := 0) dX5_reachItem_24 rfl rfl ?_
    replace hf := bnd hf
    obtain ⟨r108, er108, hf⟩ := hf
    refine y_getR er108 fl5_31 dX5_reachItem_25 ?_
    refine y_iload_n (i := 3) dX5_reachItem_28 rfl rfl ?_
    refine y_iload (i := 4) dX5_reachItem_29 rfl ?_
    replace hf := bnd hf
    obtain ⟨a110, rfl, hf⟩ := hf
    replace hf := bnd hf
    obtain ⟨fs111, efs111, hf⟩ := hf
    replace hf := bnd hf
    obtain ⟨q109, eq109, hf⟩ := hf
    refine y_callV (mj := miX4_hasItem) (args := [.inl q104.1, .inl q106.1]) (st := []) dX5_reachItem_31 (gd_of 641 rfl rfl) (gd_of 450 rfl rfl) (gd_of 451 rfl rfl) okX4_hasItem (obO_spec efs111) rfl rfl (xX4_hasItem (by omega) eq109) (Nat.le_of_ble_eq_true rfl) rfl ?_
    show Y l g miX5_reachItem (d + 1) 34 [some (.inr (.inr (some a0))), some (.inr (.inr (some a102))), some (.inl x2), some (.inl q104.1), some (.inl q106.1)] [.inl q109.1] q109.2 _
    refine y_if_ne (tgt := 39) dX5_reachItem_34 (by decide) (fun hc => ?_) (fun hc => ?_)
    · rw [if_neg hc] at hf
      refine y_iload_n (i := 2) dX5_reachItem_39 rfl rfl ?_
      refine y_if_ne (tgt := 60) dX5_reachItem_40 (by decide) (fun hc => ?_) (fun hc => ?_)
      · rw [if_neg hc] at hf
        refine y_aload_n (i := 0) dX5_reachItem_60 rfl rfl ?_
        replace hf := bnd hf
        obtain ⟨r112, er112, hf⟩ := hf
        refine y_getR er112 fl5_31 dX5_reachItem_61 ?_
        refine y_iload_n (i := 3) dX5_reachItem_64 rfl rfl ?_
        refine y_iload (i := 4) dX5_reachItem_65 rfl ?_
        refine y_aload_n (i := 1) dX5_reachItem_67 rfl rfl ?_
        refine y_iconst (v := 2) dX5_reachItem_68 (by decide) ?_
        replace hf := bnd hf
        obtain ⟨fs114, efs114, hf⟩ := hf
        replace hf := bnd hf
        obtain ⟨q113, eq113, hf⟩ := hf
        refine y_callV (mj := miX9_intAt) (args := [.inl 2]) (st := [.inl q106.1, .inl q104.1, .inr (.inr r112)]) dX5_reachItem_69 (gd_of 602 rfl rfl) (gd_of 603 rfl rfl) (gd_of 604 rfl rfl) okX9_intAt (obO_spec efs114) rfl rfl (xX9_intAt (by omega) eq113) (Nat.le_of_ble_eq_true rfl) rfl ?_
        show Y l g miX5_reachItem (d + 1) 72 [some (.inr (.inr (some a0))), some (.inr (.inr (some a102))), some (.inl x2), some (.inl q104.1), some (.inl q106.1)] [.inl q113.1, .inl q106.1, .inl q104.1, .inr (.inr r112)] q113.2 _
        replace hf := bnd hf
        obtain ⟨a116, rfl, hf⟩ := hf
        replace hf := bnd hf
        obtain ⟨fs117, efs117, hf⟩ := hf
        replace hf := bnd hf
        obtain ⟨q115, eq115, hf⟩ := hf
        refine y_callV (mj := miX4_put) (args := [.inl q104.1, .inl q106.1, .inl q113.1]) (st := []) dX5_reachItem_72 (gd_of 616 rfl rfl) (gd_of 455 rfl rfl) (gd_of 456 rfl rfl) okX4_put (obO_spec efs117) rfl rfl (xX4_put (by omega) eq115) (Nat.le_of_ble_eq_true rfl) rfl ?_
        show Y l g miX5_reachItem (d + 1) 75 [some (.inr (.inr (some a0))), some (.inr (.inr (some a102))), some (.inl x2), some (.inl q104.1), some (.inl q106.1)] [] q115 _
        refine y_aload_n (i := 0) dX5_reachItem_75 rfl rfl ?_
        refine y_iconst (v := 3) dX5_reachItem_76 (by decide) ?_
        refine y_lconst (v := 0) dX5_reachItem_77 (by decide) ?_
        replace hf := bnd hf
        obtain ⟨fs119, efs119, hf⟩ := hf
        replace hf := bnd hf
        obtain ⟨q118, eq118, hf⟩ := hf
        refine y_callV (mj := miX5_give) (args := [.inl 3, .inr (.inl 0)]) (st := []) dX5_reachItem_78 (gd_of 587 rfl rfl) (gd_of 589 rfl rfl) (gd_of 20 rfl rfl) okX5_give (obO_spec efs119) rfl rfl (xX5_give (by omega) eq118) (Nat.le_of_ble_eq_true rfl) rfl ?_
        show Y l g miX5_reachItem (d + 1) 81 [some (.inr (.inr (some a0))), some (.inr (.inr (some a102))), some (.inl x2), some (.inl q104.1), some (.inl q106.1)] [.inl q118.1] q118.2 _
        obtain rfl := Option.some.inj hf
        exact y_ret (v := some (.inl q118.1)) dX5_reachItem_81 rfl
      · rw [if_pos hc] at hf
        refine y_aload_n (i := 0) dX5_reachItem_43 rfl rfl ?_
        refine y_iconst (v := 0) dX5_reachItem_44 (by decide) ?_
        refine y_aload_n (i := 0) dX5_reachItem_45 rfl rfl ?_
        replace hf := bnd hf
        obtain ⟨r120, er120, hf⟩ := hf
        refine y_getR er120 fl5_31 dX5_reachItem_46 ?_
        refine y_iload_n (i := 3) dX5_reachItem_49 rfl rfl ?_
        refine y_iload (i := 4) dX5_reachItem_50 rfl ?_
        replace hf := bnd hf
        obtain ⟨a122, rfl, hf⟩ := hf
        replace hf := bnd hf
        obtain ⟨fs123, efs123, hf⟩ := hf
        replace hf := bnd hf
        obtain ⟨q121, eq121, hf⟩ := hf
        refine y_callV (mj := miX4_itemAt) (args := [.inl q104.1, .inl q106.1]) (st := [.inl 0, .inr (.inr (some a0))]) dX5_reachItem_52 (gd_of 610 rfl rfl) (gd_of 464 rfl rfl) (gd_of 465 rfl rfl) okX4_itemAt (obO_spec efs123) rfl rfl (xX4_itemAt (by omega) eq121) (Nat.le_of_ble_eq_true rfl) rfl ?_
        show Y l g miX5_reachItem (d + 1) 55 [some (.inr (.inr (some a0))), some (.inr (.inr (some a102))), some (.inl x2), some (.inl q104.1), some (.inl q106.1)] [.inl q121.1, .inl 0, .inr (.inr (some a0))] q121.2 _
        refine y_i2l dX5_reachItem_55 ?_
        replace hf := bnd hf
        obtain ⟨fs125, efs125, hf⟩ := hf
        replace hf := bnd hf
        obtain ⟨q124, eq124, hf⟩ := hf
        refine y_callV (mj := miX5_give) (args := [.inl 0, .inr (.inl (Int32.toInt64 q121.1))]) (st := []) dX5_reachItem_56 (gd_of 587 rfl rfl) (gd_of 589 rfl rfl) (gd_of 20 rfl rfl) okX5_give (obO_spec efs125) rfl rfl (xX5_give (by omega) eq124) (Nat.le_of_ble_eq_true rfl) rfl ?_
        show Y l g miX5_reachItem (d + 1) 59 [some (.inr (.inr (some a0))), some (.inr (.inr (some a102))), some (.inl x2), some (.inl q104.1), some (.inl q106.1)] [.inl q124.1] q124.2 _
        obtain rfl := Option.some.inj hf
        exact y_ret (v := some (.inl q124.1)) dX5_reachItem_59 rfl
    · rw [if_pos hc] at hf
      refine y_iconst (v := 4) dX5_reachItem_37 (by decide) ?_
      obtain rfl := Option.some.inj hf
      exact y_ret (v := some (.inl 4)) dX5_reachItem_38 rfl
  · rw [if_pos hc] at hf
    refine y_iconst (v := 3) dX5_reachItem_9 (by decide) ?_
    obtain rfl := Option.some.inj hf
    exact y_ret (v := some (.inl 3)) dX5_reachItem_10 rfl
set_option maxRecDepth 100000 in
theorem dX5_performPlain_0 : decode prog_7_method_7_code 0 = .ok (.aload_n 1, 1) := by decide +kernel
set_option maxRecDepth 100000 in
theorem dX5_performPlain_1 : decode prog_7_method_7_code 1 = .ok (.getfield 112, 3) := by decide +kernel
set_option maxRecDepth 100000 in
theorem dX5_performPlain_4 : decode prog_7_method_7_code 4 = .ok (.tableswitch 279 0 12 #[68, 84, 99, 117, 135, 153, 168, 192, 209, 209, 229, 261, 271], 68) := by decide +kernel
set_option maxRecDepth 100000 in
theorem dX5_performPlain_72 : decode prog_7_method_7_code 72 = .ok (.aload_n 0, 1) := by decide +kernel
set_option maxRecDepth 100000 in
theorem dX5_performPlain_73 : decode prog_7_method_7_code 73 = .ok (.aload_n 1, 1) := by decide +kernel
set_option maxRecDepth 100000 in
theorem dX5_performPlain_74 : decode prog_7_method_7_code 74 = .ok (.getfield 117, 3) := by decide +kernel
set_option maxRecDepth 100000 in
theorem dX5_performPlain_77 : decode prog_7_method_7_code 77 = .ok (.getfield 121, 3) := by decide +kernel
set_option maxRecDepth 100000 in
theorem dX5_performPlain_80 : decode prog_7_method_7_code 80 = .ok (.aload_n 1, 1) := by decide +kernel
set_option maxRecDepth 100000 in
theorem dX5_performPlain_81 : decode prog_7_method_7_code 81 = .ok (.getfield 124, 3) := by decide +kernel
set_option maxRecDepth 100000 in
theorem dX5_performPlain_84 : decode prog_7_method_7_code 84 = .ok (.invokevirtual 127, 3) := by decide +kernel
set_option maxRecDepth 100000 in
theorem dX5_performPlain_87 : decode prog_7_method_7_code 87 = .ok (.ireturn, 1) := by decide +kernel
set_option maxRecDepth 100000 in
theorem dX5_performPlain_88 : decode prog_7_method_7_code 88 = .ok (.aload_n 0, 1) := by decide +kernel
set_option maxRecDepth 100000 in
theorem dX5_performPlain_89 : decode prog_7_method_7_code 89 = .ok (.aload_n 2, 1) := by decide +kernel
set_option maxRecDepth 100000 in
theorem dX5_performPlain_90 : decode prog_7_method_7_code 90 = .ok (.iconst 0, 1) := by decide +kernel
set_option maxRecDepth 100000 in
theorem dX5_performPlain_91 : decode prog_7_method_7_code 91 = .ok (.invokevirtual 54, 3) := by decide +kernel
set_option maxRecDepth 100000 in
theorem dX5_performPlain_94 : decode prog_7_method_7_code 94 = .ok (.aload_n 2, 1) := by decide +kernel
set_option maxRecDepth 100000 in
theorem dX5_performPlain_95 : decode prog_7_method_7_code 95 = .ok (.iconst 0, 1) := by decide +kernel
set_option maxRecDepth 100000 in
theorem dX5_performPlain_96 : decode prog_7_method_7_code 96 = .ok (.invokevirtual 82, 3) := by decide +kernel
set_option maxRecDepth 100000 in
theorem dX5_performPlain_99 : decode prog_7_method_7_code 99 = .ok (.invokevirtual 130, 3) := by decide +kernel
set_option maxRecDepth 100000 in
theorem dX5_performPlain_102 : decode prog_7_method_7_code 102 = .ok (.ireturn, 1) := by decide +kernel
set_option maxRecDepth 100000 in
theorem dX5_performPlain_103 : decode prog_7_method_7_code 103 = .ok (.aload_n 0, 1) := by decide +kernel
set_option maxRecDepth 100000 in
theorem dX5_performPlain_104 : decode prog_7_method_7_code 104 = .ok (.iconst 0, 1) := by decide +kernel
set_option maxRecDepth 100000 in
theorem dX5_performPlain_105 : decode prog_7_method_7_code 105 = .ok (.aload_n 2, 1) := by decide +kernel
set_option maxRecDepth 100000 in
theorem dX5_performPlain_106 : decode prog_7_method_7_code 106 = .ok (.iconst 0, 1) := by decide +kernel
set_option maxRecDepth 100000 in
theorem dX5_performPlain_107 : decode prog_7_method_7_code 107 = .ok (.invokevirtual 134, 3) := by decide +kernel
set_option maxRecDepth 100000 in
theorem dX5_performPlain_110 : decode prog_7_method_7_code 110 = .ok (.aload_n 2, 1) := by decide +kernel
set_option maxRecDepth 100000 in
theorem dX5_performPlain_111 : decode prog_7_method_7_code 111 = .ok (.iconst 1, 1) := by decide +kernel
set_option maxRecDepth 100000 in
theorem dX5_performPlain_112 : decode prog_7_method_7_code 112 = .ok (.invokevirtual 134, 3) := by decide +kernel
set_option maxRecDepth 100000 in
theorem dX5_performPlain_115 : decode prog_7_method_7_code 115 = .ok (.iadd, 1) := by decide +kernel
set_option maxRecDepth 100000 in
theorem dX5_performPlain_116 : decode prog_7_method_7_code 116 = .ok (.i2l, 1) := by decide +kernel
set_option maxRecDepth 100000 in
theorem dX5_performPlain_117 : decode prog_7_method_7_code 117 = .ok (.invokevirtual 130, 3) := by decide +kernel
set_option maxRecDepth 100000 in
theorem dX5_performPlain_120 : decode prog_7_method_7_code 120 = .ok (.ireturn, 1) := by decide +kernel
set_option maxRecDepth 100000 in
theorem dX5_performPlain_121 : decode prog_7_method_7_code 121 = .ok (.aload_n 0, 1) := by decide +kernel
set_option maxRecDepth 100000 in
theorem dX5_performPlain_122 : decode prog_7_method_7_code 122 = .ok (.iconst 0, 1) := by decide +kernel
set_option maxRecDepth 100000 in
theorem dX5_performPlain_123 : decode prog_7_method_7_code 123 = .ok (.aload_n 2, 1) := by decide +kernel
set_option maxRecDepth 100000 in
theorem dX5_performPlain_124 : decode prog_7_method_7_code 124 = .ok (.iconst 0, 1) := by decide +kernel
set_option maxRecDepth 100000 in
theorem dX5_performPlain_125 : decode prog_7_method_7_code 125 = .ok (.invokevirtual 134, 3) := by decide +kernel
set_option maxRecDepth 100000 in
theorem dX5_performPlain_128 : decode prog_7_method_7_code 128 = .ok (.aload_n 2, 1) := by decide +kernel
set_option maxRecDepth 100000 in
theorem dX5_performPlain_129 : decode prog_7_method_7_code 129 = .ok (.iconst 1, 1) := by decide +kernel
set_option maxRecDepth 100000 in
theorem dX5_performPlain_130 : decode prog_7_method_7_code 130 = .ok (.invokevirtual 134, 3) := by decide +kernel
set_option maxRecDepth 100000 in
theorem dX5_performPlain_133 : decode prog_7_method_7_code 133 = .ok (.isub, 1) := by decide +kernel
set_option maxRecDepth 100000 in
theorem dX5_performPlain_134 : decode prog_7_method_7_code 134 = .ok (.i2l, 1) := by decide +kernel
set_option maxRecDepth 100000 in
theorem dX5_performPlain_135 : decode prog_7_method_7_code 135 = .ok (.invokevirtual 130, 3) := by decide +kernel
set_option maxRecDepth 100000 in
theorem dX5_performPlain_138 : decode prog_7_method_7_code 138 = .ok (.ireturn, 1) := by decide +kernel
set_option maxRecDepth 100000 in
theorem dX5_performPlain_139 : decode prog_7_method_7_code 139 = .ok (.aload_n 0, 1) := by decide +kernel
set_option maxRecDepth 100000 in
theorem dX5_performPlain_140 : decode prog_7_method_7_code 140 = .ok (.iconst 0, 1) := by decide +kernel
set_option maxRecDepth 100000 in
theorem dX5_performPlain_141 : decode prog_7_method_7_code 141 = .ok (.aload_n 2, 1) := by decide +kernel
set_option maxRecDepth 100000 in
theorem dX5_performPlain_142 : decode prog_7_method_7_code 142 = .ok (.iconst 0, 1) := by decide +kernel
set_option maxRecDepth 100000 in
theorem dX5_performPlain_143 : decode prog_7_method_7_code 143 = .ok (.invokevirtual 134, 3) := by decide +kernel
set_option maxRecDepth 100000 in
theorem dX5_performPlain_146 : decode prog_7_method_7_code 146 = .ok (.aload_n 2, 1) := by decide +kernel
set_option maxRecDepth 100000 in
theorem dX5_performPlain_147 : decode prog_7_method_7_code 147 = .ok (.iconst 1, 1) := by decide +kernel
set_option maxRecDepth 100000 in
theorem dX5_performPlain_148 : decode prog_7_method_7_code 148 = .ok (.invokevirtual 134, 3) := by decide +kernel
set_option maxRecDepth 100000 in
theorem dX5_performPlain_151 : decode prog_7_method_7_code 151 = .ok (.imul, 1) := by decide +kernel
set_option maxRecDepth 100000 in
theorem dX5_performPlain_152 : decode prog_7_method_7_code 152 = .ok (.i2l, 1) := by decide +kernel
set_option maxRecDepth 100000 in
theorem dX5_performPlain_153 : decode prog_7_method_7_code 153 = .ok (.invokevirtual 130, 3) := by decide +kernel
set_option maxRecDepth 100000 in
theorem dX5_performPlain_156 : decode prog_7_method_7_code 156 = .ok (.ireturn, 1) := by decide +kernel
set_option maxRecDepth 100000 in
theorem dX5_performPlain_157 : decode prog_7_method_7_code 157 = .ok (.aload_n 0, 1) := by decide +kernel
set_option maxRecDepth 100000 in
theorem dX5_performPlain_158 : decode prog_7_method_7_code 158 = .ok (.aload_n 2, 1) := by decide +kernel
set_option maxRecDepth 100000 in
theorem dX5_performPlain_159 : decode prog_7_method_7_code 159 = .ok (.iconst 0, 1) := by decide +kernel
set_option maxRecDepth 100000 in
theorem dX5_performPlain_160 : decode prog_7_method_7_code 160 = .ok (.invokevirtual 134, 3) := by decide +kernel
set_option maxRecDepth 100000 in
theorem dX5_performPlain_163 : decode prog_7_method_7_code 163 = .ok (.aload_n 2, 1) := by decide +kernel
set_option maxRecDepth 100000 in
theorem dX5_performPlain_164 : decode prog_7_method_7_code 164 = .ok (.iconst 1, 1) := by decide +kernel
set_option maxRecDepth 100000 in
theorem dX5_performPlain_165 : decode prog_7_method_7_code 165 = .ok (.invokevirtual 134, 3) := by decide +kernel
set_option maxRecDepth 100000 in
theorem dX5_performPlain_168 : decode prog_7_method_7_code 168 = .ok (.invokevirtual 137, 3) := by decide +kernel
set_option maxRecDepth 100000 in
theorem dX5_performPlain_171 : decode prog_7_method_7_code 171 = .ok (.ireturn, 1) := by decide +kernel
set_option maxRecDepth 100000 in
theorem dX5_performPlain_172 : decode prog_7_method_7_code 172 = .ok (.aload_n 0, 1) := by decide +kernel
set_option maxRecDepth 100000 in
theorem dX5_performPlain_173 : decode prog_7_method_7_code 173 = .ok (.iconst 0, 1) := by decide +kernel
set_option maxRecDepth 100000 in
theorem dX5_performPlain_174 : decode prog_7_method_7_code 174 = .ok (.aload_n 2, 1) := by decide +kernel
set_option maxRecDepth 100000 in
theorem dX5_performPlain_175 : decode prog_7_method_7_code 175 = .ok (.iconst 0, 1) := by decide +kernel
set_option maxRecDepth 100000 in
theorem dX5_performPlain_176 : decode prog_7_method_7_code 176 = .ok (.invokevirtual 134, 3) := by decide +kernel
set_option maxRecDepth 100000 in
theorem dX5_performPlain_179 : decode prog_7_method_7_code 179 = .ok (.aload_n 2, 1) := by decide +kernel
set_option maxRecDepth 100000 in
theorem dX5_performPlain_180 : decode prog_7_method_7_code 180 = .ok (.iconst 1, 1) := by decide +kernel
set_option maxRecDepth 100000 in
theorem dX5_performPlain_181 : decode prog_7_method_7_code 181 = .ok (.invokevirtual 134, 3) := by decide +kernel
set_option maxRecDepth 100000 in
theorem dX5_performPlain_184 : decode prog_7_method_7_code 184 = .ok (.if_icmp .ge 7, 3) := by decide +kernel
set_option maxRecDepth 100000 in
theorem dX5_performPlain_187 : decode prog_7_method_7_code 187 = .ok (.lconst 1, 1) := by decide +kernel
set_option maxRecDepth 100000 in
theorem dX5_performPlain_188 : decode prog_7_method_7_code 188 = .ok (.goto 4, 3) := by decide +kernel
set_option maxRecDepth 100000 in
theorem dX5_performPlain_191 : decode prog_7_method_7_code 191 = .ok (.lconst 0, 1) := by decide +kernel
set_option maxRecDepth 100000 in
theorem dX5_performPlain_192 : decode prog_7_method_7_code 192 = .ok (.invokevirtual 130, 3) := by decide +kernel
set_option maxRecDepth 100000 in
theorem dX5_performPlain_195 : decode prog_7_method_7_code 195 = .ok (.ireturn, 1) := by decide +kernel
set_option maxRecDepth 100000 in
theorem dX5_performPlain_196 : decode prog_7_method_7_code 196 = .ok (.aload_n 0, 1) := by decide +kernel
set_option maxRecDepth 100000 in
theorem dX5_performPlain_197 : decode prog_7_method_7_code 197 = .ok (.iconst 1, 1) := by decide +kernel
set_option maxRecDepth 100000 in
theorem dX5_performPlain_198 : decode prog_7_method_7_code 198 = .ok (.aload_n 2, 1) := by decide +kernel
set_option maxRecDepth 100000 in
theorem dX5_performPlain_199 : decode prog_7_method_7_code 199 = .ok (.iconst 0, 1) := by decide +kernel
set_option maxRecDepth 100000 in
theorem dX5_performPlain_200 : decode prog_7_method_7_code 200 = .ok (.invokevirtual 82, 3) := by decide +kernel
set_option maxRecDepth 100000 in
theorem dX5_performPlain_203 : decode prog_7_method_7_code 203 = .ok (.aload_n 2, 1) := by decide +kernel
set_option maxRecDepth 100000 in
theorem dX5_performPlain_204 : decode prog_7_method_7_code 204 = .ok (.iconst 1, 1) := by decide +kernel
set_option maxRecDepth 100000 in
theorem dX5_performPlain_205 : decode prog_7_method_7_code 205 = .ok (.invokevirtual 82, 3) := by decide +kernel
set_option maxRecDepth 100000 in
theorem dX5_performPlain_208 : decode prog_7_method_7_code 208 = .ok (.ladd, 1) := by decide +kernel
set_option maxRecDepth 100000 in
theorem dX5_performPlain_209 : decode prog_7_method_7_code 209 = .ok (.invokevirtual 130, 3) := by decide +kernel
set_option maxRecDepth 100000 in
theorem dX5_performPlain_212 : decode prog_7_method_7_code 212 = .ok (.ireturn, 1) := by decide +kernel
set_option maxRecDepth 100000 in
theorem dX5_performPlain_213 : decode prog_7_method_7_code 213 = .ok (.aload_n 0, 1) := by decide +kernel
set_option maxRecDepth 100000 in
theorem dX5_performPlain_214 : decode prog_7_method_7_code 214 = .ok (.aload_n 2, 1) := by decide +kernel
set_option maxRecDepth 100000 in
theorem dX5_performPlain_215 : decode prog_7_method_7_code 215 = .ok (.aload_n 1, 1) := by decide +kernel
set_option maxRecDepth 100000 in
theorem dX5_performPlain_216 : decode prog_7_method_7_code 216 = .ok (.getfield 112, 3) := by decide +kernel
set_option maxRecDepth 100000 in
theorem dX5_performPlain_219 : decode prog_7_method_7_code 219 = .ok (.bipush 9, 2) := by decide +kernel
set_option maxRecDepth 100000 in
theorem dX5_performPlain_221 : decode prog_7_method_7_code 221 = .ok (.if_icmp .ne 7, 3) := by decide +kernel
set_option maxRecDepth 100000 in
theorem dX5_performPlain_224 : decode prog_7_method_7_code 224 = .ok (.iconst 1, 1) := by decide +kernel
set_option maxRecDepth 100000 in
theorem dX5_performPlain_225 : decode prog_7_method_7_code 225 = .ok (.goto 4, 3) := by decide +kernel
set_option maxRecDepth 100000 in
theorem dX5_performPlain_228 : decode prog_7_method_7_code 228 = .ok (.iconst 0, 1) := by decide +kernel
set_option maxRecDepth 100000 in
theorem dX5_performPlain_229 : decode prog_7_method_7_code 229 = .ok (.invokevirtual 140, 3) := by decide +kernel
set_option maxRecDepth 100000 in
theorem dX5_performPlain_232 : decode prog_7_method_7_code 232 = .ok (.ireturn, 1) := by decide +kernel
set_option maxRecDepth 100000 in
theorem dX5_performPlain_233 : decode prog_7_method_7_code 233 = .ok (.aload_n 2, 1) := by decide +kernel
set_option maxRecDepth 100000 in
theorem dX5_performPlain_234 : decode prog_7_method_7_code 234 = .ok (.iconst 0, 1) := by decide +kernel
set_option maxRecDepth 100000 in
theorem dX5_performPlain_235 : decode prog_7_method_7_code 235 = .ok (.invokevirtual 54, 3) := by decide +kernel
set_option maxRecDepth 100000 in
theorem dX5_performPlain_238 : decode prog_7_method_7_code 238 = .ok (.iconst 3, 1) := by decide +kernel
set_option maxRecDepth 100000 in
theorem dX5_performPlain_239 : decode prog_7_method_7_code 239 = .ok (.if_icmp .ne 7, 3) := by decide +kernel
set_option maxRecDepth 100000 in
theorem dX5_performPlain_242 : decode prog_7_method_7_code 242 = .ok (.iconst 3, 1) := by decide +kernel
set_option maxRecDepth 100000 in
theorem dX5_performPlain_243 : decode prog_7_method_7_code 243 = .ok (.goto 21, 3) := by decide +kernel
set_option maxRecDepth 100000 in
theorem dX5_performPlain_246 : decode prog_7_method_7_code 246 = .ok (.aload_n 0, 1) := by decide +kernel
set_option maxRecDepth 100000 in
theorem dX5_performPlain_247 : decode prog_7_method_7_code 247 = .ok (.iconst 0, 1) := by decide +kernel
set_option maxRecDepth 100000 in
theorem dX5_performPlain_248 : decode prog_7_method_7_code 248 = .ok (.aload_n 0, 1) := by decide +kernel
set_option maxRecDepth 100000 in
theorem dX5_performPlain_249 : decode prog_7_method_7_code 249 = .ok (.getfield 31, 3) := by decide +kernel
set_option maxRecDepth 100000 in
theorem dX5_performPlain_252 : decode prog_7_method_7_code 252 = .ok (.aload_n 2, 1) := by decide +kernel
set_option maxRecDepth 100000 in
theorem dX5_performPlain_253 : decode prog_7_method_7_code 253 = .ok (.iconst 0, 1) := by decide +kernel
set_option maxRecDepth 100000 in
theorem dX5_performPlain_254 : decode prog_7_method_7_code 254 = .ok (.invokevirtual 134, 3) := by decide +kernel
set_option maxRecDepth 100000 in
theorem dX5_performPlain_257 : decode prog_7_method_7_code 257 = .ok (.invokevirtual 144, 3) := by decide +kernel
set_option maxRecDepth 100000 in
theorem dX5_performPlain_260 : decode prog_7_method_7_code 260 = .ok (.i2l, 1) := by decide +kernel
set_option maxRecDepth 100000 in
theorem dX5_performPlain_261 : decode prog_7_method_7_code 261 = .ok (.invokevirtual 130, 3) := by decide +kernel
set_option maxRecDepth 100000 in
theorem dX5_performPlain_264 : decode prog_7_method_7_code 264 = .ok (.ireturn, 1) := by decide +kernel
set_option maxRecDepth 100000 in
theorem dX5_performPlain_265 : decode prog_7_method_7_code 265 = .ok (.aload_n 0, 1) := by decide +kernel
set_option maxRecDepth 100000 in
theorem dX5_performPlain_266 : decode prog_7_method_7_code 266 = .ok (.aload_n 2, 1) := by decide +kernel
set_option maxRecDepth 100000 in
theorem dX5_performPlain_267 : decode prog_7_method_7_code 267 = .ok (.iconst 0, 1) := by decide +kernel
set_option maxRecDepth 100000 in
theorem dX5_performPlain_268 : decode prog_7_method_7_code 268 = .ok (.invokevirtual 134, 3) := by decide +kernel
set_option maxRecDepth 100000 in
theorem dX5_performPlain_271 : decode prog_7_method_7_code 271 = .ok (.invokevirtual 149, 3) := by decide +kernel
set_option maxRecDepth 100000 in
theorem dX5_performPlain_274 : decode prog_7_method_7_code 274 = .ok (.ireturn, 1) := by decide +kernel
set_option maxRecDepth 100000 in
theorem dX5_performPlain_275 : decode prog_7_method_7_code 275 = .ok (.bipush 100, 2) := by decide +kernel
set_option maxRecDepth 100000 in
theorem dX5_performPlain_277 : decode prog_7_method_7_code 277 = .ok (.aload_n 1, 1) := by decide +kernel
set_option maxRecDepth 100000 in
theorem dX5_performPlain_278 : decode prog_7_method_7_code 278 = .ok (.getfield 124, 3) := by decide +kernel
set_option maxRecDepth 100000 in
theorem dX5_performPlain_281 : decode prog_7_method_7_code 281 = .ok (.iadd, 1) := by decide +kernel
set_option maxRecDepth 100000 in
theorem dX5_performPlain_282 : decode prog_7_method_7_code 282 = .ok (.ireturn, 1) := by decide +kernel
set_option maxRecDepth 100000 in
theorem dX5_performPlain_283 : decode prog_7_method_7_code 283 = .ok (.aload_n 0, 1) := by decide +kernel
set_option maxRecDepth 100000 in
theorem dX5_performPlain_284 : decode prog_7_method_7_code 284 = .ok (.invokevirtual 152, 3) := by decide +kernel
set_option maxRecDepth 100000 in
theorem dX5_performPlain_287 : decode prog_7_method_7_code 287 = .ok (.ireturn, 1) := by decide +kernel
set_option maxRecDepth 100000 in
theorem fl5_112 : ∀ c ∈ ([0, 1] : List Nat), FL "HandleModels$Runner" 112 c 0 := fun c hc => by
  simp only [List.mem_cons, List.not_mem_nil, or_false] at hc
  rcases hc with rfl | rfl
  · exact ⟨_, "HandleModels$Handle", rfl, by decide, (gd_of 237 rfl rfl), Or.inl rfl⟩
  · exact ⟨_, "HandleModels$Handle", rfl, by decide, (gd_of 237 rfl rfl), Or.inl rfl⟩
set_option maxRecDepth 100000 in
theorem okX5_reachItem : mOk miX5_reachItem 2 := ⟨(gd_of 640 rfl rfl), (gd_of 75 rfl rfl), by decide +kernel, ⟨by decide +kernel, by decide +kernel, by decide +kernel⟩, by decide⟩
set_option maxRecDepth 100000 in
theorem fl5_117 : ∀ c ∈ ([0, 1] : List Nat), FL "HandleModels$Runner" 117 c 1 := fun c hc => by
  simp only [List.mem_cons, List.not_mem_nil, or_false] at hc
  rcases hc with rfl | rfl
  · exact ⟨_, "HandleModels$Handle", rfl, by decide, (gd_of 243 rfl rfl), Or.inl rfl⟩
  · exact ⟨_, "HandleModels$Handle", rfl, by decide, (gd_of 243 rfl rfl), Or.inl rfl⟩
set_option maxRecDepth 100000 in
theorem fl5_121 : ∀ c ∈ ([6] : List Nat), FL "HandleModels$Runner" 121 c 1 := fun c hc => by
  cases List.mem_singleton.mp hc
  exact ⟨_, "HandleModels$Types", rfl, by decide, (gd_of 224 rfl rfl), Or.inl rfl⟩
set_option maxRecDepth 100000 in
theorem fl5_124 : ∀ c ∈ ([0, 1] : List Nat), FL "HandleModels$Runner" 124 c 2 := fun c hc => by
  simp only [List.mem_cons, List.not_mem_nil, or_false] at hc
  rcases hc with rfl | rfl
  · exact ⟨_, "HandleModels$Handle", rfl, by decide, (gd_of 247 rfl rfl), Or.inl rfl⟩
  · exact ⟨_, "HandleModels$Handle", rfl, by decide, (gd_of 247 rfl rfl), Or.inl rfl⟩
set_option maxRecDepth 100000 in
theorem okX5_giveFixed : mOk miX5_giveFixed 2 := ⟨(gd_of 632 rfl rfl), (gd_of 75 rfl rfl), by decide +kernel, ⟨by decide +kernel, by decide +kernel, by decide +kernel⟩, by decide⟩
set_option maxRecDepth 100000 in
theorem okX5_divide : mOk miX5_divide 2 := ⟨(gd_of 636 rfl rfl), (gd_of 75 rfl rfl), by decide +kernel, ⟨by decide +kernel, by decide +kernel, by decide +kernel⟩, by decide⟩
set_option maxRecDepth 100000 in
theorem okX4_lengthOf : mOk miX4_lengthOf 1 := ⟨(gd_of 609 rfl rfl), (gd_of 73 rfl rfl), by decide +kernel, ⟨by decide +kernel, by decide +kernel, by decide +kernel⟩, by decide⟩
set_option maxRecDepth 100000 in
theorem okX5_makeRow : mOk miX5_makeRow 1 := ⟨(gd_of 645 rfl rfl), (gd_of 75 rfl rfl), by decide +kernel, ⟨by decide +kernel, by decide +kernel, by decide +kernel⟩, by decide⟩
set_option maxRecDepth 100000 in
theorem okX5_countOnce : mOk miX5_countOnce 0 := ⟨(gd_of 649 rfl rfl), (gd_of 75 rfl rfl), by decide +kernel, ⟨by decide +kernel, by decide +kernel, by decide +kernel⟩, by decide⟩
def fX5_performPlain_213 (z : Nat → Nat) (a0 : Nat) (r1 : Option Nat) (r2 : Option Nat) (h : aH) : Option (Int32 × aH) :=
  (r1).bind fun a101 =>
  (rdI h a101 [0, 1] 0).bind fun x102 =>
  (if x102 = 9 then
  (obO h a0 4).bind fun fs106 =>
  (fX5_reachItem z a0 r2 1 h).bind fun q105 =>
  some (q105.1, q105.2)
  else
  (obO h a0 4).bind fun fs104 =>
  (fX5_reachItem z a0 r2 0 h).bind fun q103 =>
  some (q103.1, q103.2))
set_option maxHeartbeats 4000000 in
set_option maxRecDepth 100000 in
theorem xX5_performPlain_213 {l : Launch} {g : aG} {d : Nat} (hK : 4 ≤ d + 1) {a0 : Nat} {r1 : Option Nat} {r2 : Option Nat} {h : aH} {q : Int32 × aH} (hf : fX5_performPlain_213 g.2.2 a0 r1 r2 h = some q) : Y l g miX5_performPlain (d + 1) 213 [some (.inr (.inr (some a0))), some (.inr (.inr r1)), some (.inr (.inr r2))] [] h (some (.inl q.1), q.2) := by
  unfold fX5_performPlain_213 at hf
  refine y_aload_n (i := 0) dX5_performPlain_213 rfl rfl ?_
  refine y_aload_n (i := 2) dX5_performPlain_214 rfl rfl ?_
  refine y_aload_n (i := 1) dX5_performPlain_215 rfl rfl ?_
  replace hf := bnd hf
  obtain ⟨a101, rfl, hf⟩ := hf
  replace hf := bnd hf
  obtain ⟨x102, ex102, hf⟩ := hf
  refine y_getI ex102 fl5_112 dX5_performPlain_216 ?_
  refine y_bipush (v := 9) dX5_performPlain_219 (by decide) ?_
  refine y_icmp_ne (tgt := 228) dX5_performPlain_221 (by decide) (fun hc => ?_) (fun hc => ?_)
  · rw [if_neg hc] at hf
    refine y_iconst (v := 0) dX5_performPlain_228 (by decide) ?_
    replace hf := bnd hf
    obtain ⟨fs104, efs104, hf⟩ := hf
    replace hf := bnd hf
    obtain ⟨q103, eq103, hf⟩ := hf
    refine y_callV (mj := miX5_reachItem) (args := [.inr (.inr r2), .inl 0]) (st := []) dX5_performPlain_229 (gd_of 637 rfl rfl) (gd_of 639 rfl rfl) (gd_of 29 rfl rfl) okX5_reachItem (obO_spec efs104) rfl rfl (xX5_reachItem (by omega) eq103) (Nat.le_of_ble_eq_true rfl) rfl ?_
    show Y l g miX5_performPlain (d + 1) 232 [some (.inr (.inr (some a0))), some (.inr (.inr (some a101))), some (.inr (.inr r2))] [.inl q103.1] q103.2 _
    obtain rfl := Option.some.inj hf
    exact y_ret (v := some (.inl q103.1)) dX5_performPlain_232 rfl
  · rw [if_pos hc] at hf
    refine y_iconst (v := 1) dX5_performPlain_224 (by decide) ?_
    refine y_goto (tgt := 229) dX5_performPlain_225 (by decide) ?_
    replace hf := bnd hf
    obtain ⟨fs106, efs106, hf⟩ := hf
    replace hf := bnd hf
    obtain ⟨q105, eq105, hf⟩ := hf
    refine y_callV (mj := miX5_reachItem) (args := [.inr (.inr r2), .inl 1]) (st := []) dX5_performPlain_229 (gd_of 637 rfl rfl) (gd_of 639 rfl rfl) (gd_of 29 rfl rfl) okX5_reachItem (obO_spec efs106) rfl rfl (xX5_reachItem (by omega) eq105) (Nat.le_of_ble_eq_true rfl) rfl ?_
    show Y l g miX5_performPlain (d + 1) 232 [some (.inr (.inr (some a0))), some (.inr (.inr (some a101))), some (.inr (.inr r2))] [.inl q105.1] q105.2 _
    obtain rfl := Option.some.inj hf
    exact y_ret (v := some (.inl q105.1)) dX5_performPlain_232 rfl
def fX5_performPlain (z : Nat → Nat) (a0 : Nat) (r1 : Option Nat) (r2 : Option Nat) (h : aH) : Option (Int32 × aH) :=
  (r1).bind fun a101 =>
  (rdI h a101 [0, 1] 0).bind fun x102 =>
  (if x102 = 0 then
  (rdR h a101 [0, 1] 1).bind fun r103 =>
  (r103).bind fun a104 =>
  (rdI h a104 [6] 1).bind fun x105 =>
  (rdI h a101 [0, 1] 2).bind fun x106 =>
  (obO h a0 4).bind fun fs108 =>
  (fX5_giveFixed z a0 x105 x106 h).bind fun q107 =>
  some (q107.1, q107.2)
  else
  (if x102 = 1 then
  (r2).bind fun a110 =>
  (obO h a110 7).bind fun fs111 =>
  (fX9_kindAt z a110 0 h).bind fun q109 =>
  (obO q109.2 a110 7).bind fun fs113 =>
  (fX9_numberAt z a110 0 q109.2).bind fun q112 =>
  (obO q112.2 a0 4).bind fun fs115 =>
  (fX5_give z a0 q109.1 q112.1 q112.2).bind fun q114 =>
  some (q114.1, q114.2)
  else
  (if x102 = 2 then
  (r2).bind fun a117 =>
  (obO h a117 7).bind fun fs118 =>
  (fX9_intAt z a117 0 h).bind fun q116 =>
  (obO q116.2 a117 7).bind fun fs120 =>
  (fX9_intAt z a117 1 q116.2).bind fun q119 =>
  (obO q119.2 a0 4).bind fun fs122 =>
  (fX5_give z a0 0 (Int32.toInt64 (q116.1 + q119.1)) q119.2).bind fun q121 =>
  some (q121.1, q121.2)
  else
  (if x102 = 3 then
  (r2).bind fun a124 =>
  (obO h a124 7).bind fun fs125 =>
  (fX9_intAt z a124 0 h).bind fun q123 =>
  (obO q123.2 a124 7).bind fun fs127 =>
  (fX9_intAt z a124 1 q123.2).bind fun q126 =>
  (obO q126.2 a0 4).bind fun fs129 =>
  (fX5_give z a0 0 (Int32.toInt64 (q123.1 - q126.1)) q126.2).bind fun q128 =>
  some (q128.1, q128.2)
  else
  (if x102 = 4 then
  (r2).bind fun a131 =>
  (obO h a131 7).bind fun fs132 =>
  (fX9_intAt z a131 0 h).bind fun q130 =>
  (obO q130.2 a131 7).bind fun fs134 =>
  (fX9_intAt z a131 1 q130.2).bind fun q133 =>
  (obO q133.2 a0 4).bind fun fs136 =>
  (fX5_give z a0 0 (Int32.toInt64 (q130.1 * q133.1)) q133.2).bind fun q135 =>
  some (q135.1, q135.2)
  else
  (if x102 = 5 then
  (r2).bind fun a138 =>
  (obO h a138 7).bind fun fs139 =>
  (fX9_intAt z a138 0 h).bind fun q137 =>
  (obO q137.2 a138 7).bind fun fs141 =>
  (fX9_intAt z a138 1 q137.2).bind fun q140 =>
  (obO q140.2 a0 4).bind fun fs143 =>
  (fX5_divide z a0 q137.1 q140.1 q140.2).bind fun q142 =>
  some (q142.1, q142.2)
  else
  (if x102 = 6 then
  (r2).bind fun a145 =>
  (obO h a145 7).bind fun fs146 =>
  (fX9_intAt z a145 0 h).bind fun q144 =>
  (obO q144.2 a145 7).bind fun fs148 =>
  (fX9_intAt z a145 1 q144.2).bind fun q147 =>
  (if q147.1 ≤ q144.1 then
  (obO q147.2 a0 4).bind fun fs150 =>
  (fX5_give z a0 0 0 q147.2).bind fun q149 =>
  some (q149.1, q149.2)
  else
  (obO q147.2 a0 4).bind fun fs152 =>
  (fX5_give z a0 0 1 q147.2).bind fun q151 =>
  some (q151.1, q151.2))
  else
  (if x102 = 7 then
  (r2).bind fun a154 =>
  (obO h a154 7).bind fun fs155 =>
  (fX9_numberAt z a154 0 h).bind fun q153 =>
  (obO q153.2 a154 7).bind fun fs157 =>
  (fX9_numberAt z a154 1 q153.2).bind fun q156 =>
  (obO q156.2 a0 4).bind fun fs159 =>
  (fX5_give z a0 1 (q153.1 + q156.1) q156.2).bind fun q158 =>
  some (q158.1, q158.2)
  else
  (if x102 = 8 then
  fX5_performPlain_213 z a0 (some a101) r2 h
  else
  (if x102 = 9 then
  fX5_performPlain_213 z a0 (some a101) r2 h
  else
  (if x102 = 10 then
  (r2).bind fun a161 =>
  (obO h a161 7).bind fun fs162 =>
  (fX9_kindAt z a161 0 h).bind fun q160 =>
  (if q160.1 = 3 then
  some (3, q160.2)
  else
  (rdR q160.2 a0 [4] 0).bind fun r163 =>
  (obO q160.2 a161 7).bind fun fs165 =>
  (fX9_intAt z a161 0 q160.2).bind fun q164 =>
  (r163).bind fun a167 =>
  (obO q164.2 a167 3).bind fun fs168 =>
  (fX4_lengthOf z a167 q164.1 q164.2).bind fun q166 =>
  (obO q166.2 a0 4).bind fun fs170 =>
  (fX5_give z a0 0 (Int32.toInt64 q166.1) q166.2).bind fun q169 =>
  some (q169.1, q169.2))
  else
  (if x102 = 11 then
  (r2).bind fun a172 =>
  (obO h a172 7).bind fun fs173 =>
  (fX9_intAt z a172 0 h).bind fun q171 =>
  (obO q171.2 a0 4).bind fun fs175 =>
  (fX5_makeRow z a0 q171.1 q171.2).bind fun q174 =>
  some (q174.1, q174.2)
  else
  (if x102 = 12 then
  (rdI h a101 [0, 1] 2).bind fun x176 =>
  some ((100 + x176), h)
  else
  (obO h a0 4).bind fun fs178 =>
  (fX5_countOnce z a0 h).bind fun q177 =>
  some (q177.1, q177.2))))))))))))))
set_option maxHeartbeats 4000000 in
set_option maxRecDepth 100000 in
theorem xX5_performPlain {l : Launch} {g : aG} {d : Nat} (hK : 4 ≤ d) {a0 : Nat} {r1 : Option Nat} {r2 : Option Nat} {h : aH} {q : Int32 × aH} (hf : fX5_performPlain g.2.2 a0 r1 r2 h = some q) : Ev l g miX5_performPlain d [.inr (.inr (some a0)), .inr (.inr r1), .inr (.inr r2)] h (some (.inl q.1), q.2) := by
  obtain ⟨d, rfl⟩ : ∃ e, d = e + 1 := ⟨d - 1, by omega⟩
  refine ⟨?_, Or.inl rfl, Nat.le_of_ble_eq_true rfl⟩
  unfold fX5_performPlain at hf
  show Y l g miX5_performPlain (d + 1) 0 [some (.inr (.inr (some a0))), some (.inr (.inr r1)), some (.inr (.inr r2))] [] h _
  refine y_aload_n (i := 1) dX5_performPlain_0 rfl rfl ?_
  replace hf := bnd hf
  obtain ⟨a101, rfl, hf⟩ := hf
  replace hf := bnd hf
  obtain ⟨x102, ex102, hf⟩ := hf
  refine y_getI ex102 fl5_112 dX5_performPlain_1 ?_
  refine y_table dX5_performPlain_4 [(0, 72), (1, 88), (2, 103), (3, 121), (4, 139), (5, 157), (6, 172), (7, 196), (8, 213), (9, 213), (10, 233), (11, 265), (12, 275)] 283 (by decide) (by decide) (by decide) (by decide) ?_
  refine y_swc (fun hc => ?_) (fun hc => ?_)
  · rw [if_pos hc] at hf
    refine y_aload_n (i := 0) dX5_performPlain_72 rfl rfl ?_
    refine y_aload_n (i := 1) dX5_performPlain_73 rfl rfl ?_
    replace hf := bnd hf
    obtain ⟨r103, er103, hf⟩ := hf
    refine y_getR er103 fl5_117 dX5_performPlain_74 ?_
    replace hf := bnd hf
    obtain ⟨a104, rfl, hf⟩ := hf
    replace hf := bnd hf
    obtain ⟨x105, ex105, hf⟩ := hf
    refine y_getI ex105 fl5_121 dX5_performPlain_77 ?_
    refine y_aload_n (i := 1) dX5_performPlain_80 rfl rfl ?_
    replace hf := bnd hf
    obtain ⟨x106, ex106, hf⟩ := hf
    refine y_getI ex106 fl5_124 dX5_performPlain_81 ?_
    replace hf := bnd hf
    obtain ⟨fs108, efs108, hf⟩ := hf
    replace hf := bnd hf
    obtain ⟨q107, eq107, hf⟩ := hf
    refine y_callV (mj := miX5_giveFixed) (args := [.inl x105, .inl x106]) (st := []) dX5_performPlain_84 (gd_of 629 rfl rfl) (gd_of 631 rfl rfl) (gd_of 27 rfl rfl) okX5_giveFixed (obO_spec efs108) rfl rfl (xX5_giveFixed (by omega) eq107) (Nat.le_of_ble_eq_true rfl) rfl ?_
    show Y l g miX5_performPlain (d + 1) 87 [some (.inr (.inr (some a0))), some (.inr (.inr (some a101))), some (.inr (.inr r2))] [.inl q107.1] q107.2 _
    obtain rfl := Option.some.inj hf
    exact y_ret (v := some (.inl q107.1)) dX5_performPlain_87 rfl
  rw [if_neg hc] at hf
  refine y_swc (fun hc => ?_) (fun hc => ?_)
  · rw [if_pos hc] at hf
    refine y_aload_n (i := 0) dX5_performPlain_88 rfl rfl ?_
    refine y_aload_n (i := 2) dX5_performPlain_89 rfl rfl ?_
    refine y_iconst (v := 0) dX5_performPlain_90 (by decide) ?_
    replace hf := bnd hf
    obtain ⟨a110, rfl, hf⟩ := hf
    replace hf := bnd hf
    obtain ⟨fs111, efs111, hf⟩ := hf
    replace hf := bnd hf
    obtain ⟨q109, eq109, hf⟩ := hf
    refine y_callV (mj := miX9_kindAt) (args := [.inl 0]) (st := [.inr (.inr (some a0))]) dX5_performPlain_91 (gd_of 501 rfl rfl) (gd_of 387 rfl rfl) (gd_of 388 rfl rfl) okX9_kindAt (obO_spec efs111) rfl rfl (xX9_kindAt (by omega) eq109) (Nat.le_of_ble_eq_true rfl) rfl ?_
    show Y l g miX5_performPlain (d + 1) 94 [some (.inr (.inr (some a0))), some (.inr (.inr (some a101))), some (.inr (.inr (some a110)))] [.inl q109.1, .inr (.inr (some a0))] q109.2 _
    refine y_aload_n (i := 2) dX5_performPlain_94 rfl rfl ?_
    refine y_iconst (v := 0) dX5_performPlain_95 (by decide) ?_
    replace hf := bnd hf
    obtain ⟨fs113, efs113, hf⟩ := hf
    replace hf := bnd hf
    obtain ⟨q112, eq112, hf⟩ := hf
    refine y_callV (mj := miX9_numberAt) (args := [.inl 0]) (st := [.inl q109.1, .inr (.inr (some a0))]) dX5_performPlain_96 (gd_of 515 rfl rfl) (gd_of 427 rfl rfl) (gd_of 428 rfl rfl) okX9_numberAt (obO_spec efs113) rfl rfl (xX9_numberAt (by omega) eq112) (Nat.le_of_ble_eq_true rfl) rfl ?_
    show Y l g miX5_performPlain (d + 1) 99 [some (.inr (.inr (some a0))), some (.inr (.inr (some a101))), some (.inr (.inr (some a110)))] [.inr (.inl q112.1), .inl q109.1, .inr (.inr (some a0))] q112.2 _
    replace hf := bnd hf
    obtain ⟨fs115, efs115, hf⟩ := hf
    replace hf := bnd hf
    obtain ⟨q114, eq114, hf⟩ := hf
    refine y_callV (mj := miX5_give) (args := [.inl q109.1, .inr (.inl q112.1)]) (st := []) dX5_performPlain_99 (gd_of 587 rfl rfl) (gd_of 589 rfl rfl) (gd_of 20 rfl rfl) okX5_give (obO_spec efs115) rfl rfl (xX5_give (by omega) eq114) (Nat.le_of_ble_eq_true rfl) rfl ?_
    show Y l g miX5_performPlain (d + 1) 102 [some (.inr (.inr (some a0))), some (.inr (.inr (some a101))), some (.inr (.inr (some a110)))] [.inl q114.1] q114.2 _
    obtain rfl := Option.some.inj hf
    exact y_ret (v := some (.inl q114.1)) dX5_performPlain_102 rfl
  rw [if_neg hc] at hf
  refine y_swc (fun hc => ?_) (fun hc => ?_)
  · rw [if_pos hc] at hf
    refine y_aload_n (i := 0) dX5_performPlain_103 rfl rfl ?_
    refine y_iconst (v := 0) dX5_performPlain_104 (by decide) ?_
    refine y_aload_n (i := 2) dX5_performPlain_105 rfl rfl ?_
    refine y_iconst (v := 0) dX5_performPlain_106 (by decide) ?_
    replace hf := bnd hf
    obtain ⟨a117, rfl, hf⟩ := hf
    replace hf := bnd hf
    obtain ⟨fs118, efs118, hf⟩ := hf
    replace hf := bnd hf
    obtain ⟨q116, eq116, hf⟩ := hf
    refine y_callV (mj := miX9_intAt) (args := [.inl 0]) (st := [.inl 0, .inr (.inr (some a0))]) dX5_performPlain_107 (gd_of 602 rfl rfl) (gd_of 603 rfl rfl) (gd_of 604 rfl rfl) okX9_intAt (obO_spec efs118) rfl rfl (xX9_intAt (by omega) eq116) (Nat.le_of_ble_eq_true rfl) rfl ?_
    show Y l g miX5_performPlain (d + 1) 110 [some (.inr (.inr (some a0))), some (.inr (.inr (some a101))), some (.inr (.inr (some a117)))] [.inl q116.1, .inl 0, .inr (.inr (some a0))] q116.2 _
    refine y_aload_n (i := 2) dX5_performPlain_110 rfl rfl ?_
    refine y_iconst (v := 1) dX5_performPlain_111 (by decide) ?_
    replace hf := bnd hf
    obtain ⟨fs120, efs120, hf⟩ := hf
    replace hf := bnd hf
    obtain ⟨q119, eq119, hf⟩ := hf
    refine y_callV (mj := miX9_intAt) (args := [.inl 1]) (st := [.inl q116.1, .inl 0, .inr (.inr (some a0))]) dX5_performPlain_112 (gd_of 602 rfl rfl) (gd_of 603 rfl rfl) (gd_of 604 rfl rfl) okX9_intAt (obO_spec efs120) rfl rfl (xX9_intAt (by omega) eq119) (Nat.le_of_ble_eq_true rfl) rfl ?_
    show Y l g miX5_performPlain (d + 1) 115 [some (.inr (.inr (some a0))), some (.inr (.inr (some a101))), some (.inr (.inr (some a117)))] [.inl q119.1, .inl q116.1, .inl 0, .inr (.inr (some a0))] q119.2 _
    refine y_iadd dX5_performPlain_115 ?_
    refine y_i2l dX5_performPlain_116 ?_
    replace hf := bnd hf
    obtain ⟨fs122, efs122, hf⟩ := hf
    replace hf := bnd hf
    obtain ⟨q121, eq121, hf⟩ := hf
    refine y_callV (mj := miX5_give) (args := [.inl 0, .inr (.inl (Int32.toInt64 (q116.1 + q119.1)))]) (st := []) dX5_performPlain_117 (gd_of 587 rfl rfl) (gd_of 589 rfl rfl) (gd_of 20 rfl rfl) okX5_give (obO_spec efs122) rfl rfl (xX5_give (by omega) eq121) (Nat.le_of_ble_eq_true rfl) rfl ?_
    show Y l g miX5_performPlain (d + 1) 120 [some (.inr (.inr (some a0))), some (.inr (.inr (some a101))), some (.inr (.inr (some a117)))] [.inl q121.1] q121.2 _
    obtain rfl := Option.some.inj hf
    exact y_ret (v := some (.inl q121.1)) dX5_performPlain_120 rfl
  rw [if_neg hc] at hf
  refine y_swc (fun hc => ?_) (fun hc => ?_)
  · rw [if_pos hc] at hf
    refine y_aload_n (i := 0) dX5_performPlain_121 rfl rfl ?_
    refine y_iconst (v := 0) dX5_performPlain_122 (by decide) ?_
    refine y_aload_n (i := 2) dX5_performPlain_123 rfl rfl ?_
    refine y_iconst (v := 0) dX5_performPlain_124 (by decide) ?_
    replace hf := bnd hf
    obtain ⟨a124, rfl, hf⟩ := hf
    replace hf := bnd hf
    obtain ⟨fs125, efs125, hf⟩ := hf
    replace hf := bnd hf
    obtain ⟨q123, eq123, hf⟩ := hf
    refine y_callV (mj := miX9_intAt) (args := [.inl 0]) (st := [.inl 0, .inr (.inr (some a0))]) dX5_performPlain_125 (gd_of 602 rfl rfl) (gd_of 603 rfl rfl) (gd_of 604 rfl rfl) okX9_intAt (obO_spec efs125) rfl rfl (xX9_intAt (by omega) eq123) (Nat.le_of_ble_eq_true rfl) rfl ?_
    show Y l g miX5_performPlain (d + 1) 128 [some (.inr (.inr (some a0))), some (.inr (.inr (some a101))), some (.inr (.inr (some a124)))] [.inl q123.1, .inl 0, .inr (.inr (some a0))] q123.2 _
    refine y_aload_n (i := 2) dX5_performPlain_128 rfl rfl ?_
    refine y_iconst (v := 1) dX5_performPlain_129 (by decide) ?_
    replace hf := bnd hf
    obtain ⟨fs127, efs127, hf⟩ := hf
    replace hf := bnd hf
    obtain ⟨q126, eq126, hf⟩ := hf
    refine y_callV (mj := miX9_intAt) (args := [.inl 1]) (st := [.inl q123.1, .inl 0, .inr (.inr (some a0))]) dX5_performPlain_130 (gd_of 602 rfl rfl) (gd_of 603 rfl rfl) (gd_of 604 rfl rfl) okX9_intAt (obO_spec efs127) rfl rfl (xX9_intAt (by omega) eq126) (Nat.le_of_ble_eq_true rfl) rfl ?_
    show Y l g miX5_performPlain (d + 1) 133 [some (.inr (.inr (some a0))), some (.inr (.inr (some a101))), some (.inr (.inr (some a124)))] [.inl q126.1, .inl q123.1, .inl 0, .inr (.inr (some a0))] q126.2 _
    refine y_isub dX5_performPlain_133 ?_
    refine y_i2l dX5_performPlain_134 ?_
    replace hf := bnd hf
    obtain ⟨fs129, efs129, hf⟩ := hf
    replace hf := bnd hf
    obtain ⟨q128, eq128, hf⟩ := hf
    refine y_callV (mj := miX5_give) (args := [.inl 0, .inr (.inl (Int32.toInt64 (q123.1 - q126.1)))]) (st := []) dX5_performPlain_135 (gd_of 587 rfl rfl) (gd_of 589 rfl rfl) (gd_of 20 rfl rfl) okX5_give (obO_spec efs129) rfl rfl (xX5_give (by omega) eq128) (Nat.le_of_ble_eq_true rfl) rfl ?_
    show Y l g miX5_performPlain (d + 1) 138 [some (.inr (.inr (some a0))), some (.inr (.inr (some a101))), some (.inr (.inr (some a124)))] [.inl q128.1] q128.2 _
    obtain rfl := Option.some.inj hf
    exact y_ret (v := some (.inl q128.1)) dX5_performPlain_138 rfl
  rw [if_neg hc] at hf
  refine y_swc (fun hc => ?_) (fun hc => ?_)
  · rw [if_pos hc] at hf
    refine y_aload_n (i := 0) dX5_performPlain_139 rfl rfl ?_
    refine y_iconst (v := 0) dX5_performPlain_140 (by decide) ?_
    refine y_aload_n (i := 2) dX5_performPlain_141 rfl rfl ?_
    refine y_iconst (v := 0) dX5_performPlain_142 (by decide) ?_
    replace hf := bnd hf
    obtain ⟨a131, rfl, hf⟩ := hf
    replace hf := bnd hf
    obtain ⟨fs132, efs132, hf⟩ := hf
    replace hf := bnd hf
    obtain ⟨q130, eq130, hf⟩ := hf
    refine y_callV (mj := miX9_intAt) (args := [.inl 0]) (st := [.inl 0, .inr (.inr (some a0))]) dX5_performPlain_143 (gd_of 602 rfl rfl) (gd_of 603 rfl rfl) (gd_of 604 rfl rfl) okX9_intAt (obO_spec efs132) rfl rfl (xX9_intAt (by omega) eq130) (Nat.le_of_ble_eq_true rfl) rfl ?_
    show Y l g miX5_performPlain (d + 1) 146 [some (.inr (.inr (some a0))), some (.inr (.inr (some a101))), some (.inr (.inr (some a131)))] [.inl q130.1, .inl 0, .inr (.inr (some a0))] q130.2 _
    refine y_aload_n (i := 2) dX5_performPlain_146 rfl rfl ?_
    refine y_iconst (v := 1) dX5_performPlain_147 (by decide) ?_
    replace hf := bnd hf
    obtain ⟨fs134, efs134, hf⟩ := hf
    replace hf := bnd hf
    obtain ⟨q133, eq133, hf⟩ := hf
    refine y_callV (mj := miX9_intAt) (args := [.inl 1]) (st := [.inl q130.1, .inl 0, .inr (.inr (some a0))]) dX5_performPlain_148 (gd_of 602 rfl rfl) (gd_of 603 rfl rfl) (gd_of 604 rfl rfl) okX9_intAt (obO_spec efs134) rfl rfl (xX9_intAt (by omega) eq133) (Nat.le_of_ble_eq_true rfl) rfl ?_
    show Y l g miX5_performPlain (d + 1) 151 [some (.inr (.inr (some a0))), some (.inr (.inr (some a101))), some (.inr (.inr (some a131)))] [.inl q133.1, .inl q130.1, .inl 0, .inr (.inr (some a0))] q133.2 _
    refine y_imul dX5_performPlain_151 ?_
    refine y_i2l dX5_performPlain_152 ?_
    replace hf := bnd hf
    obtain ⟨fs136, efs136, hf⟩ := hf
    replace hf := bnd hf
    obtain ⟨q135, eq135, hf⟩ := hf
    refine y_callV (mj := miX5_give) (args := [.inl 0, .inr (.inl (Int32.toInt64 (q130.1 * q133.1)))]) (st := []) dX5_performPlain_153 (gd_of 587 rfl rfl) (gd_of 589 rfl rfl) (gd_of 20 rfl rfl) okX5_give (obO_spec efs136) rfl rfl (xX5_give (by omega) eq135) (Nat.le_of_ble_eq_true rfl) rfl ?_
    show Y l g miX5_performPlain (d + 1) 156 [some (.inr (.inr (some a0))), some (.inr (.inr (some a101))), some (.inr (.inr (some a131)))] [.inl q135.1] q135.2 _
    obtain rfl := Option.some.inj hf
    exact y_ret (v := some (.inl q135.1)) dX5_performPlain_156 rfl
  rw [if_neg hc] at hf
  refine y_swc (fun hc => ?_) (fun hc => ?_)
  · rw [if_pos hc] at hf
    refine y_aload_n (i := 0) dX5_performPlain_157 rfl rfl ?_
    refine y_aload_n (i := 2) dX5_performPlain_158 rfl rfl ?_
    refine y_iconst (v := 0) dX5_performPlain_159 (by decide) ?_
    replace hf := bnd hf
    obtain ⟨a138, rfl, hf⟩ := hf
    replace hf := bnd hf
    obtain ⟨fs139, efs139, hf⟩ := hf
    replace hf := bnd hf
    obtain ⟨q137, eq137, hf⟩ := hf
    refine y_callV (mj := miX9_intAt) (args := [.inl 0]) (st := [.inr (.inr (some a0))]) dX5_performPlain_160 (gd_of 602 rfl rfl) (gd_of 603 rfl rfl) (gd_of 604 rfl rfl) okX9_intAt (obO_spec efs139) rfl rfl (xX9_intAt (by omega) eq137) (Nat.le_of_ble_eq_true rfl) rfl ?_
    show Y l g miX5_performPlain (d + 1) 163 [some (.inr (.inr (some a0))), some (.inr (.inr (some a101))), some (.inr (.inr (some a138)))] [.inl q137.1, .inr (.inr (some a0))] q137.2 _
    refine y_aload_n (i := 2) dX5_performPlain_163 rfl rfl ?_
    refine y_iconst (v := 1) dX5_performPlain_164 (by decide) ?_
    replace hf := bnd hf
    obtain ⟨fs141, efs141, hf⟩ := hf
    replace hf := bnd hf
    obtain ⟨q140, eq140, hf⟩ := hf
    refine y_callV (mj := miX9_intAt) (args := [.inl 1]) (st := [.inl q137.1, .inr (.inr (some a0))]) dX5_performPlain_165 (gd_of 602 rfl rfl) (gd_of 603 rfl rfl) (gd_of 604 rfl rfl) okX9_intAt (obO_spec efs141) rfl rfl (xX9_intAt (by omega) eq140) (Nat.le_of_ble_eq_true rfl) rfl ?_
    show Y l g miX5_performPlain (d + 1) 168 [some (.inr (.inr (some a0))), some (.inr (.inr (some a101))), some (.inr (.inr (some a138)))] [.inl q140.1, .inl q137.1, .inr (.inr (some a0))] q140.2 _
    replace hf := bnd hf
    obtain ⟨fs143, efs143, hf⟩ := hf
    replace hf := bnd hf
    obtain ⟨q142, eq142, hf⟩ := hf
    refine y_callV (mj := miX5_divide) (args := [.inl q137.1, .inl q140.1]) (st := []) dX5_performPlain_168 (gd_of 633 rfl rfl) (gd_of 635 rfl rfl) (gd_of 28 rfl rfl) okX5_divide (obO_spec efs143) rfl rfl (xX5_divide (by omega) eq142) (Nat.le_of_ble_eq_true rfl) rfl ?_
    show Y l g miX5_performPlain (d + 1) 171 [some (.inr (.inr (some a0))), some (.inr (.inr (some a101))), some (.inr (.inr (some a138)))] [.inl q142.1] q142.2 _
    obtain rfl := Option.some.inj hf
    exact y_ret (v := some (.inl q142.1)) dX5_performPlain_171 rfl
  rw [if_neg hc] at hf
  refine y_swc (fun hc => ?_) (fun hc => ?_)
  · rw [if_pos hc] at hf
    refine y_aload_n (i := 0) dX5_performPlain_172 rfl rfl ?_
    refine y_iconst (v := 0) dX5_performPlain_173 (by decide) ?_
    refine y_aload_n (i := 2) dX5_performPlain_174 rfl rfl ?_
    refine y_iconst (v := 0) dX5_performPlain_175 (by decide) ?_
    replace hf := bnd hf
    obtain ⟨a145, rfl, hf⟩ := hf
    replace hf := bnd hf
    obtain ⟨fs146, efs146, hf⟩ := hf
    replace hf := bnd hf
    obtain ⟨q144, eq144, hf⟩ := hf
    refine y_callV (mj := miX9_intAt) (args := [.inl 0]) (st := [.inl 0, .inr (.inr (some a0))]) dX5_performPlain_176 (gd_of 602 rfl rfl) (gd_of 603 rfl rfl) (gd_of 604 rfl rfl) okX9_intAt (obO_spec efs146) rfl rfl (xX9_intAt (by omega) eq144) (Nat.le_of_ble_eq_true rfl) rfl ?_
    show Y l g miX5_performPlain (d + 1) 179 [some (.inr (.inr (some a0))), some (.inr (.inr (some a101))), some (.inr (.inr (some a145)))] [.inl q144.1, .inl 0, .inr (.inr (some a0))] q144.2 _
    refine y_aload_n (i := 2) dX5_performPlain_179 rfl rfl ?_
    refine y_iconst (v := 1) dX5_performPlain_180 (by decide) ?_
    replace hf := bnd hf
    obtain ⟨fs148, efs148, hf⟩ := hf
    replace hf := bnd hf
    obtain ⟨q147, eq147, hf⟩ := hf
    refine y_callV (mj := miX9_intAt) (args := [.inl 1]) (st := [.inl q144.1, .inl 0, .inr (.inr (some a0))]) dX5_performPlain_181 (gd_of 602 rfl rfl) (gd_of 603 rfl rfl) (gd_of 604 rfl rfl) okX9_intAt (obO_spec efs148) rfl rfl (xX9_intAt (by omega) eq147) (Nat.le_of_ble_eq_true rfl) rfl ?_
    show Y l g miX5_performPlain (d + 1) 184 [some (.inr (.inr (some a0))), some (.inr (.inr (some a101))), some (.inr (.inr (some a145)))] [.inl q147.1, .inl q144.1, .inl 0, .inr (.inr (some a0))] q147.2 _
    refine y_icmp_ge (tgt := 191) dX5_performPlain_184 (by decide) (fun hc => ?_) (fun hc => ?_)
    · rw [if_pos hc] at hf
      refine y_lconst (v := 0) dX5_performPlain_191 (by decide) ?_
      replace hf := bnd hf
      obtain ⟨fs150, efs150, hf⟩ := hf
      replace hf := bnd hf
      obtain ⟨q149, eq149, hf⟩ := hf
      refine y_callV (mj := miX5_give) (args := [.inl 0, .inr (.inl 0)]) (st := []) dX5_performPlain_192 (gd_of 587 rfl rfl) (gd_of 589 rfl rfl) (gd_of 20 rfl rfl) okX5_give (obO_spec efs150) rfl rfl (xX5_give (by omega) eq149) (Nat.le_of_ble_eq_true rfl) rfl ?_
      show Y l g miX5_performPlain (d + 1) 195 [some (.inr (.inr (some a0))), some (.inr (.inr (some a101))), some (.inr (.inr (some a145)))] [.inl q149.1] q149.2 _
      obtain rfl := Option.some.inj hf
      exact y_ret (v := some (.inl q149.1)) dX5_performPlain_195 rfl
    · rw [if_neg hc] at hf
      refine y_lconst (v := 1) dX5_performPlain_187 (by decide) ?_
      refine y_goto (tgt := 192) dX5_performPlain_188 (by decide) ?_
      replace hf := bnd hf
      obtain ⟨fs152, efs152, hf⟩ := hf
      replace hf := bnd hf
      obtain ⟨q151, eq151, hf⟩ := hf
      refine y_callV (mj := miX5_give) (args := [.inl 0, .inr (.inl 1)]) (st := []) dX5_performPlain_192 (gd_of 587 rfl rfl) (gd_of 589 rfl rfl) (gd_of 20 rfl rfl) okX5_give (obO_spec efs152) rfl rfl (xX5_give (by omega) eq151) (Nat.le_of_ble_eq_true rfl) rfl ?_
      show Y l g miX5_performPlain (d + 1) 195 [some (.inr (.inr (some a0))), some (.inr (.inr (some a101))), some (.inr (.inr (some a145)))] [.inl q151.1] q151.2 _
      obtain rfl := Option.some.inj hf
      exact y_ret (v := some (.inl q151.1)) dX5_performPlain_195 rfl
  rw [if_neg hc] at hf
  refine y_swc (fun hc => ?_) (fun hc => ?_)
  · rw [if_pos hc] at hf
    refine y_aload_n (i := 0) dX5_performPlain_196 rfl rfl ?_
    refine y_iconst (v := 1) dX5_performPlain_197 (by decide) ?_
    refine y_aload_n (i := 2) dX5_performPlain_198 rfl rfl ?_
    refine y_iconst (v := 0) dX5_performPlain_199 (by decide) ?_
    replace hf := bnd hf
    obtain ⟨a154, rfl, hf⟩ := hf
    replace hf := bnd hf
    obtain ⟨fs155, efs155, hf⟩ := hf
    replace hf := bnd hf
    obtain ⟨q153, eq153, hf⟩ := hf
    refine y_callV (mj := miX9_numberAt) (args := [.inl 0]) (st := [.inl 1, .inr (.inr (some a0))]) dX5_performPlain_200 (gd_of 515 rfl rfl) (gd_of 427 rfl rfl) (gd_of 428 rfl rfl) okX9_numberAt (obO_spec efs155) rfl rfl (xX9_numberAt (by omega) eq153) (Nat.le_of_ble_eq_true rfl) rfl ?_
    show Y l g miX5_performPlain (d + 1) 203 [some (.inr (.inr (some a0))), some (.inr (.inr (some a101))), some (.inr (.inr (some a154)))] [.inr (.inl q153.1), .inl 1, .inr (.inr (some a0))] q153.2 _
    refine y_aload_n (i := 2) dX5_performPlain_203 rfl rfl ?_
    refine y_iconst (v := 1) dX5_performPlain_204 (by decide) ?_
    replace hf := bnd hf
    obtain ⟨fs157, efs157, hf⟩ := hf
    replace hf := bnd hf
    obtain ⟨q156, eq156, hf⟩ := hf
    refine y_callV (mj := miX9_numberAt) (args := [.inl 1]) (st := [.inr (.inl q153.1), .inl 1, .inr (.inr (some a0))]) dX5_performPlain_205 (gd_of 515 rfl rfl) (gd_of 427 rfl rfl) (gd_of 428 rfl rfl) okX9_numberAt (obO_spec efs157) rfl rfl (xX9_numberAt (by omega) eq156) (Nat.le_of_ble_eq_true rfl) rfl ?_
    show Y l g miX5_performPlain (d + 1) 208 [some (.inr (.inr (some a0))), some (.inr (.inr (some a101))), some (.inr (.inr (some a154)))] [.inr (.inl q156.1), .inr (.inl q153.1), .inl 1, .inr (.inr (some a0))] q156.2 _
    refine y_ladd dX5_performPlain_208 ?_
    replace hf := bnd hf
    obtain ⟨fs159, efs159, hf⟩ := hf
    replace hf := bnd hf
    obtain ⟨q158, eq158, hf⟩ := hf
    refine y_callV (mj := miX5_give) (args := [.inl 1, .inr (.inl (q153.1 + q156.1))]) (st := []) dX5_performPlain_209 (gd_of 587 rfl rfl) (gd_of 589 rfl rfl) (gd_of 20 rfl rfl) okX5_give (obO_spec efs159) rfl rfl (xX5_give (by omega) eq158) (Nat.le_of_ble_eq_true rfl) rfl ?_
    show Y l g miX5_performPlain (d + 1) 212 [some (.inr (.inr (some a0))), some (.inr (.inr (some a101))), some (.inr (.inr (some a154)))] [.inl q158.1] q158.2 _
    obtain rfl := Option.some.inj hf
    exact y_ret (v := some (.inl q158.1)) dX5_performPlain_212 rfl
  rw [if_neg hc] at hf
  refine y_swc (fun hc => ?_) (fun hc => ?_)
  · rw [if_pos hc] at hf
    refine Y.weak (lv2 := [some (.inr (.inr (some a0))), some (.inr (.inr (some a101))), some (.inr (.inr r2))]) [true, true, true] rfl ?_
    exact xX5_performPlain_213 hK hf
  rw [if_neg hc] at hf
  refine y_swc (fun hc => ?_) (fun hc => ?_)
  · rw [if_pos hc] at hf
    refine Y.weak (lv2 := [some (.inr (.inr (some a0))), some (.inr (.inr (some a101))), some (.inr (.inr r2))]) [true, true, true] rfl ?_
    exact xX5_performPlain_213 hK hf
  rw [if_neg hc] at hf
  refine y_swc (fun hc => ?_) (fun hc => ?_)
  · rw [if_pos hc] at hf
    refine y_aload_n (i := 2) dX5_performPlain_233 rfl rfl ?_
    refine y_iconst (v := 0) dX5_performPlain_234 (by decide) ?_
    replace hf := bnd hf
    obtain ⟨a161, rfl, hf⟩ := hf
    replace hf := bnd hf
    obtain ⟨fs162, efs162, hf⟩ := hf
    replace hf := bnd hf
    obtain ⟨q160, eq160, hf⟩ := hf
    refine y_callV (mj := miX9_kindAt) (args := [.inl 0]) (st := []) dX5_performPlain_235 (gd_of 501 rfl rfl) (gd_of 387 rfl rfl) (gd_of 388 rfl rfl) okX9_kindAt (obO_spec efs162) rfl rfl (xX9_kindAt (by omega) eq160) (Nat.le_of_ble_eq_true rfl) rfl ?_
    show Y l g miX5_performPlain (d + 1) 238 [some (.inr (.inr (some a0))), some (.inr (.inr (some a101))), some (.inr (.inr (some a161)))] [.inl q160.1] q160.2 _
    refine y_iconst (v := 3) dX5_performPlain_238 (by decide) ?_
    refine y_icmp_ne (tgt := 246) dX5_performPlain_239 (by decide) (fun hc => ?_) (fun hc => ?_)
    · rw [if_neg hc] at hf
      refine y_aload_n (i := 0) dX5_performPlain_246 rfl rfl ?_
      refine y_iconst (v := 0) dX5_performPlain_247 (by decide) ?_
      refine y_aload_n (i := 0) dX5_performPlain_248 rfl rfl ?_
      replace hf := bnd hf
      obtain ⟨r163, er163, hf⟩ := hf
      refine y_getR er163 fl5_31 dX5_performPlain_249 ?_
      refine y_aload_n (i := 2) dX5_performPlain_252 rfl rfl ?_
      refine y_iconst (v := 0) dX5_performPlain_253 (by decide) ?_
      replace hf := bnd hf
      obtain ⟨fs165, efs165, hf⟩ := hf
      replace hf := bnd hf
      obtain ⟨q164, eq164, hf⟩ := hf
      refine y_callV (mj := miX9_intAt) (args := [.inl 0]) (st := [.inr (.inr r163), .inl 0, .inr (.inr (some a0))]) dX5_performPlain_254 (gd_of 602 rfl rfl) (gd_of 603 rfl rfl) (gd_of 604 rfl rfl) okX9_intAt (obO_spec efs165) rfl rfl (xX9_intAt (by omega) eq164) (Nat.le_of_ble_eq_true rfl) rfl ?_
      show Y l g miX5_performPlain (d + 1) 257 [some (.inr (.inr (some a0))), some (.inr (.inr (some a101))), some (.inr (.inr (some a161)))] [.inl q164.1, .inr (.inr r163), .inl 0, .inr (.inr (some a0))] q164.2 _
      replace hf := bnd hf
      obtain ⟨a167, rfl, hf⟩ := hf
      replace hf := bnd hf
      obtain ⟨fs168, efs168, hf⟩ := hf
      replace hf := bnd hf
      obtain ⟨q166, eq166, hf⟩ := hf
      refine y_callV (mj := miX4_lengthOf) (args := [.inl q164.1]) (st := [.inl 0, .inr (.inr (some a0))]) dX5_performPlain_257 (gd_of 606 rfl rfl) (gd_of 607 rfl rfl) (gd_of 608 rfl rfl) okX4_lengthOf (obO_spec efs168) rfl rfl (xX4_lengthOf (by omega) eq166) (Nat.le_of_ble_eq_true rfl) rfl ?_
      show Y l g miX5_performPlain (d + 1) 260 [some (.inr (.inr (some a0))), some (.inr (.inr (some a101))), some (.inr (.inr (some a161)))] [.inl q166.1, .inl 0, .inr (.inr (some a0))] q166.2 _
      refine y_i2l dX5_performPlain_260 ?_
      replace hf := bnd hf
      obtain ⟨fs170, efs170, hf⟩ := hf
      replace hf := bnd hf
      obtain ⟨q169, eq169, hf⟩ := hf
      refine y_callV (mj := miX5_give) (args := [.inl 0, .inr (.inl (Int32.toInt64 q166.1))]) (st := []) dX5_performPlain_261 (gd_of 587 rfl rfl) (gd_of 589 rfl rfl) (gd_of 20 rfl rfl) okX5_give (obO_spec efs170) rfl rfl (xX5_give (by omega) eq169) (Nat.le_of_ble_eq_true rfl) rfl ?_
      show Y l g miX5_performPlain (d + 1) 264 [some (.inr (.inr (some a0))), some (.inr (.inr (some a101))), some (.inr (.inr (some a161)))] [.inl q169.1] q169.2 _
      obtain rfl := Option.some.inj hf
      exact y_ret (v := some (.inl q169.1)) dX5_performPlain_264 rfl
    · rw [if_pos hc] at hf
      refine y_iconst (v := 3) dX5_performPlain_242 (by decide) ?_
      refine y_goto (tgt := 264) dX5_performPlain_243 (by decide) ?_
      obtain rfl := Option.some.inj hf
      exact y_ret (v := some (.inl 3)) dX5_performPlain_264 rfl
  rw [if_neg hc] at hf
  refine y_swc (fun hc => ?_) (fun hc => ?_)
  · rw [if_pos hc] at hf
    refine y_aload_n (i := 0) dX5_performPlain_265 rfl rfl ?_
    refine y_aload_n (i := 2) dX5_performPlain_266 rfl rfl ?_
    refine y_iconst (v := 0) dX5_performPlain_267 (by decide) ?_
    replace hf := bnd hf
    obtain ⟨a172, rfl, hf⟩ := hf
    replace hf := bnd hf
    obtain ⟨fs173, efs173, hf⟩ := hf
    replace hf := bnd hf
    obtain ⟨q171, eq171, hf⟩ := hf
    refine y_callV (mj := miX9_intAt) (args := [.inl 0]) (st := [.inr (.inr (some a0))]) dX5_performPlain_268 (gd_of 602 rfl rfl) (gd_of 603 rfl rfl) (gd_of 604 rfl rfl) okX9_intAt (obO_spec efs173) rfl rfl (xX9_intAt (by omega) eq171) (Nat.le_of_ble_eq_true rfl) rfl ?_
    show Y l g miX5_performPlain (d + 1) 271 [some (.inr (.inr (some a0))), some (.inr (.inr (some a101))), some (.inr (.inr (some a172)))] [.inl q171.1, .inr (.inr (some a0))] q171.2 _
    replace hf := bnd hf
    obtain ⟨fs175, efs175, hf⟩ := hf
    replace hf := bnd hf
    obtain ⟨q174, eq174, hf⟩ := hf
    refine y_callV (mj := miX5_makeRow) (args := [.inl q171.1]) (st := []) dX5_performPlain_271 (gd_of 642 rfl rfl) (gd_of 644 rfl rfl) (gd_of 30 rfl rfl) okX5_makeRow (obO_spec efs175) rfl rfl (xX5_makeRow (by omega) eq174) (Nat.le_of_ble_eq_true rfl) rfl ?_
    show Y l g miX5_performPlain (d + 1) 274 [some (.inr (.inr (some a0))), some (.inr (.inr (some a101))), some (.inr (.inr (some a172)))] [.inl q174.1] q174.2 _
    obtain rfl := Option.some.inj hf
    exact y_ret (v := some (.inl q174.1)) dX5_performPlain_274 rfl
  rw [if_neg hc] at hf
  refine y_swc (fun hc => ?_) (fun hc => ?_)
  · rw [if_pos hc] at hf
    refine y_bipush (v := 100) dX5_performPlain_275 (by decide) ?_
    refine y_aload_n (i := 1) dX5_performPlain_277 rfl rfl ?_
    replace hf := bnd hf
    obtain ⟨x176, ex176, hf⟩ := hf
    refine y_getI ex176 fl5_124 dX5_performPlain_278 ?_
    refine y_iadd dX5_performPlain_281 ?_
    obtain rfl := Option.some.inj hf
    exact y_ret (v := some (.inl (100 + x176))) dX5_performPlain_282 rfl
  rw [if_neg hc] at hf
  refine y_swn ?_
  refine y_aload_n (i := 0) dX5_performPlain_283 rfl rfl ?_
  replace hf := bnd hf
  obtain ⟨fs178, efs178, hf⟩ := hf
  replace hf := bnd hf
  obtain ⟨q177, eq177, hf⟩ := hf
  refine y_callV (mj := miX5_countOnce) (args := []) (st := []) dX5_performPlain_284 (gd_of 646 rfl rfl) (gd_of 648 rfl rfl) (gd_of 31 rfl rfl) okX5_countOnce (obO_spec efs178) rfl rfl (xX5_countOnce (by omega) eq177) (Nat.le_of_ble_eq_true rfl) rfl ?_
  show Y l g miX5_performPlain (d + 1) 287 [some (.inr (.inr (some a0))), some (.inr (.inr (some a101))), some (.inr (.inr r2))] [.inl q177.1] q177.2 _
  obtain rfl := Option.some.inj hf
  exact y_ret (v := some (.inl q177.1)) dX5_performPlain_287 rfl
set_option maxRecDepth 100000 in
theorem dX5_performAdapted_0 : decode prog_7_method_31_code 0 = .ok (.aload_n 1, 1) := by decide +kernel
set_option maxRecDepth 100000 in
theorem dX5_performAdapted_1 : decode prog_7_method_31_code 1 = .ok (.getfield 258, 3) := by decide +kernel
set_option maxRecDepth 100000 in
theorem dX5_performAdapted_4 : decode prog_7_method_31_code 4 = .ok (.astore_n 3, 1) := by decide +kernel
set_option maxRecDepth 100000 in
theorem dX5_performAdapted_5 : decode prog_7_method_31_code 5 = .ok (.aload_n 1, 1) := by decide +kernel
set_option maxRecDepth 100000 in
theorem dX5_performAdapted_6 : decode prog_7_method_31_code 6 = .ok (.getfield 168, 3) := by decide +kernel
set_option maxRecDepth 100000 in
theorem dX5_performAdapted_9 : decode prog_7_method_31_code 9 = .ok (.getfield 228, 3) := by decide +kernel
set_option maxRecDepth 100000 in
theorem dX5_performAdapted_12 : decode prog_7_method_31_code 12 = .ok (.getfield 117, 3) := by decide +kernel
set_option maxRecDepth 100000 in
theorem dX5_performAdapted_15 : decode prog_7_method_31_code 15 = .ok (.astore 4, 2) := by decide +kernel
set_option maxRecDepth 100000 in
theorem dX5_performAdapted_17 : decode prog_7_method_31_code 17 = .ok (.aload_n 0, 1) := by decide +kernel
set_option maxRecDepth 100000 in
theorem dX5_performAdapted_18 : decode prog_7_method_31_code 18 = .ok (.getfield 11, 3) := by decide +kernel
set_option maxRecDepth 100000 in
theorem dX5_performAdapted_21 : decode prog_7_method_31_code 21 = .ok (.iload_n 2, 1) := by decide +kernel
set_option maxRecDepth 100000 in
theorem dX5_performAdapted_22 : decode prog_7_method_31_code 22 = .ok (.aaload, 1) := by decide +kernel
set_option maxRecDepth 100000 in
theorem dX5_performAdapted_23 : decode prog_7_method_31_code 23 = .ok (.astore 5, 2) := by decide +kernel
set_option maxRecDepth 100000 in
theorem dX5_performAdapted_25 : decode prog_7_method_31_code 25 = .ok (.aload_n 0, 1) := by decide +kernel
set_option maxRecDepth 100000 in
theorem dX5_performAdapted_26 : decode prog_7_method_31_code 26 = .ok (.iload_n 2, 1) := by decide +kernel
set_option maxRecDepth 100000 in
theorem dX5_performAdapted_27 : decode prog_7_method_31_code 27 = .ok (.invokevirtual 94, 3) := by decide +kernel
set_option maxRecDepth 100000 in
theorem dX5_performAdapted_30 : decode prog_7_method_31_code 30 = .ok (.astore 6, 2) := by decide +kernel
set_option maxRecDepth 100000 in
theorem dX5_performAdapted_32 : decode prog_7_method_31_code 32 = .ok (.iconst 0, 1) := by decide +kernel
set_option maxRecDepth 100000 in
theorem dX5_performAdapted_33 : decode prog_7_method_31_code 33 = .ok (.istore 7, 2) := by decide +kernel
set_option maxRecDepth 100000 in
theorem dX5_performAdapted_35 : decode prog_7_method_31_code 35 = .ok (.iconst 0, 1) := by decide +kernel
set_option maxRecDepth 100000 in
theorem dX5_performAdapted_36 : decode prog_7_method_31_code 36 = .ok (.istore 8, 2) := by decide +kernel
set_option maxRecDepth 100000 in
theorem dX5_performAdapted_38 : decode prog_7_method_31_code 38 = .ok (.iload 8, 2) := by decide +kernel
set_option maxRecDepth 100000 in
theorem dX5_performAdapted_40 : decode prog_7_method_31_code 40 = .ok (.aload 5, 2) := by decide +kernel
set_option maxRecDepth 100000 in
theorem dX5_performAdapted_42 : decode prog_7_method_31_code 42 = .ok (.invokevirtual 67, 3) := by decide +kernel
set_option maxRecDepth 100000 in
theorem dX5_performAdapted_45 : decode prog_7_method_31_code 45 = .ok (.if_icmp .ge 39, 3) := by decide +kernel
set_option maxRecDepth 100000 in
theorem dX5_performAdapted_48 : decode prog_7_method_31_code 48 = .ok (.iload 7, 2) := by decide +kernel
set_option maxRecDepth 100000 in
theorem dX5_performAdapted_50 : decode prog_7_method_31_code 50 = .ok (.ifCond .ne 34, 3) := by decide +kernel
set_option maxRecDepth 100000 in
theorem dX5_performAdapted_53 : decode prog_7_method_31_code 53 = .ok (.aload_n 0, 1) := by decide +kernel
set_option maxRecDepth 100000 in
theorem dX5_performAdapted_54 : decode prog_7_method_31_code 54 = .ok (.aload 6, 2) := by decide +kernel
set_option maxRecDepth 100000 in
theorem dX5_performAdapted_56 : decode prog_7_method_31_code 56 = .ok (.aload 5, 2) := by decide +kernel
set_option maxRecDepth 100000 in
theorem dX5_performAdapted_58 : decode prog_7_method_31_code 58 = .ok (.iload 8, 2) := by decide +kernel
set_option maxRecDepth 100000 in
theorem dX5_performAdapted_60 : decode prog_7_method_31_code 60 = .ok (.aload_n 3, 1) := by decide +kernel
set_option maxRecDepth 100000 in
theorem dX5_performAdapted_61 : decode prog_7_method_31_code 61 = .ok (.iload 8, 2) := by decide +kernel
set_option maxRecDepth 100000 in
theorem dX5_performAdapted_63 : decode prog_7_method_31_code 63 = .ok (.invokevirtual 50, 3) := by decide +kernel
set_option maxRecDepth 100000 in
theorem dX5_performAdapted_66 : decode prog_7_method_31_code 66 = .ok (.aload 4, 2) := by decide +kernel
set_option maxRecDepth 100000 in
theorem dX5_performAdapted_68 : decode prog_7_method_31_code 68 = .ok (.iload 8, 2) := by decide +kernel
set_option maxRecDepth 100000 in
theorem dX5_performAdapted_70 : decode prog_7_method_31_code 70 = .ok (.invokevirtual 50, 3) := by decide +kernel
set_option maxRecDepth 100000 in
theorem dX5_performAdapted_73 : decode prog_7_method_31_code 73 = .ok (.invokevirtual 63, 3) := by decide +kernel
set_option maxRecDepth 100000 in
theorem dX5_performAdapted_76 : decode prog_7_method_31_code 76 = .ok (.istore 7, 2) := by decide +kernel
set_option maxRecDepth 100000 in
theorem dX5_performAdapted_78 : decode prog_7_method_31_code 78 = .ok (.iinc 8 1, 3) := by decide +kernel
set_option maxRecDepth 100000 in
theorem dX5_performAdapted_81 : decode prog_7_method_31_code 81 = .ok (.goto (-43), 3) := by decide +kernel
set_option maxRecDepth 100000 in
theorem dX5_performAdapted_84 : decode prog_7_method_31_code 84 = .ok (.iload 7, 2) := by decide +kernel
set_option maxRecDepth 100000 in
theorem dX5_performAdapted_86 : decode prog_7_method_31_code 86 = .ok (.ifCond .ne 19, 3) := by decide +kernel
set_option maxRecDepth 100000 in
theorem dX5_performAdapted_89 : decode prog_7_method_31_code 89 = .ok (.aload_n 0, 1) := by decide +kernel
set_option maxRecDepth 100000 in
theorem dX5_performAdapted_90 : decode prog_7_method_31_code 90 = .ok (.aload_n 1, 1) := by decide +kernel
set_option maxRecDepth 100000 in
theorem dX5_performAdapted_91 : decode prog_7_method_31_code 91 = .ok (.getfield 168, 3) := by decide +kernel
set_option maxRecDepth 100000 in
theorem dX5_performAdapted_94 : decode prog_7_method_31_code 94 = .ok (.getfield 228, 3) := by decide +kernel
set_option maxRecDepth 100000 in
theorem dX5_performAdapted_97 : decode prog_7_method_31_code 97 = .ok (.iload_n 2, 1) := by decide +kernel
set_option maxRecDepth 100000 in
theorem dX5_performAdapted_98 : decode prog_7_method_31_code 98 = .ok (.iconst 1, 1) := by decide +kernel
set_option maxRecDepth 100000 in
theorem dX5_performAdapted_99 : decode prog_7_method_31_code 99 = .ok (.iadd, 1) := by decide +kernel
set_option maxRecDepth 100000 in
theorem dX5_performAdapted_100 : decode prog_7_method_31_code 100 = .ok (.invokevirtual 98, 3) := by decide +kernel
set_option maxRecDepth 100000 in
theorem dX5_performAdapted_103 : decode prog_7_method_31_code 103 = .ok (.istore 7, 2) := by decide +kernel
set_option maxRecDepth 100000 in
theorem dX5_performAdapted_105 : decode prog_7_method_31_code 105 = .ok (.iload 7, 2) := by decide +kernel
set_option maxRecDepth 100000 in
theorem dX5_performAdapted_107 : decode prog_7_method_31_code 107 = .ok (.ifCond .ne 19, 3) := by decide +kernel
set_option maxRecDepth 100000 in
theorem dX5_performAdapted_110 : decode prog_7_method_31_code 110 = .ok (.aload_n 0, 1) := by decide +kernel
set_option maxRecDepth 100000 in
theorem dX5_performAdapted_111 : decode prog_7_method_31_code 111 = .ok (.aload 4, 2) := by decide +kernel
set_option maxRecDepth 100000 in
theorem dX5_performAdapted_113 : decode prog_7_method_31_code 113 = .ok (.getfield 121, 3) := by decide +kernel
set_option maxRecDepth 100000 in
theorem dX5_performAdapted_116 : decode prog_7_method_31_code 116 = .ok (.aload_n 3, 1) := by decide +kernel
set_option maxRecDepth 100000 in
theorem dX5_performAdapted_117 : decode prog_7_method_31_code 117 = .ok (.getfield 121, 3) := by decide +kernel
set_option maxRecDepth 100000 in
theorem dX5_performAdapted_120 : decode prog_7_method_31_code 120 = .ok (.invokevirtual 259, 3) := by decide +kernel
set_option maxRecDepth 100000 in
theorem dX5_performAdapted_123 : decode prog_7_method_31_code 123 = .ok (.goto 5, 3) := by decide +kernel
set_option maxRecDepth 100000 in
theorem dX5_performAdapted_126 : decode prog_7_method_31_code 126 = .ok (.iload 7, 2) := by decide +kernel
set_option maxRecDepth 100000 in
theorem dX5_performAdapted_128 : decode prog_7_method_31_code 128 = .ok (.ireturn, 1) := by decide +kernel
set_option maxRecDepth 100000 in
theorem okX5_adaptGot : mOk miX5_adaptGot 2 := ⟨(gd_of 624 rfl rfl), (gd_of 75 rfl rfl), by decide +kernel, ⟨by decide +kernel, by decide +kernel, by decide +kernel⟩, by decide⟩
set_option maxRecDepth 100000 in
theorem fl5_168 : ∀ c ∈ ([1] : List Nat), FL "HandleModels$Runner" 168 c 3 := fun c hc => by
  cases List.mem_singleton.mp hc
  exact ⟨_, "HandleModels$Other", rfl, by decide, (gd_of 404 rfl rfl), Or.inl rfl⟩
set_option maxRecDepth 100000 in
theorem fl5_228 : ∀ c ∈ ([2] : List Nat), FL "HandleModels$Runner" 228 c 1 := fun c hc => by
  cases List.mem_singleton.mp hc
  exact ⟨_, "HandleModels$Parts", rfl, by decide, (gd_of 284 rfl rfl), Or.inl rfl⟩
set_option maxRecDepth 100000 in
theorem okX5_perform : mOk miX5_perform 2 := ⟨(gd_of 521 rfl rfl), (gd_of 75 rfl rfl), by decide +kernel, ⟨by decide +kernel, by decide +kernel, by decide +kernel⟩, by decide⟩
set_option maxRecDepth 100000 in
theorem okX5_addAdapted : mOk miX5_addAdapted 5 := ⟨(gd_of 512 rfl rfl), (gd_of 75 rfl rfl), by decide +kernel, ⟨by decide +kernel, by decide +kernel, by decide +kernel⟩, by decide⟩
set_option maxRecDepth 100000 in
theorem fl5_258 : ∀ c ∈ ([1] : List Nat), FL "HandleModels$Runner" 258 c 1 := fun c hc => by
  cases List.mem_singleton.mp hc
  exact ⟨_, "HandleModels$Other", rfl, by decide, (gd_of 244 rfl rfl), Or.inr (gd_of 245 rfl rfl)⟩
def fX5_performAdapted_105 (z : Nat → Nat) (P : Nat → Option Nat → Int32 → aH → Option (Int32 × aH)) (a0 : Nat) (r3 : Option Nat) (r4 : Option Nat) (x7 : Int32) (h : aH) : Option (Int32 × aH) :=
  (if x7 = 0 then
  (r4).bind fun a101 =>
  (rdI h a101 [6] 1).bind fun x102 =>
  (r3).bind fun a103 =>
  (rdI h a103 [6] 1).bind fun x104 =>
  (obO h a0 4).bind fun fs106 =>
  (fX5_adaptGot z a0 x102 x104 h).bind fun q105 =>
  some (q105.1, q105.2)
  else
  some (x7, h))
set_option maxHeartbeats 4000000 in
set_option maxRecDepth 100000 in
theorem xX5_performAdapted_105 {l : Launch} {g : aG} {d : Nat} {P : Nat → Option Nat → Int32 → aH → Option (Int32 × aH)} {dP : Nat} (hP : ∀ (d9 : Nat), dP ≤ d9 → ∀ (a0 : Nat) (r1 : Option Nat) (x2 : Int32) (h : aH) (q : Int32 × aH), P a0 r1 x2 h = some q → Ev l g miX5_perform d9 [.inr (.inr (some a0)), .inr (.inr r1), .inl x2] h (some (.inl q.1), q.2)) (hK : dP + 2 ≤ d + 1) {a0 : Nat} {r3 : Option Nat} {r4 : Option Nat} {x7 : Int32} {h : aH} {q : Int32 × aH} (hf : fX5_performAdapted_105 g.2.2 P a0 r3 r4 x7 h = some q) : Y l g miX5_performAdapted (d + 1) 105 [some (.inr (.inr (some a0))), none, none, some (.inr (.inr r3)), some (.inr (.inr r4)), none, none, some (.inl x7), none] [] h (some (.inl q.1), q.2) := by
  unfold fX5_performAdapted_105 at hf
  refine y_iload (i := 7) dX5_performAdapted_105 rfl ?_
  refine y_if_ne (tgt := 126) dX5_performAdapted_107 (by decide) (fun hc => ?_) (fun hc => ?_)
  · rw [if_neg hc] at hf
    refine y_iload (i := 7) dX5_performAdapted_126 rfl ?_
    obtain rfl := Option.some.inj hf
    exact y_ret (v := some (.inl x7)) dX5_performAdapted_128 rfl
  · rw [if_pos hc] at hf
    refine y_aload_n (i := 0) dX5_performAdapted_110 rfl rfl ?_
    refine y_aload (i := 4) dX5_performAdapted_111 rfl ?_
    replace hf := bnd hf
    obtain ⟨a101, rfl, hf⟩ := hf
    replace hf := bnd hf
    obtain ⟨x102, ex102, hf⟩ := hf
    refine y_getI ex102 fl5_121 dX5_performAdapted_113 ?_
    refine y_aload_n (i := 3) dX5_performAdapted_116 rfl rfl ?_
    replace hf := bnd hf
    obtain ⟨a103, rfl, hf⟩ := hf
    replace hf := bnd hf
    obtain ⟨x104, ex104, hf⟩ := hf
    refine y_getI ex104 fl5_121 dX5_performAdapted_117 ?_
    replace hf := bnd hf
    obtain ⟨fs106, efs106, hf⟩ := hf
    replace hf := bnd hf
    obtain ⟨q105, eq105, hf⟩ := hf
    refine y_callV (mj := miX5_adaptGot) (args := [.inl x102, .inl x104]) (st := []) dX5_performAdapted_120 (gd_of 621 rfl rfl) (gd_of 623 rfl rfl) (gd_of 25 rfl rfl) okX5_adaptGot (obO_spec efs106) rfl rfl (xX5_adaptGot (by omega) eq105) (Nat.le_of_ble_eq_true rfl) rfl ?_
    show Y l g miX5_performAdapted (d + 1) 123 [some (.inr (.inr (some a0))), none, none, some (.inr (.inr (some a103))), some (.inr (.inr (some a101))), none, none, some (.inl x7), none] [.inl q105.1] q105.2 _
    refine y_goto (tgt := 128) dX5_performAdapted_123 (by decide) ?_
    obtain rfl := Option.some.inj hf
    exact y_ret (v := some (.inl q105.1)) dX5_performAdapted_128 rfl
def fX5_performAdapted_84 (z : Nat → Nat) (P : Nat → Option Nat → Int32 → aH → Option (Int32 × aH)) (a0 : Nat) (r1 : Option Nat) (x2 : Int32) (r3 : Option Nat) (r4 : Option Nat) (x7 : Int32) (h : aH) : Option (Int32 × aH) :=
  (if x7 = 0 then
  (r1).bind fun a101 =>
  (rdR h a101 [1] 3).bind fun r102 =>
  (r102).bind fun a103 =>
  (rdR h a103 [2] 1).bind fun r104 =>
  (obO h a0 4).bind fun fs106 =>
  (P a0 r104 (x2 + 1) h).bind fun q105 =>
  fX5_performAdapted_105 z P a0 r3 r4 q105.1 q105.2
  else
  fX5_performAdapted_105 z P a0 r3 r4 x7 h)
set_option maxHeartbeats 4000000 in
set_option maxRecDepth 100000 in
theorem xX5_performAdapted_84 {l : Launch} {g : aG} {d : Nat} {P : Nat → Option Nat → Int32 → aH → Option (Int32 × aH)} {dP : Nat} (hP : ∀ (d9 : Nat), dP ≤ d9 → ∀ (a0 : Nat) (r1 : Option Nat) (x2 : Int32) (h : aH) (q : Int32 × aH), P a0 r1 x2 h = some q → Ev l g miX5_perform d9 [.inr (.inr (some a0)), .inr (.inr r1), .inl x2] h (some (.inl q.1), q.2)) (hK : dP + 2 ≤ d + 1) {a0 : Nat} {r1 : Option Nat} {x2 : Int32} {r3 : Option Nat} {r4 : Option Nat} {x7 : Int32} {h : aH} {q : Int32 × aH} (hf : fX5_performAdapted_84 g.2.2 P a0 r1 x2 r3 r4 x7 h = some q) : Y l g miX5_performAdapted (d + 1) 84 [some (.inr (.inr (some a0))), some (.inr (.inr r1)), some (.inl x2), some (.inr (.inr r3)), some (.inr (.inr r4)), none, none, some (.inl x7), none] [] h (some (.inl q.1), q.2) := by
  unfold fX5_performAdapted_84 at hf
  refine y_iload (i := 7) dX5_performAdapted_84 rfl ?_
  refine y_if_ne (tgt := 105) dX5_performAdapted_86 (by decide) (fun hc => ?_) (fun hc => ?_)
  · rw [if_neg hc] at hf
    refine Y.weak (lv2 := [some (.inr (.inr (some a0))), none, none, some (.inr (.inr r3)), some (.inr (.inr r4)), none, none, some (.inl x7), none]) [true, false, false, true, true, false, false, true, false] rfl ?_
    exact xX5_performAdapted_105 hP hK hf
  · rw [if_pos hc] at hf
    refine y_aload_n (i := 0) dX5_performAdapted_89 rfl rfl ?_
    refine y_aload_n (i := 1) dX5_performAdapted_90 rfl rfl ?_
    replace hf := bnd hf
    obtain ⟨a101, rfl, hf⟩ := hf
    replace hf := bnd hf
    obtain ⟨r102, er102, hf⟩ := hf
    refine y_getR er102 fl5_168 dX5_performAdapted_91 ?_
    replace hf := bnd hf
    obtain ⟨a103, rfl, hf⟩ := hf
    replace hf := bnd hf
    obtain ⟨r104, er104, hf⟩ := hf
    refine y_getR er104 fl5_228 dX5_performAdapted_94 ?_
    refine y_iload_n (i := 2) dX5_performAdapted_97 rfl rfl ?_
    refine y_iconst (v := 1) dX5_performAdapted_98 (by decide) ?_
    refine y_iadd dX5_performAdapted_99 ?_
    replace hf := bnd hf
    obtain ⟨fs106, efs106, hf⟩ := hf
    replace hf := bnd hf
    obtain ⟨q105, eq105, hf⟩ := hf
    refine y_callV (mj := miX5_perform) (args := [.inr (.inr r104), .inl (x2 + 1)]) (st := []) dX5_performAdapted_100 (gd_of 542 rfl rfl) (gd_of 519 rfl rfl) (gd_of 520 rfl rfl) okX5_perform (obO_spec efs106) rfl rfl (hP _ (by omega) _ _ _ _ _ eq105) (Nat.le_of_ble_eq_true rfl) rfl ?_
    show Y l g miX5_performAdapted (d + 1) 103 [some (.inr (.inr (some a0))), some (.inr (.inr (some a101))), some (.inl x2), some (.inr (.inr r3)), some (.inr (.inr r4)), none, none, some (.inl x7), none] [.inl q105.1] q105.2 _
    refine y_istore (i := 7) (lv2 := [some (.inr (.inr (some a0))), some (.inr (.inr (some a101))), some (.inl x2), some (.inr (.inr r3)), some (.inr (.inr r4)), none, none, some (.inl q105.1), none]) dX5_performAdapted_103 (by decide) rfl ?_
    refine Y.weak (lv2 := [some (.inr (.inr (some a0))), none, none, some (.inr (.inr r3)), some (.inr (.inr r4)), none, none, some (.inl q105.1), none]) [true, false, false, true, true, false, false, true, false] rfl ?_
    exact xX5_performAdapted_105 hP hK hf
def fX5_performAdapted_38 (z : Nat → Nat) (P : Nat → Option Nat → Int32 → aH → Option (Int32 × aH)) : Nat → Nat → Option Nat → Int32 → Option Nat → Option Nat → Option Nat → Option Nat → Int32 → Int32 → aH → Option (Int32 × aH)
  | 0, _, _, _, _, _, _, _, _, _, _ => none
  | n + 1, a0, r1, x2, r3, r4, r5, r6, x7, x8, h => (r5).bind fun a102 =>
  (obO h a102 7).bind fun fs103 =>
  (fX9_count z a102 h).bind fun q101 =>
  (if q101.1 ≤ x8 then
  fX5_performAdapted_84 z P a0 r1 x2 r3 r4 x7 q101.2
  else
  (if x7 = 0 then
  (r3).bind fun a105 =>
  (obO q101.2 a105 6).bind fun fs106 =>
  (fX8_at z a105 x8 q101.2).bind fun q104 =>
  (r4).bind fun a108 =>
  (obO q104.2 a108 6).bind fun fs109 =>
  (fX8_at z a108 x8 q104.2).bind fun q107 =>
  (obO q107.2 a0 4).bind fun fs111 =>
  (fX5_addAdapted z a0 r6 (some a102) x8 q104.1 q107.1 q107.2).bind fun q110 =>
  fX5_performAdapted_38 z P n a0 r1 x2 (some a105) (some a108) (some a102) r6 q110.1 (x8 + 1) q110.2
  else
  fX5_performAdapted_84 z P a0 r1 x2 r3 r4 x7 q101.2))
set_option maxHeartbeats 4000000 in
set_option maxRecDepth 100000 in
theorem xX5_performAdapted_38 {l : Launch} {g : aG} {d : Nat} {P : Nat → Option Nat → Int32 → aH → Option (Int32 × aH)} {dP : Nat} (hP : ∀ (d9 : Nat), dP ≤ d9 → ∀ (a0 : Nat) (r1 : Option Nat) (x2 : Int32) (h : aH) (q : Int32 × aH), P a0 r1 x2 h = some q → Ev l g miX5_perform d9 [.inr (.inr (some a0)), .inr (.inr r1), .inl x2] h (some (.inl q.1), q.2)) (hK : dP + 2 ≤ d + 1) : ∀ (n : Nat) (a0 : Nat) (r1 : Option Nat) (x2 : Int32) (r3 : Option Nat) (r4 : Option Nat) (r5 : Option Nat) (r6 : Option Nat) (x7 : Int32) (x8 : Int32) (h : aH) (q : Int32 × aH), fX5_performAdapted_38 g.2.2 P n a0 r1 x2 r3 r4 r5 r6 x7 x8 h = some q → Y l g miX5_performAdapted (d + 1) 38 [some (.inr (.inr (some a0))), some (.inr (.inr r1)), some (.inl x2), some (.inr (.inr r3)), some (.inr (.inr r4)), some (.inr (.inr r5)), some (.inr (.inr r6)), some (.inl x7), some (.inl x8)] [] h (some (.inl q.1), q.2) := by
  intro n
  induction n with
  | zero => intro a0 r1 x2 r3 r4 r5 r6 x7 x8 h q hf; simp [fX5_performAdapted_38] at hf
  | succ n ih =>
    intro a0 r1 x2 r3 r4 r5 r6 x7 x8 h q hf
    rw [fX5_performAdapted_38] at hf
    refine y_iload (i := 8) dX5_performAdapted_38 rfl ?_
    refine y_aload (i := 5) dX5_performAdapted_40 rfl ?_
    replace hf := bnd hf
    obtain ⟨a102, rfl, hf⟩ := hf
    replace hf := bnd hf
    obtain ⟨fs103, efs103, hf⟩ := hf
    replace hf := bnd hf
    obtain ⟨q101, eq101, hf⟩ := hf
    refine y_callV (mj := miX9_count) (args := []) (st := [.inl x8]) dX5_performAdapted_42 (gd_of 499 rfl rfl) (gd_of 383 rfl rfl) (gd_of 384 rfl rfl) okX9_count (obO_spec efs103) rfl rfl (xX9_count (by omega) eq101) (Nat.le_of_ble_eq_true rfl) rfl ?_
    show Y l g miX5_performAdapted (d + 1) 45 [some (.inr (.inr (some a0))), some (.inr (.inr r1)), some (.inl x2), some (.inr (.inr r3)), some (.inr (.inr r4)), some (.inr (.inr (some a102))), some (.inr (.inr r6)), some (.inl x7), some (.inl x8)] [.inl q101.1, .inl x8] q101.2 _
    refine y_icmp_ge (tgt := 84) dX5_performAdapted_45 (by decide) (fun hc => ?_) (fun hc => ?_)
    · rw [if_pos hc] at hf
      refine Y.weak (lv2 := [some (.inr (.inr (some a0))), some (.inr (.inr r1)), some (.inl x2), some (.inr (.inr r3)), some (.inr (.inr r4)), none, none, some (.inl x7), none]) [true, true, true, true, true, false, false, true, false] rfl ?_
      exact xX5_performAdapted_84 hP hK hf
    · rw [if_neg hc] at hf
      refine y_iload (i := 7) dX5_performAdapted_48 rfl ?_
      refine y_if_ne (tgt := 84) dX5_performAdapted_50 (by decide) (fun hc => ?_) (fun hc => ?_)
      · rw [if_neg hc] at hf
        refine Y.weak (lv2 := [some (.inr (.inr (some a0))), some (.inr (.inr r1)), some (.inl x2), some (.inr (.inr r3)), some (.inr (.inr r4)), none, none, some (.inl x7), none]) [true, true, true, true, true, false, false, true, false] rfl ?_
        exact xX5_performAdapted_84 hP hK hf
      · rw [if_pos hc] at hf
        refine y_aload_n (i := 0) dX5_performAdapted_53 rfl rfl ?_
        refine y_aload (i := 6) dX5_performAdapted_54 rfl ?_
        refine y_aload (i := 5) dX5_performAdapted_56 rfl ?_
        refine y_iload (i := 8) dX5_performAdapted_58 rfl ?_
        refine y_aload_n (i := 3) dX5_performAdapted_60 rfl rfl ?_
        refine y_iload (i := 8) dX5_performAdapted_61 rfl ?_
        replace hf := bnd hf
        obtain ⟨a105, rfl, hf⟩ := hf
        replace hf := bnd hf
        obtain ⟨fs106, efs106, hf⟩ := hf
        replace hf := bnd hf
        obtain ⟨q104, eq104, hf⟩ := hf
        refine y_callV (mj := miX8_at) (args := [.inl x8]) (st := [.inl x8, .inr (.inr (some a102)), .inr (.inr r6), .inr (.inr (some a0))]) dX5_performAdapted_63 (gd_of 502 rfl rfl) (gd_of 340 rfl rfl) (gd_of 341 rfl rfl) okX8_at (obO_spec efs106) rfl rfl (xX8_at (by omega) eq104) (Nat.le_of_ble_eq_true rfl) rfl ?_
        show Y l g miX5_performAdapted (d + 1) 66 [some (.inr (.inr (some a0))), some (.inr (.inr r1)), some (.inl x2), some (.inr (.inr (some a105))), some (.inr (.inr r4)), some (.inr (.inr (some a102))), some (.inr (.inr r6)), some (.inl x7), some (.inl x8)] [.inl q104.1, .inl x8, .inr (.inr (some a102)), .inr (.inr r6), .inr (.inr (some a0))] q104.2 _
        refine y_aload (i := 4) dX5_performAdapted_66 rfl ?_
        refine y_iload (i := 8) dX5_performAdapted_68 rfl ?_
        replace hf := bnd hf
        obtain ⟨a108, rfl, hf⟩ := hf
        replace hf := bnd hf
        obtain ⟨fs109, efs109, hf⟩ := hf
        replace hf := bnd hf
        obtain ⟨q107, eq107, hf⟩ := hf
        refine y_callV (mj := miX8_at) (args := [.inl x8]) (st := [.inl q104.1, .inl x8, .inr (.inr (some a102)), .inr (.inr r6), .inr (.inr (some a0))]) dX5_performAdapted_70 (gd_of 502 rfl rfl) (gd_of 340 rfl rfl) (gd_of 341 rfl rfl) okX8_at (obO_spec efs109) rfl rfl (xX8_at (by omega) eq107) (Nat.le_of_ble_eq_true rfl) rfl ?_
        show Y l g miX5_performAdapted (d + 1) 73 [some (.inr (.inr (some a0))), some (.inr (.inr r1)), some (.inl x2), some (.inr (.inr (some a105))), some (.inr (.inr (some a108))), some (.inr (.inr (some a102))), some (.inr (.inr r6)), some (.inl x7), some (.inl x8)] [.inl q107.1, .inl q104.1, .inl x8, .inr (.inr (some a102)), .inr (.inr r6), .inr (.inr (some a0))] q107.2 _
        replace hf := bnd hf
        obtain ⟨fs111, efs111, hf⟩ := hf
        replace hf := bnd hf
        obtain ⟨q110, eq110, hf⟩ := hf
        refine y_callV (mj := miX5_addAdapted) (args := [.inr (.inr r6), .inr (.inr (some a102)), .inl x8, .inl q104.1, .inl q107.1]) (st := []) dX5_performAdapted_73 (gd_of 509 rfl rfl) (gd_of 511 rfl rfl) (gd_of 6 rfl rfl) okX5_addAdapted (obO_spec efs111) rfl rfl (xX5_addAdapted (by omega) eq110) (Nat.le_of_ble_eq_true rfl) rfl ?_
        show Y l g miX5_performAdapted (d + 1) 76 [some (.inr (.inr (some a0))), some (.inr (.inr r1)), some (.inl x2), some (.inr (.inr (some a105))), some (.inr (.inr (some a108))), some (.inr (.inr (some a102))), some (.inr (.inr r6)), some (.inl x7), some (.inl x8)] [.inl q110.1] q110.2 _
        refine y_istore (i := 7) (lv2 := [some (.inr (.inr (some a0))), some (.inr (.inr r1)), some (.inl x2), some (.inr (.inr (some a105))), some (.inr (.inr (some a108))), some (.inr (.inr (some a102))), some (.inr (.inr r6)), some (.inl q110.1), some (.inl x8)]) dX5_performAdapted_76 (by decide) rfl ?_
        refine y_iinc (i := 8) (y := 1) (lv2 := [some (.inr (.inr (some a0))), some (.inr (.inr r1)), some (.inl x2), some (.inr (.inr (some a105))), some (.inr (.inr (some a108))), some (.inr (.inr (some a102))), some (.inr (.inr r6)), some (.inl q110.1), some (.inl (x8 + 1))]) dX5_performAdapted_78 rfl (by decide) (by decide) rfl ?_
        refine y_goto (tgt := 38) dX5_performAdapted_81 (by decide) ?_
        refine Y.weak (lv2 := [some (.inr (.inr (some a0))), some (.inr (.inr r1)), some (.inl x2), some (.inr (.inr (some a105))), some (.inr (.inr (some a108))), some (.inr (.inr (some a102))), some (.inr (.inr r6)), some (.inl q110.1), some (.inl (x8 + 1))]) [true, true, true, true, true, true, true, true, true] rfl ?_
        exact ih _ _ _ _ _ _ _ _ _ _ _ hf
def fX5_performAdapted (z : Nat → Nat) (P : Nat → Option Nat → Int32 → aH → Option (Int32 × aH)) (a0 : Nat) (r1 : Option Nat) (x2 : Int32) (h : aH) : Option (Int32 × aH) :=
  (r1).bind fun a101 =>
  (rdR h a101 [1] 1).bind fun r102 =>
  (rdR h a101 [1] 3).bind fun r103 =>
  (r103).bind fun a104 =>
  (rdR h a104 [2] 1).bind fun r105 =>
  (r105).bind fun a106 =>
  (rdR h a106 [0, 1] 1).bind fun r107 =>
  (rdR h a0 [4] 1).bind fun r108 =>
  (r108).bind fun a109 =>
  (arR h a109 x2).bind fun r110 =>
  (obO h a0 4).bind fun fs112 =>
  (fX5_opened z a0 x2 h).bind fun q111 =>
  fX5_performAdapted_38 z P 4000 a0 (some a101) x2 r102 r107 r110 q111.1 0 0 q111.2
set_option maxHeartbeats 4000000 in
set_option maxRecDepth 100000 in
theorem xX5_performAdapted {l : Launch} {g : aG} {d : Nat} {P : Nat → Option Nat → Int32 → aH → Option (Int32 × aH)} {dP : Nat} (hP : ∀ (d9 : Nat), dP ≤ d9 → ∀ (a0 : Nat) (r1 : Option Nat) (x2 : Int32) (h : aH) (q : Int32 × aH), P a0 r1 x2 h = some q → Ev l g miX5_perform d9 [.inr (.inr (some a0)), .inr (.inr r1), .inl x2] h (some (.inl q.1), q.2)) (hK : dP + 2 ≤ d) {a0 : Nat} {r1 : Option Nat} {x2 : Int32} {h : aH} {q : Int32 × aH} (hf : fX5_performAdapted g.2.2 P a0 r1 x2 h = some q) : Ev l g miX5_performAdapted d [.inr (.inr (some a0)), .inr (.inr r1), .inl x2] h (some (.inl q.1), q.2) := by
  obtain ⟨d, rfl⟩ : ∃ e, d = e + 1 := ⟨d - 1, by omega⟩
  refine ⟨?_, Or.inl rfl, Nat.le_of_ble_eq_true rfl⟩
  unfold fX5_performAdapted at hf
  show Y l g miX5_performAdapted (d + 1) 0 [some (.inr (.inr (some a0))), some (.inr (.inr r1)), some (.inl x2), none, none, none, none, none, none] [] h _
  refine y_aload_n (i := 1) dX5_performAdapted_0 rfl rfl ?_
  replace hf := bnd hf
  obtain ⟨a101, rfl, hf⟩ := hf
  replace hf := bnd hf
  obtain ⟨r102, er102, hf⟩ := hf
  refine y_getR er102 fl5_258 dX5_performAdapted_1 ?_
  refine y_astore_n (i := 3) (lv2 := [some (.inr (.inr (some a0))), some (.inr (.inr (some a101))), some (.inl x2), some (.inr (.inr r102)), none, none, none, none, none]) dX5_performAdapted_4 rfl (by decide) rfl ?_
  refine y_aload_n (i := 1) dX5_performAdapted_5 rfl rfl ?_
  replace hf := bnd hf
  obtain ⟨r103, er103, hf⟩ := hf
  refine y_getR er103 fl5_168 dX5_performAdapted_6 ?_
  replace hf := bnd hf
  obtain ⟨a104, rfl, hf⟩ := hf
  replace hf := bnd hf
  obtain ⟨r105, er105, hf⟩ := hf
  refine y_getR er105 fl5_228 dX5_performAdapted_9 ?_
  replace hf := bnd hf
  obtain ⟨a106, rfl, hf⟩ := hf
  replace hf := bnd hf
  obtain ⟨r107, er107, hf⟩ := hf
  refine y_getR er107 fl5_117 dX5_performAdapted_12 ?_
  refine y_astore (i := 4) (lv2 := [some (.inr (.inr (some a0))), some (.inr (.inr (some a101))), some (.inl x2), some (.inr (.inr r102)), some (.inr (.inr r107)), none, none, none, none]) dX5_performAdapted_15 (by decide) rfl ?_
  refine y_aload_n (i := 0) dX5_performAdapted_17 rfl rfl ?_
  replace hf := bnd hf
  obtain ⟨r108, er108, hf⟩ := hf
  refine y_getR er108 fl5_11 dX5_performAdapted_18 ?_
  refine y_iload_n (i := 2) dX5_performAdapted_21 rfl rfl ?_
  replace hf := bnd hf
  obtain ⟨a109, rfl, hf⟩ := hf
  replace hf := bnd hf
  obtain ⟨r110, er110, hf⟩ := hf
  refine y_aaload er110 dX5_performAdapted_22 ?_
  refine y_astore (i := 5) (lv2 := [some (.inr (.inr (some a0))), some (.inr (.inr (some a101))), some (.inl x2), some (.inr (.inr r102)), some (.inr (.inr r107)), some (.inr (.inr r110)), none, none, none]) dX5_performAdapted_23 (by decide) rfl ?_
  refine y_aload_n (i := 0) dX5_performAdapted_25 rfl rfl ?_
  refine y_iload_n (i := 2) dX5_performAdapted_26 rfl rfl ?_
  replace hf := bnd hf
  obtain ⟨fs112, efs112, hf⟩ := hf
  replace hf := bnd hf
  obtain ⟨q111, eq111, hf⟩ := hf
  refine y_callV (mj := miX5_opened) (args := [.inl x2]) (st := []) dX5_performAdapted_27 (gd_of 531 rfl rfl) (gd_of 533 rfl rfl) (gd_of 9 rfl rfl) okX5_opened (obO_spec efs112) rfl rfl (xX5_opened (by omega) eq111) (Nat.le_of_ble_eq_true rfl) rfl ?_
  show Y l g miX5_performAdapted (d + 1) 30 [some (.inr (.inr (some a0))), some (.inr (.inr (some a101))), some (.inl x2), some (.inr (.inr r102)), some (.inr (.inr r107)), some (.inr (.inr r110)), none, none, none] [.inr (.inr q111.1)] q111.2 _
  refine y_astore (i := 6) (lv2 := [some (.inr (.inr (some a0))), some (.inr (.inr (some a101))), some (.inl x2), some (.inr (.inr r102)), some (.inr (.inr r107)), some (.inr (.inr r110)), some (.inr (.inr q111.1)), none, none]) dX5_performAdapted_30 (by decide) rfl ?_
  refine y_iconst (v := 0) dX5_performAdapted_32 (by decide) ?_
  refine y_istore (i := 7) (lv2 := [some (.inr (.inr (some a0))), some (.inr (.inr (some a101))), some (.inl x2), some (.inr (.inr r102)), some (.inr (.inr r107)), some (.inr (.inr r110)), some (.inr (.inr q111.1)), some (.inl 0), none]) dX5_performAdapted_33 (by decide) rfl ?_
  refine y_iconst (v := 0) dX5_performAdapted_35 (by decide) ?_
  refine y_istore (i := 8) (lv2 := [some (.inr (.inr (some a0))), some (.inr (.inr (some a101))), some (.inl x2), some (.inr (.inr r102)), some (.inr (.inr r107)), some (.inr (.inr r110)), some (.inr (.inr q111.1)), some (.inl 0), some (.inl 0)]) dX5_performAdapted_36 (by decide) rfl ?_
  refine Y.weak (lv2 := [some (.inr (.inr (some a0))), some (.inr (.inr (some a101))), some (.inl x2), some (.inr (.inr r102)), some (.inr (.inr r107)), some (.inr (.inr r110)), some (.inr (.inr q111.1)), some (.inl 0), some (.inl 0)]) [true, true, true, true, true, true, true, true, true] rfl ?_
  exact xX5_performAdapted_38 hP hK 4000 _ _ _ _ _ _ _ _ _ _ _ hf
set_option maxRecDepth 100000 in
theorem dX5_performBound_0 : decode prog_7_method_18_code 0 = .ok (.aload_n 1, 1) := by decide +kernel
set_option maxRecDepth 100000 in
theorem dX5_performBound_1 : decode prog_7_method_18_code 1 = .ok (.getfield 168, 3) := by decide +kernel
set_option maxRecDepth 100000 in
theorem dX5_performBound_4 : decode prog_7_method_18_code 4 = .ok (.getfield 217, 3) := by decide +kernel
set_option maxRecDepth 100000 in
theorem dX5_performBound_7 : decode prog_7_method_18_code 7 = .ok (.istore_n 3, 1) := by decide +kernel
set_option maxRecDepth 100000 in
theorem dX5_performBound_8 : decode prog_7_method_18_code 8 = .ok (.aload_n 0, 1) := by decide +kernel
set_option maxRecDepth 100000 in
theorem dX5_performBound_9 : decode prog_7_method_18_code 9 = .ok (.getfield 11, 3) := by decide +kernel
set_option maxRecDepth 100000 in
theorem dX5_performBound_12 : decode prog_7_method_18_code 12 = .ok (.iload_n 2, 1) := by decide +kernel
set_option maxRecDepth 100000 in
theorem dX5_performBound_13 : decode prog_7_method_18_code 13 = .ok (.aaload, 1) := by decide +kernel
set_option maxRecDepth 100000 in
theorem dX5_performBound_14 : decode prog_7_method_18_code 14 = .ok (.astore 4, 2) := by decide +kernel
set_option maxRecDepth 100000 in
theorem dX5_performBound_16 : decode prog_7_method_18_code 16 = .ok (.aload_n 0, 1) := by decide +kernel
set_option maxRecDepth 100000 in
theorem dX5_performBound_17 : decode prog_7_method_18_code 17 = .ok (.iload_n 2, 1) := by decide +kernel
set_option maxRecDepth 100000 in
theorem dX5_performBound_18 : decode prog_7_method_18_code 18 = .ok (.invokevirtual 94, 3) := by decide +kernel
set_option maxRecDepth 100000 in
theorem dX5_performBound_21 : decode prog_7_method_18_code 21 = .ok (.astore 5, 2) := by decide +kernel
set_option maxRecDepth 100000 in
theorem dX5_performBound_23 : decode prog_7_method_18_code 23 = .ok (.aload 5, 2) := by decide +kernel
set_option maxRecDepth 100000 in
theorem dX5_performBound_25 : decode prog_7_method_18_code 25 = .ok (.aload 4, 2) := by decide +kernel
set_option maxRecDepth 100000 in
theorem dX5_performBound_27 : decode prog_7_method_18_code 27 = .ok (.iconst 0, 1) := by decide +kernel
set_option maxRecDepth 100000 in
theorem dX5_performBound_28 : decode prog_7_method_18_code 28 = .ok (.iload_n 3, 1) := by decide +kernel
set_option maxRecDepth 100000 in
theorem dX5_performBound_29 : decode prog_7_method_18_code 29 = .ok (.invokevirtual 213, 3) := by decide +kernel
set_option maxRecDepth 100000 in
theorem dX5_performBound_32 : decode prog_7_method_18_code 32 = .ok (.aload 5, 2) := by decide +kernel
set_option maxRecDepth 100000 in
theorem dX5_performBound_34 : decode prog_7_method_18_code 34 = .ok (.aload_n 1, 1) := by decide +kernel
set_option maxRecDepth 100000 in
theorem dX5_performBound_35 : decode prog_7_method_18_code 35 = .ok (.getfield 222, 3) := by decide +kernel
set_option maxRecDepth 100000 in
theorem dX5_performBound_38 : decode prog_7_method_18_code 38 = .ok (.aload_n 1, 1) := by decide +kernel
set_option maxRecDepth 100000 in
theorem dX5_performBound_39 : decode prog_7_method_18_code 39 = .ok (.getfield 225, 3) := by decide +kernel
set_option maxRecDepth 100000 in
theorem dX5_performBound_42 : decode prog_7_method_18_code 42 = .ok (.invokevirtual 90, 3) := by decide +kernel
set_option maxRecDepth 100000 in
theorem dX5_performBound_45 : decode prog_7_method_18_code 45 = .ok (.aload 5, 2) := by decide +kernel
set_option maxRecDepth 100000 in
theorem dX5_performBound_47 : decode prog_7_method_18_code 47 = .ok (.aload 4, 2) := by decide +kernel
set_option maxRecDepth 100000 in
theorem dX5_performBound_49 : decode prog_7_method_18_code 49 = .ok (.iload_n 3, 1) := by decide +kernel
set_option maxRecDepth 100000 in
theorem dX5_performBound_50 : decode prog_7_method_18_code 50 = .ok (.aload 4, 2) := by decide +kernel
set_option maxRecDepth 100000 in
theorem dX5_performBound_52 : decode prog_7_method_18_code 52 = .ok (.invokevirtual 67, 3) := by decide +kernel
set_option maxRecDepth 100000 in
theorem dX5_performBound_55 : decode prog_7_method_18_code 55 = .ok (.invokevirtual 213, 3) := by decide +kernel
set_option maxRecDepth 100000 in
theorem dX5_performBound_58 : decode prog_7_method_18_code 58 = .ok (.aload_n 0, 1) := by decide +kernel
set_option maxRecDepth 100000 in
theorem dX5_performBound_59 : decode prog_7_method_18_code 59 = .ok (.aload_n 1, 1) := by decide +kernel
set_option maxRecDepth 100000 in
theorem dX5_performBound_60 : decode prog_7_method_18_code 60 = .ok (.getfield 168, 3) := by decide +kernel
set_option maxRecDepth 100000 in
theorem dX5_performBound_63 : decode prog_7_method_18_code 63 = .ok (.getfield 228, 3) := by decide +kernel
set_option maxRecDepth 100000 in
theorem dX5_performBound_66 : decode prog_7_method_18_code 66 = .ok (.iload_n 2, 1) := by decide +kernel
set_option maxRecDepth 100000 in
theorem dX5_performBound_67 : decode prog_7_method_18_code 67 = .ok (.iconst 1, 1) := by decide +kernel
set_option maxRecDepth 100000 in
theorem dX5_performBound_68 : decode prog_7_method_18_code 68 = .ok (.iadd, 1) := by decide +kernel
set_option maxRecDepth 100000 in
theorem dX5_performBound_69 : decode prog_7_method_18_code 69 = .ok (.invokevirtual 98, 3) := by decide +kernel
set_option maxRecDepth 100000 in
theorem dX5_performBound_72 : decode prog_7_method_18_code 72 = .ok (.ireturn, 1) := by decide +kernel
set_option maxRecDepth 100000 in
theorem fl5_217 : ∀ c ∈ ([2] : List Nat), FL "HandleModels$Runner" 217 c 4 := fun c hc => by
  cases List.mem_singleton.mp hc
  exact ⟨_, "HandleModels$Parts", rfl, by decide, (gd_of 293 rfl rfl), Or.inl rfl⟩
set_option maxRecDepth 100000 in
theorem fl5_222 : ∀ c ∈ ([1] : List Nat), FL "HandleModels$Runner" 222 c 4 := fun c hc => by
  cases List.mem_singleton.mp hc
  exact ⟨_, "HandleModels$Other", rfl, by decide, (gd_of 406 rfl rfl), Or.inl rfl⟩
set_option maxRecDepth 100000 in
theorem fl5_225 : ∀ c ∈ ([1] : List Nat), FL "HandleModels$Runner" 225 c 5 := fun c hc => by
  cases List.mem_singleton.mp hc
  exact ⟨_, "HandleModels$Other", rfl, by decide, (gd_of 408 rfl rfl), Or.inl rfl⟩
def fX5_performBound (z : Nat → Nat) (P : Nat → Option Nat → Int32 → aH → Option (Int32 × aH)) (a0 : Nat) (r1 : Option Nat) (x2 : Int32) (h : aH) : Option (Int32 × aH) :=
  (r1).bind fun a101 =>
  (rdR h a101 [1] 3).bind fun r102 =>
  (r102).bind fun a103 =>
  (rdI h a103 [2] 4).bind fun x104 =>
  (rdR h a0 [4] 1).bind fun r105 =>
  (r105).bind fun a106 =>
  (arR h a106 x2).bind fun r107 =>
  (obO h a0 4).bind fun fs109 =>
  (fX5_opened z a0 x2 h).bind fun q108 =>
  (q108.1).bind fun a111 =>
  (obO q108.2 a111 7).bind fun fs112 =>
  (fX9_addSome z a111 r107 0 x104 q108.2).bind fun q110 =>
  (rdI q110 a101 [1] 4).bind fun x113 =>
  (rdJ q110 a101 [1] 5).bind fun j114 =>
  (obO q110 a111 7).bind fun fs116 =>
  (fX9_add z a111 x113 j114 q110).bind fun q115 =>
  (r107).bind fun a118 =>
  (obO q115 a118 7).bind fun fs119 =>
  (fX9_count z a118 q115).bind fun q117 =>
  (obO q117.2 a111 7).bind fun fs121 =>
  (fX9_addSome z a111 (some a118) x104 q117.1 q117.2).bind fun q120 =>
  (rdR q120 a101 [1] 3).bind fun r122 =>
  (r122).bind fun a123 =>
  (rdR q120 a123 [2] 1).bind fun r124 =>
  (obO q120 a0 4).bind fun fs126 =>
  (P a0 r124 (x2 + 1) q120).bind fun q125 =>
  some (q125.1, q125.2)
set_option maxHeartbeats 4000000 in
set_option maxRecDepth 100000 in
theorem xX5_performBound {l : Launch} {g : aG} {d : Nat} {P : Nat → Option Nat → Int32 → aH → Option (Int32 × aH)} {dP : Nat} (hP : ∀ (d9 : Nat), dP ≤ d9 → ∀ (a0 : Nat) (r1 : Option Nat) (x2 : Int32) (h : aH) (q : Int32 × aH), P a0 r1 x2 h = some q → Ev l g miX5_perform d9 [.inr (.inr (some a0)), .inr (.inr r1), .inl x2] h (some (.inl q.1), q.2)) (hK : dP + 2 ≤ d) {a0 : Nat} {r1 : Option Nat} {x2 : Int32} {h : aH} {q : Int32 × aH} (hf : fX5_performBound g.2.2 P a0 r1 x2 h = some q) : Ev l g miX5_performBound d [.inr (.inr (some a0)), .inr (.inr r1), .inl x2] h (some (.inl q.1), q.2) := by
  obtain ⟨d, rfl⟩ : ∃ e, d = e + 1 := ⟨d - 1, by omega⟩
  refine ⟨?_, Or.inl rfl, Nat.le_of_ble_eq_true rfl⟩
  unfold fX5_performBound at hf
  show Y l g miX5_performBound (d + 1) 0 [some (.inr (.inr (some a0))), some (.inr (.inr r1)), some (.inl x2), none, none, none] [] h _
  refine y_aload_n (i := 1) dX5_performBound_0 rfl rfl ?_
  replace hf := bnd hf
  obtain ⟨a101, rfl, hf⟩ := hf
  replace hf := bnd hf
  obtain ⟨r102, er102, hf⟩ := hf
  refine y_getR er102 fl5_168 dX5_performBound_1 ?_
  replace hf := bnd hf
  obtain ⟨a103, rfl, hf⟩ := hf
  replace hf := bnd hf
  obtain ⟨x104, ex104, hf⟩ := hf
  refine y_getI ex104 fl5_217 dX5_performBound_4 ?_
  refine y_istore_n (i := 3) (lv2 := [some (.inr (.inr (some a0))), some (.inr (.inr (some a101))), some (.inl x2), some (.inl x104), none, none]) dX5_performBound_7 rfl (by decide) rfl ?_
  refine y_aload_n (i := 0) dX5_performBound_8 rfl rfl ?_
  replace hf := bnd hf
  obtain ⟨r105, er105, hf⟩ := hf
  refine y_getR er105 fl5_11 dX5_performBound_9 ?_
  refine y_iload_n (i := 2) dX5_performBound_12 rfl rfl ?_
  replace hf := bnd hf
  obtain ⟨a106, rfl, hf⟩ := hf
  replace hf := bnd hf
  obtain ⟨r107, er107, hf⟩ := hf
  refine y_aaload er107 dX5_performBound_13 ?_
  refine y_astore (i := 4) (lv2 := [some (.inr (.inr (some a0))), some (.inr (.inr (some a101))), some (.inl x2), some (.inl x104), some (.inr (.inr r107)), none]) dX5_performBound_14 (by decide) rfl ?_
  refine y_aload_n (i := 0) dX5_performBound_16 rfl rfl ?_
  refine y_iload_n (i := 2) dX5_performBound_17 rfl rfl ?_
  replace hf := bnd hf
  obtain ⟨fs109, efs109, hf⟩ := hf
  replace hf := bnd hf
  obtain ⟨q108, eq108, hf⟩ := hf
  refine y_callV (mj := miX5_opened) (args := [.inl x2]) (st := []) dX5_performBound_18 (gd_of 531 rfl rfl) (gd_of 533 rfl rfl) (gd_of 9 rfl rfl) okX5_opened (obO_spec efs109) rfl rfl (xX5_opened (by omega) eq108) (Nat.le_of_ble_eq_true rfl) rfl ?_
  show Y l g miX5_performBound (d + 1) 21 [some (.inr (.inr (some a0))), some (.inr (.inr (some a101))), some (.inl x2), some (.inl x104), some (.inr (.inr r107)), none] [.inr (.inr q108.1)] q108.2 _
  refine y_astore (i := 5) (lv2 := [some (.inr (.inr (some a0))), some (.inr (.inr (some a101))), some (.inl x2), some (.inl x104), some (.inr (.inr r107)), some (.inr (.inr q108.1))]) dX5_performBound_21 (by decide) rfl ?_
  refine y_aload (i := 5) dX5_performBound_23 rfl ?_
  refine y_aload (i := 4) dX5_performBound_25 rfl ?_
  refine y_iconst (v := 0) dX5_performBound_27 (by decide) ?_
  refine y_iload_n (i := 3) dX5_performBound_28 rfl rfl ?_
  replace hf := bnd hf
  obtain ⟨a111, ea111, hf⟩ := hf
  rw [ea111]
  replace hf := bnd hf
  obtain ⟨fs112, efs112, hf⟩ := hf
  replace hf := bnd hf
  obtain ⟨q110, eq110, hf⟩ := hf
  refine y_callV (mj := miX9_addSome) (args := [.inr (.inr r107), .inl 0, .inl x104]) (st := []) dX5_performBound_29 (gd_of 535 rfl rfl) (gd_of 536 rfl rfl) (gd_of 537 rfl rfl) okX9_addSome (obO_spec efs112) rfl rfl (xX9_addSome (by omega) eq110) (Nat.le_of_ble_eq_true rfl) rfl ?_
  show Y l g miX5_performBound (d + 1) 32 [some (.inr (.inr (some a0))), some (.inr (.inr (some a101))), some (.inl x2), some (.inl x104), some (.inr (.inr r107)), some (.inr (.inr (some a111)))] [] q110 _
  refine y_aload (i := 5) dX5_performBound_32 rfl ?_
  refine y_aload_n (i := 1) dX5_performBound_34 rfl rfl ?_
  replace hf := bnd hf
  obtain ⟨x113, ex113, hf⟩ := hf
  refine y_getI ex113 fl5_222 dX5_performBound_35 ?_
  refine y_aload_n (i := 1) dX5_performBound_38 rfl rfl ?_
  replace hf := bnd hf
  obtain ⟨j114, ej114, hf⟩ := hf
  refine y_getJ ej114 fl5_225 dX5_performBound_39 ?_
  replace hf := bnd hf
  obtain ⟨fs116, efs116, hf⟩ := hf
  replace hf := bnd hf
  obtain ⟨q115, eq115, hf⟩ := hf
  refine y_callV (mj := miX9_add) (args := [.inl x113, .inr (.inl j114)]) (st := []) dX5_performBound_42 (gd_of 517 rfl rfl) (gd_of 480 rfl rfl) (gd_of 481 rfl rfl) okX9_add (obO_spec efs116) rfl rfl (xX9_add (by omega) eq115) (Nat.le_of_ble_eq_true rfl) rfl ?_
  show Y l g miX5_performBound (d + 1) 45 [some (.inr (.inr (some a0))), some (.inr (.inr (some a101))), some (.inl x2), some (.inl x104), some (.inr (.inr r107)), some (.inr (.inr (some a111)))] [] q115 _
  refine y_aload (i := 5) dX5_performBound_45 rfl ?_
  refine y_aload (i := 4) dX5_performBound_47 rfl ?_
  refine y_iload_n (i := 3) dX5_performBound_49 rfl rfl ?_
  refine y_aload (i := 4) dX5_performBound_50 rfl ?_
  replace hf := bnd hf
  obtain ⟨a118, rfl, hf⟩ := hf
  replace hf := bnd hf
  obtain ⟨fs119, efs119, hf⟩ := hf
  replace hf := bnd hf
  obtain ⟨q117, eq117, hf⟩ := hf
  refine y_callV (mj := miX9_count) (args := []) (st := [.inl x104, .inr (.inr (some a118)), .inr (.inr (some a111))]) dX5_performBound_52 (gd_of 499 rfl rfl) (gd_of 383 rfl rfl) (gd_of 384 rfl rfl) okX9_count (obO_spec efs119) rfl rfl (xX9_count (by omega) eq117) (Nat.le_of_ble_eq_true rfl) rfl ?_
  show Y l g miX5_performBound (d + 1) 55 [some (.inr (.inr (some a0))), some (.inr (.inr (some a101))), some (.inl x2), some (.inl x104), some (.inr (.inr (some a118))), some (.inr (.inr (some a111)))] [.inl q117.1, .inl x104, .inr (.inr (some a118)), .inr (.inr (some a111))] q117.2 _
  replace hf := bnd hf
  obtain ⟨fs121, efs121, hf⟩ := hf
  replace hf := bnd hf
  obtain ⟨q120, eq120, hf⟩ := hf
  refine y_callV (mj := miX9_addSome) (args := [.inr (.inr (some a118)), .inl x104, .inl q117.1]) (st := []) dX5_performBound_55 (gd_of 535 rfl rfl) (gd_of 536 rfl rfl) (gd_of 537 rfl rfl) okX9_addSome (obO_spec efs121) rfl rfl (xX9_addSome (by omega) eq120) (Nat.le_of_ble_eq_true rfl) rfl ?_
  show Y l g miX5_performBound (d + 1) 58 [some (.inr (.inr (some a0))), some (.inr (.inr (some a101))), some (.inl x2), some (.inl x104), some (.inr (.inr (some a118))), some (.inr (.inr (some a111)))] [] q120 _
  refine y_aload_n (i := 0) dX5_performBound_58 rfl rfl ?_
  refine y_aload_n (i := 1) dX5_performBound_59 rfl rfl ?_
  replace hf := bnd hf
  obtain ⟨r122, er122, hf⟩ := hf
  refine y_getR er122 fl5_168 dX5_performBound_60 ?_
  replace hf := bnd hf
  obtain ⟨a123, rfl, hf⟩ := hf
  replace hf := bnd hf
  obtain ⟨r124, er124, hf⟩ := hf
  refine y_getR er124 fl5_228 dX5_performBound_63 ?_
  refine y_iload_n (i := 2) dX5_performBound_66 rfl rfl ?_
  refine y_iconst (v := 1) dX5_performBound_67 (by decide) ?_
  refine y_iadd dX5_performBound_68 ?_
  replace hf := bnd hf
  obtain ⟨fs126, efs126, hf⟩ := hf
  replace hf := bnd hf
  obtain ⟨q125, eq125, hf⟩ := hf
  refine y_callV (mj := miX5_perform) (args := [.inr (.inr r124), .inl (x2 + 1)]) (st := []) dX5_performBound_69 (gd_of 542 rfl rfl) (gd_of 519 rfl rfl) (gd_of 520 rfl rfl) okX5_perform (obO_spec efs126) rfl rfl (hP _ (by omega) _ _ _ _ _ eq125) (Nat.le_of_ble_eq_true rfl) rfl ?_
  show Y l g miX5_performBound (d + 1) 72 [some (.inr (.inr (some a0))), some (.inr (.inr (some a101))), some (.inl x2), some (.inl x104), some (.inr (.inr (some a118))), some (.inr (.inr (some a111)))] [.inl q125.1] q125.2 _
  obtain rfl := Option.some.inj hf
  exact y_ret (v := some (.inl q125.1)) dX5_performBound_72 rfl
set_option maxRecDepth 100000 in
theorem dX5_performCaught_0 : decode prog_7_method_25_code 0 = .ok (.aload_n 0, 1) := by decide +kernel
set_option maxRecDepth 100000 in
theorem dX5_performCaught_1 : decode prog_7_method_25_code 1 = .ok (.aload_n 0, 1) := by decide +kernel
set_option maxRecDepth 100000 in
theorem dX5_performCaught_2 : decode prog_7_method_25_code 2 = .ok (.getfield 11, 3) := by decide +kernel
set_option maxRecDepth 100000 in
theorem dX5_performCaught_5 : decode prog_7_method_25_code 5 = .ok (.iload_n 2, 1) := by decide +kernel
set_option maxRecDepth 100000 in
theorem dX5_performCaught_6 : decode prog_7_method_25_code 6 = .ok (.aaload, 1) := by decide +kernel
set_option maxRecDepth 100000 in
theorem dX5_performCaught_7 : decode prog_7_method_25_code 7 = .ok (.invokevirtual 67, 3) := by decide +kernel
set_option maxRecDepth 100000 in
theorem dX5_performCaught_10 : decode prog_7_method_25_code 10 = .ok (.iload_n 2, 1) := by decide +kernel
set_option maxRecDepth 100000 in
theorem dX5_performCaught_11 : decode prog_7_method_25_code 11 = .ok (.invokevirtual 240, 3) := by decide +kernel
set_option maxRecDepth 100000 in
theorem dX5_performCaught_14 : decode prog_7_method_25_code 14 = .ok (.aload_n 0, 1) := by decide +kernel
set_option maxRecDepth 100000 in
theorem dX5_performCaught_15 : decode prog_7_method_25_code 15 = .ok (.aload_n 1, 1) := by decide +kernel
set_option maxRecDepth 100000 in
theorem dX5_performCaught_16 : decode prog_7_method_25_code 16 = .ok (.getfield 228, 3) := by decide +kernel
set_option maxRecDepth 100000 in
theorem dX5_performCaught_19 : decode prog_7_method_25_code 19 = .ok (.iload_n 2, 1) := by decide +kernel
set_option maxRecDepth 100000 in
theorem dX5_performCaught_20 : decode prog_7_method_25_code 20 = .ok (.iconst 1, 1) := by decide +kernel
set_option maxRecDepth 100000 in
theorem dX5_performCaught_21 : decode prog_7_method_25_code 21 = .ok (.iadd, 1) := by decide +kernel
set_option maxRecDepth 100000 in
theorem dX5_performCaught_22 : decode prog_7_method_25_code 22 = .ok (.invokevirtual 98, 3) := by decide +kernel
set_option maxRecDepth 100000 in
theorem dX5_performCaught_25 : decode prog_7_method_25_code 25 = .ok (.istore_n 3, 1) := by decide +kernel
set_option maxRecDepth 100000 in
theorem dX5_performCaught_26 : decode prog_7_method_25_code 26 = .ok (.iload_n 3, 1) := by decide +kernel
set_option maxRecDepth 100000 in
theorem dX5_performCaught_27 : decode prog_7_method_25_code 27 = .ok (.aload_n 1, 1) := by decide +kernel
set_option maxRecDepth 100000 in
theorem dX5_performCaught_28 : decode prog_7_method_25_code 28 = .ok (.getfield 217, 3) := by decide +kernel
set_option maxRecDepth 100000 in
theorem dX5_performCaught_31 : decode prog_7_method_25_code 31 = .ok (.invokestatic 247, 3) := by decide +kernel
set_option maxRecDepth 100000 in
theorem dX5_performCaught_34 : decode prog_7_method_25_code 34 = .ok (.ifCond .ne 5, 3) := by decide +kernel
set_option maxRecDepth 100000 in
theorem dX5_performCaught_37 : decode prog_7_method_25_code 37 = .ok (.iload_n 3, 1) := by decide +kernel
set_option maxRecDepth 100000 in
theorem dX5_performCaught_38 : decode prog_7_method_25_code 38 = .ok (.ireturn, 1) := by decide +kernel
set_option maxRecDepth 100000 in
theorem dX5_performCaught_39 : decode prog_7_method_25_code 39 = .ok (.aload_n 0, 1) := by decide +kernel
set_option maxRecDepth 100000 in
theorem dX5_performCaught_40 : decode prog_7_method_25_code 40 = .ok (.iload_n 3, 1) := by decide +kernel
set_option maxRecDepth 100000 in
theorem dX5_performCaught_41 : decode prog_7_method_25_code 41 = .ok (.iload_n 2, 1) := by decide +kernel
set_option maxRecDepth 100000 in
theorem dX5_performCaught_42 : decode prog_7_method_25_code 42 = .ok (.invokevirtual 250, 3) := by decide +kernel
set_option maxRecDepth 100000 in
theorem dX5_performCaught_45 : decode prog_7_method_25_code 45 = .ok (.aload_n 0, 1) := by decide +kernel
set_option maxRecDepth 100000 in
theorem dX5_performCaught_46 : decode prog_7_method_25_code 46 = .ok (.aload_n 1, 1) := by decide +kernel
set_option maxRecDepth 100000 in
theorem dX5_performCaught_47 : decode prog_7_method_25_code 47 = .ok (.getfield 237, 3) := by decide +kernel
set_option maxRecDepth 100000 in
theorem dX5_performCaught_50 : decode prog_7_method_25_code 50 = .ok (.iload_n 2, 1) := by decide +kernel
set_option maxRecDepth 100000 in
theorem dX5_performCaught_51 : decode prog_7_method_25_code 51 = .ok (.iconst 1, 1) := by decide +kernel
set_option maxRecDepth 100000 in
theorem dX5_performCaught_52 : decode prog_7_method_25_code 52 = .ok (.iadd, 1) := by decide +kernel
set_option maxRecDepth 100000 in
theorem dX5_performCaught_53 : decode prog_7_method_25_code 53 = .ok (.invokevirtual 98, 3) := by decide +kernel
set_option maxRecDepth 100000 in
theorem dX5_performCaught_56 : decode prog_7_method_25_code 56 = .ok (.ireturn, 1) := by decide +kernel
set_option maxRecDepth 100000 in
theorem okX5_passFirst : mOk miX5_passFirst 2 := ⟨(gd_of 559 rfl rfl), (gd_of 75 rfl rfl), by decide +kernel, ⟨by decide +kernel, by decide +kernel, by decide +kernel⟩, by decide⟩
set_option maxRecDepth 100000 in
theorem okX5_isCaught : mOk miX5_isCaught 2 := ⟨(gd_of 578 rfl rfl), (gd_of 75 rfl rfl), by decide +kernel, ⟨by decide +kernel, by decide +kernel, by decide +kernel⟩, by decide⟩
set_option maxRecDepth 100000 in
theorem okX5_passBehind : mOk miX5_passBehind 2 := ⟨(gd_of 582 rfl rfl), (gd_of 75 rfl rfl), by decide +kernel, ⟨by decide +kernel, by decide +kernel, by decide +kernel⟩, by decide⟩
set_option maxRecDepth 100000 in
theorem fl5_237 : ∀ c ∈ ([2] : List Nat), FL "HandleModels$Runner" 237 c 2 := fun c hc => by
  cases List.mem_singleton.mp hc
  exact ⟨_, "HandleModels$Parts", rfl, by decide, (gd_of 287 rfl rfl), Or.inl rfl⟩
def fX5_performCaught (z : Nat → Nat) (P : Nat → Option Nat → Int32 → aH → Option (Int32 × aH)) (a0 : Nat) (r1 : Option Nat) (x2 : Int32) (h : aH) : Option (Int32 × aH) :=
  (rdR h a0 [4] 1).bind fun r101 =>
  (r101).bind fun a102 =>
  (arR h a102 x2).bind fun r103 =>
  (r103).bind fun a105 =>
  (obO h a105 7).bind fun fs106 =>
  (fX9_count z a105 h).bind fun q104 =>
  (obO q104.2 a0 4).bind fun fs108 =>
  (fX5_passFirst z a0 q104.1 x2 q104.2).bind fun q107 =>
  (r1).bind fun a109 =>
  (rdR q107 a109 [2] 1).bind fun r110 =>
  (obO q107 a0 4).bind fun fs112 =>
  (P a0 r110 (x2 + 1) q107).bind fun q111 =>
  (rdI q111.2 a109 [2] 4).bind fun x113 =>
  (fX5_isCaught z q111.1 x113 q111.2).bind fun q114 =>
  (if q114.1 = 0 then
  some (q111.1, q114.2)
  else
  (obO q114.2 a0 4).bind fun fs116 =>
  (fX5_passBehind z a0 q111.1 x2 q114.2).bind fun q115 =>
  (rdR q115 a109 [2] 2).bind fun r117 =>
  (obO q115 a0 4).bind fun fs119 =>
  (P a0 r117 (x2 + 1) q115).bind fun q118 =>
  some (q118.1, q118.2))
set_option maxHeartbeats 4000000 in
set_option maxRecDepth 100000 in
theorem xX5_performCaught {l : Launch} {g : aG} {d : Nat} {P : Nat → Option Nat → Int32 → aH → Option (Int32 × aH)} {dP : Nat} (hP : ∀ (d9 : Nat), dP ≤ d9 → ∀ (a0 : Nat) (r1 : Option Nat) (x2 : Int32) (h : aH) (q : Int32 × aH), P a0 r1 x2 h = some q → Ev l g miX5_perform d9 [.inr (.inr (some a0)), .inr (.inr r1), .inl x2] h (some (.inl q.1), q.2)) (hK : dP + 3 ≤ d) {a0 : Nat} {r1 : Option Nat} {x2 : Int32} {h : aH} {q : Int32 × aH} (hf : fX5_performCaught g.2.2 P a0 r1 x2 h = some q) : Ev l g miX5_performCaught d [.inr (.inr (some a0)), .inr (.inr r1), .inl x2] h (some (.inl q.1), q.2) := by
  obtain ⟨d, rfl⟩ : ∃ e, d = e + 1 := ⟨d - 1, by omega⟩
  refine ⟨?_, Or.inl rfl, Nat.le_of_ble_eq_true rfl⟩
  unfold fX5_performCaught at hf
  show Y l g miX5_performCaught (d + 1) 0 [some (.inr (.inr (some a0))), some (.inr (.inr r1)), some (.inl x2), none] [] h _
  refine y_aload_n (i := 0) dX5_performCaught_0 rfl rfl ?_
  refine y_aload_n (i := 0) dX5_performCaught_1 rfl rfl ?_
  replace hf := bnd hf
  obtain ⟨r101, er101, hf⟩ := hf
  refine y_getR er101 fl5_11 dX5_performCaught_2 ?_
  refine y_iload_n (i := 2) dX5_performCaught_5 rfl rfl ?_
  replace hf := bnd hf
  obtain ⟨a102, rfl, hf⟩ := hf
  replace hf := bnd hf
  obtain ⟨r103, er103, hf⟩ := hf
  refine y_aaload er103 dX5_performCaught_6 ?_
  replace hf := bnd hf
  obtain ⟨a105, rfl, hf⟩ := hf
  replace hf := bnd hf
  obtain ⟨fs106, efs106, hf⟩ := hf
  replace hf := bnd hf
  obtain ⟨q104, eq104, hf⟩ := hf
  refine y_callV (mj := miX9_count) (args := []) (st := [.inr (.inr (some a0))]) dX5_performCaught_7 (gd_of 499 rfl rfl) (gd_of 383 rfl rfl) (gd_of 384 rfl rfl) okX9_count (obO_spec efs106) rfl rfl (xX9_count (by omega) eq104) (Nat.le_of_ble_eq_true rfl) rfl ?_
  show Y l g miX5_performCaught (d + 1) 10 [some (.inr (.inr (some a0))), some (.inr (.inr r1)), some (.inl x2), none] [.inl q104.1, .inr (.inr (some a0))] q104.2 _
  refine y_iload_n (i := 2) dX5_performCaught_10 rfl rfl ?_
  replace hf := bnd hf
  obtain ⟨fs108, efs108, hf⟩ := hf
  replace hf := bnd hf
  obtain ⟨q107, eq107, hf⟩ := hf
  refine y_callV (mj := miX5_passFirst) (args := [.inl q104.1, .inl x2]) (st := []) dX5_performCaught_11 (gd_of 556 rfl rfl) (gd_of 558 rfl rfl) (gd_of 13 rfl rfl) okX5_passFirst (obO_spec efs108) rfl rfl (xX5_passFirst (by omega) eq107) (Nat.le_of_ble_eq_true rfl) rfl ?_
  show Y l g miX5_performCaught (d + 1) 14 [some (.inr (.inr (some a0))), some (.inr (.inr r1)), some (.inl x2), none] [] q107 _
  refine y_aload_n (i := 0) dX5_performCaught_14 rfl rfl ?_
  refine y_aload_n (i := 1) dX5_performCaught_15 rfl rfl ?_
  replace hf := bnd hf
  obtain ⟨a109, rfl, hf⟩ := hf
  replace hf := bnd hf
  obtain ⟨r110, er110, hf⟩ := hf
  refine y_getR er110 fl5_228 dX5_performCaught_16 ?_
  refine y_iload_n (i := 2) dX5_performCaught_19 rfl rfl ?_
  refine y_iconst (v := 1) dX5_performCaught_20 (by decide) ?_
  refine y_iadd dX5_performCaught_21 ?_
  replace hf := bnd hf
  obtain ⟨fs112, efs112, hf⟩ := hf
  replace hf := bnd hf
  obtain ⟨q111, eq111, hf⟩ := hf
  refine y_callV (mj := miX5_perform) (args := [.inr (.inr r110), .inl (x2 + 1)]) (st := []) dX5_performCaught_22 (gd_of 542 rfl rfl) (gd_of 519 rfl rfl) (gd_of 520 rfl rfl) okX5_perform (obO_spec efs112) rfl rfl (hP _ (by omega) _ _ _ _ _ eq111) (Nat.le_of_ble_eq_true rfl) rfl ?_
  show Y l g miX5_performCaught (d + 1) 25 [some (.inr (.inr (some a0))), some (.inr (.inr (some a109))), some (.inl x2), none] [.inl q111.1] q111.2 _
  refine y_istore_n (i := 3) (lv2 := [some (.inr (.inr (some a0))), some (.inr (.inr (some a109))), some (.inl x2), some (.inl q111.1)]) dX5_performCaught_25 rfl (by decide) rfl ?_
  refine y_iload_n (i := 3) dX5_performCaught_26 rfl rfl ?_
  refine y_aload_n (i := 1) dX5_performCaught_27 rfl rfl ?_
  replace hf := bnd hf
  obtain ⟨x113, ex113, hf⟩ := hf
  refine y_getI ex113 fl5_217 dX5_performCaught_28 ?_
  replace hf := bnd hf
  obtain ⟨q114, eq114, hf⟩ := hf
  refine y_callS (mj := miX5_isCaught) (args := [.inl q111.1, .inl x113]) (st := []) dX5_performCaught_31 (gd_of 576 rfl rfl) (gd_of 577 rfl rfl) okX5_isCaught (xX5_isCaught (by omega) eq114) (Nat.le_of_ble_eq_true rfl) rfl ?_
  show Y l g miX5_performCaught (d + 1) 34 [some (.inr (.inr (some a0))), some (.inr (.inr (some a109))), some (.inl x2), some (.inl q111.1)] [.inl q114.1] q114.2 _
  refine y_if_ne (tgt := 39) dX5_performCaught_34 (by decide) (fun hc => ?_) (fun hc => ?_)
  · rw [if_neg hc] at hf
    refine y_aload_n (i := 0) dX5_performCaught_39 rfl rfl ?_
    refine y_iload_n (i := 3) dX5_performCaught_40 rfl rfl ?_
    refine y_iload_n (i := 2) dX5_performCaught_41 rfl rfl ?_
    replace hf := bnd hf
    obtain ⟨fs116, efs116, hf⟩ := hf
    replace hf := bnd hf
    obtain ⟨q115, eq115, hf⟩ := hf
    refine y_callV (mj := miX5_passBehind) (args := [.inl q111.1, .inl x2]) (st := []) dX5_performCaught_42 (gd_of 579 rfl rfl) (gd_of 581 rfl rfl) (gd_of 18 rfl rfl) okX5_passBehind (obO_spec efs116) rfl rfl (xX5_passBehind (by omega) eq115) (Nat.le_of_ble_eq_true rfl) rfl ?_
    show Y l g miX5_performCaught (d + 1) 45 [some (.inr (.inr (some a0))), some (.inr (.inr (some a109))), some (.inl x2), some (.inl q111.1)] [] q115 _
    refine y_aload_n (i := 0) dX5_performCaught_45 rfl rfl ?_
    refine y_aload_n (i := 1) dX5_performCaught_46 rfl rfl ?_
    replace hf := bnd hf
    obtain ⟨r117, er117, hf⟩ := hf
    refine y_getR er117 fl5_237 dX5_performCaught_47 ?_
    refine y_iload_n (i := 2) dX5_performCaught_50 rfl rfl ?_
    refine y_iconst (v := 1) dX5_performCaught_51 (by decide) ?_
    refine y_iadd dX5_performCaught_52 ?_
    replace hf := bnd hf
    obtain ⟨fs119, efs119, hf⟩ := hf
    replace hf := bnd hf
    obtain ⟨q118, eq118, hf⟩ := hf
    refine y_callV (mj := miX5_perform) (args := [.inr (.inr r117), .inl (x2 + 1)]) (st := []) dX5_performCaught_53 (gd_of 542 rfl rfl) (gd_of 519 rfl rfl) (gd_of 520 rfl rfl) okX5_perform (obO_spec efs119) rfl rfl (hP _ (by omega) _ _ _ _ _ eq118) (Nat.le_of_ble_eq_true rfl) rfl ?_
    show Y l g miX5_performCaught (d + 1) 56 [some (.inr (.inr (some a0))), some (.inr (.inr (some a109))), some (.inl x2), some (.inl q111.1)] [.inl q118.1] q118.2 _
    obtain rfl := Option.some.inj hf
    exact y_ret (v := some (.inl q118.1)) dX5_performCaught_56 rfl
  · rw [if_pos hc] at hf
    refine y_iload_n (i := 3) dX5_performCaught_37 rfl rfl ?_
    obtain rfl := Option.some.inj hf
    exact y_ret (v := some (.inl q111.1)) dX5_performCaught_38 rfl
set_option maxRecDepth 100000 in
theorem dX5_performChosen_0 : decode prog_7_method_24_code 0 = .ok (.aload_n 0, 1) := by decide +kernel
set_option maxRecDepth 100000 in
theorem dX5_performChosen_1 : decode prog_7_method_24_code 1 = .ok (.aload_n 1, 1) := by decide +kernel
set_option maxRecDepth 100000 in
theorem dX5_performChosen_2 : decode prog_7_method_24_code 2 = .ok (.getfield 228, 3) := by decide +kernel
set_option maxRecDepth 100000 in
theorem dX5_performChosen_5 : decode prog_7_method_24_code 5 = .ok (.getfield 117, 3) := by decide +kernel
set_option maxRecDepth 100000 in
theorem dX5_performChosen_8 : decode prog_7_method_24_code 8 = .ok (.invokevirtual 44, 3) := by decide +kernel
set_option maxRecDepth 100000 in
theorem dX5_performChosen_11 : decode prog_7_method_24_code 11 = .ok (.iload_n 2, 1) := by decide +kernel
set_option maxRecDepth 100000 in
theorem dX5_performChosen_12 : decode prog_7_method_24_code 12 = .ok (.invokevirtual 240, 3) := by decide +kernel
set_option maxRecDepth 100000 in
theorem dX5_performChosen_15 : decode prog_7_method_24_code 15 = .ok (.aload_n 0, 1) := by decide +kernel
set_option maxRecDepth 100000 in
theorem dX5_performChosen_16 : decode prog_7_method_24_code 16 = .ok (.aload_n 1, 1) := by decide +kernel
set_option maxRecDepth 100000 in
theorem dX5_performChosen_17 : decode prog_7_method_24_code 17 = .ok (.getfield 228, 3) := by decide +kernel
set_option maxRecDepth 100000 in
theorem dX5_performChosen_20 : decode prog_7_method_24_code 20 = .ok (.iload_n 2, 1) := by decide +kernel
set_option maxRecDepth 100000 in
theorem dX5_performChosen_21 : decode prog_7_method_24_code 21 = .ok (.iconst 1, 1) := by decide +kernel
set_option maxRecDepth 100000 in
theorem dX5_performChosen_22 : decode prog_7_method_24_code 22 = .ok (.iadd, 1) := by decide +kernel
set_option maxRecDepth 100000 in
theorem dX5_performChosen_23 : decode prog_7_method_24_code 23 = .ok (.invokevirtual 98, 3) := by decide +kernel
set_option maxRecDepth 100000 in
theorem dX5_performChosen_26 : decode prog_7_method_24_code 26 = .ok (.istore_n 3, 1) := by decide +kernel
set_option maxRecDepth 100000 in
theorem dX5_performChosen_27 : decode prog_7_method_24_code 27 = .ok (.iload_n 3, 1) := by decide +kernel
set_option maxRecDepth 100000 in
theorem dX5_performChosen_28 : decode prog_7_method_24_code 28 = .ok (.ifCond .eq 5, 3) := by decide +kernel
set_option maxRecDepth 100000 in
theorem dX5_performChosen_31 : decode prog_7_method_24_code 31 = .ok (.iload_n 3, 1) := by decide +kernel
set_option maxRecDepth 100000 in
theorem dX5_performChosen_32 : decode prog_7_method_24_code 32 = .ok (.ireturn, 1) := by decide +kernel
set_option maxRecDepth 100000 in
theorem dX5_performChosen_33 : decode prog_7_method_24_code 33 = .ok (.aload_n 0, 1) := by decide +kernel
set_option maxRecDepth 100000 in
theorem dX5_performChosen_34 : decode prog_7_method_24_code 34 = .ok (.aload_n 0, 1) := by decide +kernel
set_option maxRecDepth 100000 in
theorem dX5_performChosen_35 : decode prog_7_method_24_code 35 = .ok (.getfield 11, 3) := by decide +kernel
set_option maxRecDepth 100000 in
theorem dX5_performChosen_38 : decode prog_7_method_24_code 38 = .ok (.iload_n 2, 1) := by decide +kernel
set_option maxRecDepth 100000 in
theorem dX5_performChosen_39 : decode prog_7_method_24_code 39 = .ok (.aaload, 1) := by decide +kernel
set_option maxRecDepth 100000 in
theorem dX5_performChosen_40 : decode prog_7_method_24_code 40 = .ok (.invokevirtual 67, 3) := by decide +kernel
set_option maxRecDepth 100000 in
theorem dX5_performChosen_43 : decode prog_7_method_24_code 43 = .ok (.iload_n 2, 1) := by decide +kernel
set_option maxRecDepth 100000 in
theorem dX5_performChosen_44 : decode prog_7_method_24_code 44 = .ok (.invokevirtual 240, 3) := by decide +kernel
set_option maxRecDepth 100000 in
theorem dX5_performChosen_47 : decode prog_7_method_24_code 47 = .ok (.aload_n 0, 1) := by decide +kernel
set_option maxRecDepth 100000 in
theorem dX5_performChosen_48 : decode prog_7_method_24_code 48 = .ok (.aload_n 0, 1) := by decide +kernel
set_option maxRecDepth 100000 in
theorem dX5_performChosen_49 : decode prog_7_method_24_code 49 = .ok (.getfield 27, 3) := by decide +kernel
set_option maxRecDepth 100000 in
theorem dX5_performChosen_52 : decode prog_7_method_24_code 52 = .ok (.lconst 0, 1) := by decide +kernel
set_option maxRecDepth 100000 in
theorem dX5_performChosen_53 : decode prog_7_method_24_code 53 = .ok (.lcmp, 1) := by decide +kernel
set_option maxRecDepth 100000 in
theorem dX5_performChosen_54 : decode prog_7_method_24_code 54 = .ok (.ifCond .eq 10, 3) := by decide +kernel
set_option maxRecDepth 100000 in
theorem dX5_performChosen_57 : decode prog_7_method_24_code 57 = .ok (.aload_n 1, 1) := by decide +kernel
set_option maxRecDepth 100000 in
theorem dX5_performChosen_58 : decode prog_7_method_24_code 58 = .ok (.getfield 237, 3) := by decide +kernel
set_option maxRecDepth 100000 in
theorem dX5_performChosen_61 : decode prog_7_method_24_code 61 = .ok (.goto 7, 3) := by decide +kernel
set_option maxRecDepth 100000 in
theorem dX5_performChosen_64 : decode prog_7_method_24_code 64 = .ok (.aload_n 1, 1) := by decide +kernel
set_option maxRecDepth 100000 in
theorem dX5_performChosen_65 : decode prog_7_method_24_code 65 = .ok (.getfield 244, 3) := by decide +kernel
set_option maxRecDepth 100000 in
theorem dX5_performChosen_68 : decode prog_7_method_24_code 68 = .ok (.iload_n 2, 1) := by decide +kernel
set_option maxRecDepth 100000 in
theorem dX5_performChosen_69 : decode prog_7_method_24_code 69 = .ok (.iconst 1, 1) := by decide +kernel
set_option maxRecDepth 100000 in
theorem dX5_performChosen_70 : decode prog_7_method_24_code 70 = .ok (.iadd, 1) := by decide +kernel
set_option maxRecDepth 100000 in
theorem dX5_performChosen_71 : decode prog_7_method_24_code 71 = .ok (.invokevirtual 98, 3) := by decide +kernel
set_option maxRecDepth 100000 in
theorem dX5_performChosen_74 : decode prog_7_method_24_code 74 = .ok (.ireturn, 1) := by decide +kernel
set_option maxRecDepth 100000 in
theorem fl5_244 : ∀ c ∈ ([2] : List Nat), FL "HandleModels$Runner" 244 c 3 := fun c hc => by
  cases List.mem_singleton.mp hc
  exact ⟨_, "HandleModels$Parts", rfl, by decide, (gd_of 290 rfl rfl), Or.inl rfl⟩
def fX5_performChosen (z : Nat → Nat) (P : Nat → Option Nat → Int32 → aH → Option (Int32 × aH)) (a0 : Nat) (r1 : Option Nat) (x2 : Int32) (h : aH) : Option (Int32 × aH) :=
  (r1).bind fun a101 =>
  (rdR h a101 [2] 1).bind fun r102 =>
  (r102).bind fun a103 =>
  (rdR h a103 [0, 1] 1).bind fun r104 =>
  (r104).bind fun a106 =>
  (obO h a106 6).bind fun fs107 =>
  (fX8_count z a106 h).bind fun q105 =>
  (obO q105.2 a0 4).bind fun fs109 =>
  (fX5_passFirst z a0 q105.1 x2 q105.2).bind fun q108 =>
  (rdR q108 a101 [2] 1).bind fun r110 =>
  (obO q108 a0 4).bind fun fs112 =>
  (P a0 r110 (x2 + 1) q108).bind fun q111 =>
  (if q111.1 = 0 then
  (rdR q111.2 a0 [4] 1).bind fun r113 =>
  (r113).bind fun a114 =>
  (arR q111.2 a114 x2).bind fun r115 =>
  (r115).bind fun a117 =>
  (obO q111.2 a117 7).bind fun fs118 =>
  (fX9_count z a117 q111.2).bind fun q116 =>
  (obO q116.2 a0 4).bind fun fs120 =>
  (fX5_passFirst z a0 q116.1 x2 q116.2).bind fun q119 =>
  (rdJ q119 a0 [4] 5).bind fun j121 =>
  (if (lg_cmp j121 0) = 0 then
  (rdR q119 a101 [2] 3).bind fun r122 =>
  (obO q119 a0 4).bind fun fs124 =>
  (P a0 r122 (x2 + 1) q119).bind fun q123 =>
  some (q123.1, q123.2)
  else
  (rdR q119 a101 [2] 2).bind fun r125 =>
  (obO q119 a0 4).bind fun fs127 =>
  (P a0 r125 (x2 + 1) q119).bind fun q126 =>
  some (q126.1, q126.2))
  else
  some (q111.1, q111.2))
set_option maxHeartbeats 4000000 in
set_option maxRecDepth 100000 in
theorem xX5_performChosen {l : Launch} {g : aG} {d : Nat} {P : Nat → Option Nat → Int32 → aH → Option (Int32 × aH)} {dP : Nat} (hP : ∀ (d9 : Nat), dP ≤ d9 → ∀ (a0 : Nat) (r1 : Option Nat) (x2 : Int32) (h : aH) (q : Int32 × aH), P a0 r1 x2 h = some q → Ev l g miX5_perform d9 [.inr (.inr (some a0)), .inr (.inr r1), .inl x2] h (some (.inl q.1), q.2)) (hK : dP + 3 ≤ d) {a0 : Nat} {r1 : Option Nat} {x2 : Int32} {h : aH} {q : Int32 × aH} (hf : fX5_performChosen g.2.2 P a0 r1 x2 h = some q) : Ev l g miX5_performChosen d [.inr (.inr (some a0)), .inr (.inr r1), .inl x2] h (some (.inl q.1), q.2) := by
  obtain ⟨d, rfl⟩ : ∃ e, d = e + 1 := ⟨d - 1, by omega⟩
  refine ⟨?_, Or.inl rfl, Nat.le_of_ble_eq_true rfl⟩
  unfold fX5_performChosen at hf
  show Y l g miX5_performChosen (d + 1) 0 [some (.inr (.inr (some a0))), some (.inr (.inr r1)), some (.inl x2), none] [] h _
  refine y_aload_n (i := 0) dX5_performChosen_0 rfl rfl ?_
  refine y_aload_n (i := 1) dX5_performChosen_1 rfl rfl ?_
  replace hf := bnd hf
  obtain ⟨a101, rfl, hf⟩ := hf
  replace hf := bnd hf
  obtain ⟨r102, er102, hf⟩ := hf
  refine y_getR er102 fl5_228 dX5_performChosen_2 ?_
  replace hf := bnd hf
  obtain ⟨a103, rfl, hf⟩ := hf
  replace hf := bnd hf
  obtain ⟨r104, er104, hf⟩ := hf
  refine y_getR er104 fl5_117 dX5_performChosen_5 ?_
  replace hf := bnd hf
  obtain ⟨a106, rfl, hf⟩ := hf
  replace hf := bnd hf
  obtain ⟨fs107, efs107, hf⟩ := hf
  replace hf := bnd hf
  obtain ⟨q105, eq105, hf⟩ := hf
  refine y_callV (mj := miX8_count) (args := []) (st := [.inr (.inr (some a0))]) dX5_performChosen_8 (gd_of 500 rfl rfl) (gd_of 314 rfl rfl) (gd_of 315 rfl rfl) okX8_count (obO_spec efs107) rfl rfl (xX8_count (by omega) eq105) (Nat.le_of_ble_eq_true rfl) rfl ?_
  show Y l g miX5_performChosen (d + 1) 11 [some (.inr (.inr (some a0))), some (.inr (.inr (some a101))), some (.inl x2), none] [.inl q105.1, .inr (.inr (some a0))] q105.2 _
  refine y_iload_n (i := 2) dX5_performChosen_11 rfl rfl ?_
  replace hf := bnd hf
  obtain ⟨fs109, efs109, hf⟩ := hf
  replace hf := bnd hf
  obtain ⟨q108, eq108, hf⟩ := hf
  refine y_callV (mj := miX5_passFirst) (args := [.inl q105.1, .inl x2]) (st := []) dX5_performChosen_12 (gd_of 556 rfl rfl) (gd_of 558 rfl rfl) (gd_of 13 rfl rfl) okX5_passFirst (obO_spec efs109) rfl rfl (xX5_passFirst (by omega) eq108) (Nat.le_of_ble_eq_true rfl) rfl ?_
  show Y l g miX5_performChosen (d + 1) 15 [some (.inr (.inr (some a0))), some (.inr (.inr (some a101))), some (.inl x2), none] [] q108 _
  refine y_aload_n (i := 0) dX5_performChosen_15 rfl rfl ?_
  refine y_aload_n (i := 1) dX5_performChosen_16 rfl rfl ?_
  replace hf := bnd hf
  obtain ⟨r110, er110, hf⟩ := hf
  refine y_getR er110 fl5_228 dX5_performChosen_17 ?_
  refine y_iload_n (i := 2) dX5_performChosen_20 rfl rfl ?_
  refine y_iconst (v := 1) dX5_performChosen_21 (by decide) ?_
  refine y_iadd dX5_performChosen_22 ?_
  replace hf := bnd hf
  obtain ⟨fs112, efs112, hf⟩ := hf
  replace hf := bnd hf
  obtain ⟨q111, eq111, hf⟩ := hf
  refine y_callV (mj := miX5_perform) (args := [.inr (.inr r110), .inl (x2 + 1)]) (st := []) dX5_performChosen_23 (gd_of 542 rfl rfl) (gd_of 519 rfl rfl) (gd_of 520 rfl rfl) okX5_perform (obO_spec efs112) rfl rfl (hP _ (by omega) _ _ _ _ _ eq111) (Nat.le_of_ble_eq_true rfl) rfl ?_
  show Y l g miX5_performChosen (d + 1) 26 [some (.inr (.inr (some a0))), some (.inr (.inr (some a101))), some (.inl x2), none] [.inl q111.1] q111.2 _
  refine y_istore_n (i := 3) (lv2 := [some (.inr (.inr (some a0))), some (.inr (.inr (some a101))), some (.inl x2), some (.inl q111.1)]) dX5_performChosen_26 rfl (by decide) rfl ?_
  refine y_iload_n (i := 3) dX5_performChosen_27 rfl rfl ?_
  refine y_if_eq (tgt := 33) dX5_performChosen_28 (by decide) (fun hc => ?_) (fun hc => ?_)
  · rw [if_pos hc] at hf
    refine y_aload_n (i := 0) dX5_performChosen_33 rfl rfl ?_
    refine y_aload_n (i := 0) dX5_performChosen_34 rfl rfl ?_
    replace hf := bnd hf
    obtain ⟨r113, er113, hf⟩ := hf
    refine y_getR er113 fl5_11 dX5_performChosen_35 ?_
    refine y_iload_n (i := 2) dX5_performChosen_38 rfl rfl ?_
    replace hf := bnd hf
    obtain ⟨a114, rfl, hf⟩ := hf
    replace hf := bnd hf
    obtain ⟨r115, er115, hf⟩ := hf
    refine y_aaload er115 dX5_performChosen_39 ?_
    replace hf := bnd hf
    obtain ⟨a117, rfl, hf⟩ := hf
    replace hf := bnd hf
    obtain ⟨fs118, efs118, hf⟩ := hf
    replace hf := bnd hf
    obtain ⟨q116, eq116, hf⟩ := hf
    refine y_callV (mj := miX9_count) (args := []) (st := [.inr (.inr (some a0))]) dX5_performChosen_40 (gd_of 499 rfl rfl) (gd_of 383 rfl rfl) (gd_of 384 rfl rfl) okX9_count (obO_spec efs118) rfl rfl (xX9_count (by omega) eq116) (Nat.le_of_ble_eq_true rfl) rfl ?_
    show Y l g miX5_performChosen (d + 1) 43 [some (.inr (.inr (some a0))), some (.inr (.inr (some a101))), some (.inl x2), some (.inl q111.1)] [.inl q116.1, .inr (.inr (some a0))] q116.2 _
    refine y_iload_n (i := 2) dX5_performChosen_43 rfl rfl ?_
    replace hf := bnd hf
    obtain ⟨fs120, efs120, hf⟩ := hf
    replace hf := bnd hf
    obtain ⟨q119, eq119, hf⟩ := hf
    refine y_callV (mj := miX5_passFirst) (args := [.inl q116.1, .inl x2]) (st := []) dX5_performChosen_44 (gd_of 556 rfl rfl) (gd_of 558 rfl rfl) (gd_of 13 rfl rfl) okX5_passFirst (obO_spec efs120) rfl rfl (xX5_passFirst (by omega) eq119) (Nat.le_of_ble_eq_true rfl) rfl ?_
    show Y l g miX5_performChosen (d + 1) 47 [some (.inr (.inr (some a0))), some (.inr (.inr (some a101))), some (.inl x2), some (.inl q111.1)] [] q119 _
    refine y_aload_n (i := 0) dX5_performChosen_47 rfl rfl ?_
    refine y_aload_n (i := 0) dX5_performChosen_48 rfl rfl ?_
    replace hf := bnd hf
    obtain ⟨j121, ej121, hf⟩ := hf
    refine y_getJ ej121 fl5_27 dX5_performChosen_49 ?_
    refine y_lconst (v := 0) dX5_performChosen_52 (by decide) ?_
    refine y_lcmp dX5_performChosen_53 ?_
    refine y_if_eq (tgt := 64) dX5_performChosen_54 (by decide) (fun hc => ?_) (fun hc => ?_)
    · rw [if_pos hc] at hf
      refine y_aload_n (i := 1) dX5_performChosen_64 rfl rfl ?_
      replace hf := bnd hf
      obtain ⟨r122, er122, hf⟩ := hf
      refine y_getR er122 fl5_244 dX5_performChosen_65 ?_
      refine y_iload_n (i := 2) dX5_performChosen_68 rfl rfl ?_
      refine y_iconst (v := 1) dX5_performChosen_69 (by decide) ?_
      refine y_iadd dX5_performChosen_70 ?_
      replace hf := bnd hf
      obtain ⟨fs124, efs124, hf⟩ := hf
      replace hf := bnd hf
      obtain ⟨q123, eq123, hf⟩ := hf
      refine y_callV (mj := miX5_perform) (args := [.inr (.inr r122), .inl (x2 + 1)]) (st := []) dX5_performChosen_71 (gd_of 542 rfl rfl) (gd_of 519 rfl rfl) (gd_of 520 rfl rfl) okX5_perform (obO_spec efs124) rfl rfl (hP _ (by omega) _ _ _ _ _ eq123) (Nat.le_of_ble_eq_true rfl) rfl ?_
      show Y l g miX5_performChosen (d + 1) 74 [some (.inr (.inr (some a0))), some (.inr (.inr (some a101))), some (.inl x2), some (.inl q111.1)] [.inl q123.1] q123.2 _
      obtain rfl := Option.some.inj hf
      exact y_ret (v := some (.inl q123.1)) dX5_performChosen_74 rfl
    · rw [if_neg hc] at hf
      refine y_aload_n (i := 1) dX5_performChosen_57 rfl rfl ?_
      replace hf := bnd hf
      obtain ⟨r125, er125, hf⟩ := hf
      refine y_getR er125 fl5_237 dX5_performChosen_58 ?_
      refine y_goto (tgt := 68) dX5_performChosen_61 (by decide) ?_
      refine y_iload_n (i := 2) dX5_performChosen_68 rfl rfl ?_
      refine y_iconst (v := 1) dX5_performChosen_69 (by decide) ?_
      refine y_iadd dX5_performChosen_70 ?_
      replace hf := bnd hf
      obtain ⟨fs127, efs127, hf⟩ := hf
      replace hf := bnd hf
      obtain ⟨q126, eq126, hf⟩ := hf
      refine y_callV (mj := miX5_perform) (args := [.inr (.inr r125), .inl (x2 + 1)]) (st := []) dX5_performChosen_71 (gd_of 542 rfl rfl) (gd_of 519 rfl rfl) (gd_of 520 rfl rfl) okX5_perform (obO_spec efs127) rfl rfl (hP _ (by omega) _ _ _ _ _ eq126) (Nat.le_of_ble_eq_true rfl) rfl ?_
      show Y l g miX5_performChosen (d + 1) 74 [some (.inr (.inr (some a0))), some (.inr (.inr (some a101))), some (.inl x2), some (.inl q111.1)] [.inl q126.1] q126.2 _
      obtain rfl := Option.some.inj hf
      exact y_ret (v := some (.inl q126.1)) dX5_performChosen_74 rfl
  · rw [if_neg hc] at hf
    refine y_iload_n (i := 3) dX5_performChosen_31 rfl rfl ?_
    obtain rfl := Option.some.inj hf
    exact y_ret (v := some (.inl q111.1)) dX5_performChosen_32 rfl
set_option maxRecDepth 100000 in
theorem dX5_performEnded_0 : decode prog_7_method_27_code 0 = .ok (.aload_n 0, 1) := by decide +kernel
set_option maxRecDepth 100000 in
theorem dX5_performEnded_1 : decode prog_7_method_27_code 1 = .ok (.aload_n 0, 1) := by decide +kernel
set_option maxRecDepth 100000 in
theorem dX5_performEnded_2 : decode prog_7_method_27_code 2 = .ok (.getfield 11, 3) := by decide +kernel
set_option maxRecDepth 100000 in
theorem dX5_performEnded_5 : decode prog_7_method_27_code 5 = .ok (.iload_n 2, 1) := by decide +kernel
set_option maxRecDepth 100000 in
theorem dX5_performEnded_6 : decode prog_7_method_27_code 6 = .ok (.aaload, 1) := by decide +kernel
set_option maxRecDepth 100000 in
theorem dX5_performEnded_7 : decode prog_7_method_27_code 7 = .ok (.invokevirtual 67, 3) := by decide +kernel
set_option maxRecDepth 100000 in
theorem dX5_performEnded_10 : decode prog_7_method_27_code 10 = .ok (.iload_n 2, 1) := by decide +kernel
set_option maxRecDepth 100000 in
theorem dX5_performEnded_11 : decode prog_7_method_27_code 11 = .ok (.invokevirtual 240, 3) := by decide +kernel
set_option maxRecDepth 100000 in
theorem dX5_performEnded_14 : decode prog_7_method_27_code 14 = .ok (.aload_n 0, 1) := by decide +kernel
set_option maxRecDepth 100000 in
theorem dX5_performEnded_15 : decode prog_7_method_27_code 15 = .ok (.aload_n 1, 1) := by decide +kernel
set_option maxRecDepth 100000 in
theorem dX5_performEnded_16 : decode prog_7_method_27_code 16 = .ok (.getfield 228, 3) := by decide +kernel
set_option maxRecDepth 100000 in
theorem dX5_performEnded_19 : decode prog_7_method_27_code 19 = .ok (.iload_n 2, 1) := by decide +kernel
set_option maxRecDepth 100000 in
theorem dX5_performEnded_20 : decode prog_7_method_27_code 20 = .ok (.iconst 1, 1) := by decide +kernel
set_option maxRecDepth 100000 in
theorem dX5_performEnded_21 : decode prog_7_method_27_code 21 = .ok (.iadd, 1) := by decide +kernel
set_option maxRecDepth 100000 in
theorem dX5_performEnded_22 : decode prog_7_method_27_code 22 = .ok (.invokevirtual 98, 3) := by decide +kernel
set_option maxRecDepth 100000 in
theorem dX5_performEnded_25 : decode prog_7_method_27_code 25 = .ok (.istore_n 3, 1) := by decide +kernel
set_option maxRecDepth 100000 in
theorem dX5_performEnded_26 : decode prog_7_method_27_code 26 = .ok (.aload_n 0, 1) := by decide +kernel
set_option maxRecDepth 100000 in
theorem dX5_performEnded_27 : decode prog_7_method_27_code 27 = .ok (.getfield 24, 3) := by decide +kernel
set_option maxRecDepth 100000 in
theorem dX5_performEnded_30 : decode prog_7_method_27_code 30 = .ok (.istore 4, 2) := by decide +kernel
set_option maxRecDepth 100000 in
theorem dX5_performEnded_32 : decode prog_7_method_27_code 32 = .ok (.aload_n 0, 1) := by decide +kernel
set_option maxRecDepth 100000 in
theorem dX5_performEnded_33 : decode prog_7_method_27_code 33 = .ok (.getfield 27, 3) := by decide +kernel
set_option maxRecDepth 100000 in
theorem dX5_performEnded_36 : decode prog_7_method_27_code 36 = .ok (.lstore 5, 2) := by decide +kernel
set_option maxRecDepth 100000 in
theorem dX5_performEnded_38 : decode prog_7_method_27_code 38 = .ok (.aload_n 0, 1) := by decide +kernel
set_option maxRecDepth 100000 in
theorem dX5_performEnded_39 : decode prog_7_method_27_code 39 = .ok (.iload_n 3, 1) := by decide +kernel
set_option maxRecDepth 100000 in
theorem dX5_performEnded_40 : decode prog_7_method_27_code 40 = .ok (.bipush 7, 2) := by decide +kernel
set_option maxRecDepth 100000 in
theorem dX5_performEnded_42 : decode prog_7_method_27_code 42 = .ok (.if_icmp .lt 14, 3) := by decide +kernel
set_option maxRecDepth 100000 in
theorem dX5_performEnded_45 : decode prog_7_method_27_code 45 = .ok (.iload_n 3, 1) := by decide +kernel
set_option maxRecDepth 100000 in
theorem dX5_performEnded_46 : decode prog_7_method_27_code 46 = .ok (.bipush 10, 2) := by decide +kernel
set_option maxRecDepth 100000 in
theorem dX5_performEnded_48 : decode prog_7_method_27_code 48 = .ok (.if_icmp .gt 8, 3) := by decide +kernel
set_option maxRecDepth 100000 in
theorem dX5_performEnded_51 : decode prog_7_method_27_code 51 = .ok (.bipush 99, 2) := by decide +kernel
set_option maxRecDepth 100000 in
theorem dX5_performEnded_53 : decode prog_7_method_27_code 53 = .ok (.goto 4, 3) := by decide +kernel
set_option maxRecDepth 100000 in
theorem dX5_performEnded_56 : decode prog_7_method_27_code 56 = .ok (.iload_n 3, 1) := by decide +kernel
set_option maxRecDepth 100000 in
theorem dX5_performEnded_57 : decode prog_7_method_27_code 57 = .ok (.iload_n 2, 1) := by decide +kernel
set_option maxRecDepth 100000 in
theorem dX5_performEnded_58 : decode prog_7_method_27_code 58 = .ok (.invokevirtual 250, 3) := by decide +kernel
set_option maxRecDepth 100000 in
theorem dX5_performEnded_61 : decode prog_7_method_27_code 61 = .ok (.aload_n 0, 1) := by decide +kernel
set_option maxRecDepth 100000 in
theorem dX5_performEnded_62 : decode prog_7_method_27_code 62 = .ok (.aload_n 1, 1) := by decide +kernel
set_option maxRecDepth 100000 in
theorem dX5_performEnded_63 : decode prog_7_method_27_code 63 = .ok (.getfield 237, 3) := by decide +kernel
set_option maxRecDepth 100000 in
theorem dX5_performEnded_66 : decode prog_7_method_27_code 66 = .ok (.iload_n 2, 1) := by decide +kernel
set_option maxRecDepth 100000 in
theorem dX5_performEnded_67 : decode prog_7_method_27_code 67 = .ok (.iconst 1, 1) := by decide +kernel
set_option maxRecDepth 100000 in
theorem dX5_performEnded_68 : decode prog_7_method_27_code 68 = .ok (.iadd, 1) := by decide +kernel
set_option maxRecDepth 100000 in
theorem dX5_performEnded_69 : decode prog_7_method_27_code 69 = .ok (.invokevirtual 98, 3) := by decide +kernel
set_option maxRecDepth 100000 in
theorem dX5_performEnded_72 : decode prog_7_method_27_code 72 = .ok (.istore 7, 2) := by decide +kernel
set_option maxRecDepth 100000 in
theorem dX5_performEnded_74 : decode prog_7_method_27_code 74 = .ok (.iload 7, 2) := by decide +kernel
set_option maxRecDepth 100000 in
theorem dX5_performEnded_76 : decode prog_7_method_27_code 76 = .ok (.ifCond .eq 6, 3) := by decide +kernel
set_option maxRecDepth 100000 in
theorem dX5_performEnded_79 : decode prog_7_method_27_code 79 = .ok (.iload 7, 2) := by decide +kernel
set_option maxRecDepth 100000 in
theorem dX5_performEnded_81 : decode prog_7_method_27_code 81 = .ok (.ireturn, 1) := by decide +kernel
set_option maxRecDepth 100000 in
theorem dX5_performEnded_82 : decode prog_7_method_27_code 82 = .ok (.aload_n 0, 1) := by decide +kernel
set_option maxRecDepth 100000 in
theorem dX5_performEnded_83 : decode prog_7_method_27_code 83 = .ok (.iload 4, 2) := by decide +kernel
set_option maxRecDepth 100000 in
theorem dX5_performEnded_85 : decode prog_7_method_27_code 85 = .ok (.lload 5, 2) := by decide +kernel
set_option maxRecDepth 100000 in
theorem dX5_performEnded_87 : decode prog_7_method_27_code 87 = .ok (.invokevirtual 130, 3) := by decide +kernel
set_option maxRecDepth 100000 in
theorem dX5_performEnded_90 : decode prog_7_method_27_code 90 = .ok (.pop, 1) := by decide +kernel
set_option maxRecDepth 100000 in
theorem dX5_performEnded_91 : decode prog_7_method_27_code 91 = .ok (.iload_n 3, 1) := by decide +kernel
set_option maxRecDepth 100000 in
theorem dX5_performEnded_92 : decode prog_7_method_27_code 92 = .ok (.ireturn, 1) := by decide +kernel

def fX5_performEnded_57 (z : Nat → Nat) (P : Nat → Option Nat → Int32 → aH → Option (Int32 × aH)) (a0 : Nat) (r1 : Option Nat) (x2 : Int32) (x3 : Int32) (x4 : Int32) (j5 : Int64) (sr0 : Option Nat) (sx1 : Int32) (h : aH) : Option (Int32 × aH) :=
  (sr0).bind fun a102 =>
  (obO h a102 4).bind fun fs103 =>
  (fX5_passBehind z a102 sx1 x2 h).bind fun q101 =>
  (r1).bind fun a104 =>
  (rdR q101 a104 [2] 2).bind fun r105 =>
  (obO q101 a0 4).bind fun fs107 =>
  (P a0 r105 (x2 + 1) q101).bind fun q106 =>
  (if q106.1 = 0 then
  (obO q106.2 a0 4).bind fun fs109 =>
  (fX5_give z a0 x4 j5 q106.2).bind fun q108 =>
  some (x3, q108.2)
  else
  some (q106.1, q106.2))
set_option maxHeartbeats 4000000 in
set_option maxRecDepth 100000 in
theorem xX5_performEnded_57 {l : Launch} {g : aG} {d : Nat} {P : Nat → Option Nat → Int32 → aH → Option (Int32 × aH)} {dP : Nat} (hP : ∀ (d9 : Nat), dP ≤ d9 → ∀ (a0 : Nat) (r1 : Option Nat) (x2 : Int32) (h : aH) (q : Int32 × aH), P a0 r1 x2 h = some q → Ev l g miX5_perform d9 [.inr (.inr (some a0)), .inr (.inr r1), .inl x2] h (some (.inl q.1), q.2)) (hK : dP + 3 ≤ d + 1) {a0 : Nat} {r1 : Option Nat} {x2 : Int32} {x3 : Int32} {x4 : Int32} {j5 : Int64} {sr0 : Option Nat} {sx1 : Int32} {h : aH} {q : Int32 × aH} (hf : fX5_performEnded_57 g.2.2 P a0 r1 x2 x3 x4 j5 sr0 sx1 h = some q) : Y l g miX5_performEnded (d + 1) 57 [some (.inr (.inr (some a0))), some (.inr (.inr r1)), some (.inl x2), some (.inl x3), some (.inl x4), some (.inr (.inl j5)), none, none] [.inl sx1, .inr (.inr sr0)] h (some (.inl q.1), q.2) := by
  unfold fX5_performEnded_57 at hf
  refine y_iload_n (i := 2) dX5_performEnded_57 rfl rfl ?_
  replace hf := bnd hf
  obtain ⟨a102, rfl, hf⟩ := hf
  replace hf := bnd hf
  obtain ⟨fs103, efs103, hf⟩ := hf
  replace hf := bnd hf
  obtain ⟨q101, eq101, hf⟩ := hf
  refine y_callV (mj := miX5_passBehind) (args := [.inl sx1, .inl x2]) (st := []) dX5_performEnded_58 (gd_of 579 rfl rfl) (gd_of 581 rfl rfl) (gd_of 18 rfl rfl) okX5_passBehind (obO_spec efs103) rfl rfl (xX5_passBehind (by omega) eq101) (Nat.le_of_ble_eq_true rfl) rfl ?_
  show Y l g miX5_performEnded (d + 1) 61 [some (.inr (.inr (some a0))), some (.inr (.inr r1)), some (.inl x2), some (.inl x3), some (.inl x4), some (.inr (.inl j5)), none, none] [] q101 _
  refine y_aload_n (i := 0) dX5_performEnded_61 rfl rfl ?_
  refine y_aload_n (i := 1) dX5_performEnded_62 rfl rfl ?_
  replace hf := bnd hf
  obtain ⟨a104, rfl, hf⟩ := hf
  replace hf := bnd hf
  obtain ⟨r105, er105, hf⟩ := hf
  refine y_getR er105 fl5_237 dX5_performEnded_63 ?_
  refine y_iload_n (i := 2) dX5_performEnded_66 rfl rfl ?_
  refine y_iconst (v := 1) dX5_performEnded_67 (by decide) ?_
  refine y_iadd dX5_performEnded_68 ?_
  replace hf := bnd hf
  obtain ⟨fs107, efs107, hf⟩ := hf
  replace hf := bnd hf
  obtain ⟨q106, eq106, hf⟩ := hf
  refine y_callV (mj := miX5_perform) (args := [.inr (.inr r105), .inl (x2 + 1)]) (st := []) dX5_performEnded_69 (gd_of 542 rfl rfl) (gd_of 519 rfl rfl) (gd_of 520 rfl rfl) okX5_perform (obO_spec efs107) rfl rfl (hP _ (by omega) _ _ _ _ _ eq106) (Nat.le_of_ble_eq_true rfl) rfl ?_
  show Y l g miX5_performEnded (d + 1) 72 [some (.inr (.inr (some a0))), some (.inr (.inr (some a104))), some (.inl x2), some (.inl x3), some (.inl x4), some (.inr (.inl j5)), none, none] [.inl q106.1] q106.2 _
  refine y_istore (i := 7) (lv2 := [some (.inr (.inr (some a0))), some (.inr (.inr (some a104))), some (.inl x2), some (.inl x3), some (.inl x4), some (.inr (.inl j5)), none, some (.inl q106.1)]) dX5_performEnded_72 (by decide) rfl ?_
  refine y_iload (i := 7) dX5_performEnded_74 rfl ?_
  refine y_if_eq (tgt := 82) dX5_performEnded_76 (by decide) (fun hc => ?_) (fun hc => ?_)
  · rw [if_pos hc] at hf
    refine y_aload_n (i := 0) dX5_performEnded_82 rfl rfl ?_
    refine y_iload (i := 4) dX5_performEnded_83 rfl ?_
    refine y_lload (i := 5) dX5_performEnded_85 rfl ?_
    replace hf := bnd hf
    obtain ⟨fs109, efs109, hf⟩ := hf
    replace hf := bnd hf
    obtain ⟨q108, eq108, hf⟩ := hf
    refine y_callV (mj := miX5_give) (args := [.inl x4, .inr (.inl j5)]) (st := []) dX5_performEnded_87 (gd_of 587 rfl rfl) (gd_of 589 rfl rfl) (gd_of 20 rfl rfl) okX5_give (obO_spec efs109) rfl rfl (xX5_give (by omega) eq108) (Nat.le_of_ble_eq_true rfl) rfl ?_
    show Y l g miX5_performEnded (d + 1) 90 [some (.inr (.inr (some a0))), some (.inr (.inr (some a104))), some (.inl x2), some (.inl x3), some (.inl x4), some (.inr (.inl j5)), none, some (.inl q106.1)] [.inl q108.1] q108.2 _
    refine y_pop dX5_performEnded_90 rfl ?_
    refine y_iload_n (i := 3) dX5_performEnded_91 rfl rfl ?_
    obtain rfl := Option.some.inj hf
    exact y_ret (v := some (.inl x3)) dX5_performEnded_92 rfl
  · rw [if_neg hc] at hf
    refine y_iload (i := 7) dX5_performEnded_79 rfl ?_
    obtain rfl := Option.some.inj hf
    exact y_ret (v := some (.inl q106.1)) dX5_performEnded_81 rfl
def fX5_performEnded_56 (z : Nat → Nat) (P : Nat → Option Nat → Int32 → aH → Option (Int32 × aH)) (a0 : Nat) (r1 : Option Nat) (x2 : Int32) (x3 : Int32) (x4 : Int32) (j5 : Int64) (sr0 : Option Nat) (h : aH) : Option (Int32 × aH) :=
  fX5_performEnded_57 z P a0 r1 x2 x3 x4 j5 sr0 x3 h
set_option maxHeartbeats 4000000 in
set_option maxRecDepth 100000 in
theorem xX5_performEnded_56 {l : Launch} {g : aG} {d : Nat} {P : Nat → Option Nat → Int32 → aH → Option (Int32 × aH)} {dP : Nat} (hP : ∀ (d9 : Nat), dP ≤ d9 → ∀ (a0 : Nat) (r1 : Option Nat) (x2 : Int32) (h : aH) (q : Int32 × aH), P a0 r1 x2 h = some q → Ev l g miX5_perform d9 [.inr (.inr (some a0)), .inr (.inr r1), .inl x2] h (some (.inl q.1), q.2)) (hK : dP + 3 ≤ d + 1) {a0 : Nat} {r1 : Option Nat} {x2 : Int32} {x3 : Int32} {x4 : Int32} {j5 : Int64} {sr0 : Option Nat} {h : aH} {q : Int32 × aH} (hf : fX5_performEnded_56 g.2.2 P a0 r1 x2 x3 x4 j5 sr0 h = some q) : Y l g miX5_performEnded (d + 1) 56 [some (.inr (.inr (some a0))), some (.inr (.inr r1)), some (.inl x2), some (.inl x3), some (.inl x4), some (.inr (.inl j5)), none, none] [.inr (.inr sr0)] h (some (.inl q.1), q.2) := by
  unfold fX5_performEnded_56 at hf
  refine y_iload_n (i := 3) dX5_performEnded_56 rfl rfl ?_
  refine Y.weak (lv2 := [some (.inr (.inr (some a0))), some (.inr (.inr r1)), some (.inl x2), some (.inl x3), some (.inl x4), some (.inr (.inl j5)), none, none]) [true, true, true, true, true, true, false, false] rfl ?_
  exact xX5_performEnded_57 hP hK hf
def fX5_performEnded (z : Nat → Nat) (P : Nat → Option Nat → Int32 → aH → Option (Int32 × aH)) (a0 : Nat) (r1 : Option Nat) (x2 : Int32) (h : aH) : Option (Int32 × aH) :=
  (rdR h a0 [4] 1).bind fun r101 =>
  (r101).bind fun a102 =>
  (arR h a102 x2).bind fun r103 =>
  (r103).bind fun a105 =>
  (obO h a105 7).bind fun fs106 =>
  (fX9_count z a105 h).bind fun q104 =>
  (obO q104.2 a0 4).bind fun fs108 =>
  (fX5_passFirst z a0 q104.1 x2 q104.2).bind fun q107 =>
  (r1).bind fun a109 =>
  (rdR q107 a109 [2] 1).bind fun r110 =>
  (obO q107 a0 4).bind fun fs112 =>
  (P a0 r110 (x2 + 1) q107).bind fun q111 =>
  (rdI q111.2 a0 [4] 4).bind fun x113 =>
  (rdJ q111.2 a0 [4] 5).bind fun j114 =>
  (if q111.1 < 7 then
  fX5_performEnded_56 z P a0 (some a109) x2 q111.1 x113 j114 (some a0) q111.2
  else
  (if 10 < q111.1 then
  fX5_performEnded_56 z P a0 (some a109) x2 q111.1 x113 j114 (some a0) q111.2
  else
  fX5_performEnded_57 z P a0 (some a109) x2 q111.1 x113 j114 (some a0) 99 q111.2))
set_option maxHeartbeats 4000000 in
set_option maxRecDepth 100000 in
theorem xX5_performEnded {l : Launch} {g : aG} {d : Nat} {P : Nat → Option Nat → Int32 → aH → Option (Int32 × aH)} {dP : Nat} (hP : ∀ (d9 : Nat), dP ≤ d9 → ∀ (a0 : Nat) (r1 : Option Nat) (x2 : Int32) (h : aH) (q : Int32 × aH), P a0 r1 x2 h = some q → Ev l g miX5_perform d9 [.inr (.inr (some a0)), .inr (.inr r1), .inl x2] h (some (.inl q.1), q.2)) (hK : dP + 3 ≤ d) {a0 : Nat} {r1 : Option Nat} {x2 : Int32} {h : aH} {q : Int32 × aH} (hf : fX5_performEnded g.2.2 P a0 r1 x2 h = some q) : Ev l g miX5_performEnded d [.inr (.inr (some a0)), .inr (.inr r1), .inl x2] h (some (.inl q.1), q.2) := by
  obtain ⟨d, rfl⟩ : ∃ e, d = e + 1 := ⟨d - 1, by omega⟩
  refine ⟨?_, Or.inl rfl, Nat.le_of_ble_eq_true rfl⟩
  unfold fX5_performEnded at hf
  show Y l g miX5_performEnded (d + 1) 0 [some (.inr (.inr (some a0))), some (.inr (.inr r1)), some (.inl x2), none, none, none, none, none] [] h _
  refine y_aload_n (i := 0) dX5_performEnded_0 rfl rfl ?_
  refine y_aload_n (i := 0) dX5_performEnded_1 rfl rfl ?_
  replace hf := bnd hf
  obtain ⟨r101, er101, hf⟩ := hf
  refine y_getR er101 fl5_11 dX5_performEnded_2 ?_
  refine y_iload_n (i := 2) dX5_performEnded_5 rfl rfl ?_
  replace hf := bnd hf
  obtain ⟨a102, rfl, hf⟩ := hf
  replace hf := bnd hf
  obtain ⟨r103, er103, hf⟩ := hf
  refine y_aaload er103 dX5_performEnded_6 ?_
  replace hf := bnd hf
  obtain ⟨a105, rfl, hf⟩ := hf
  replace hf := bnd hf
  obtain ⟨fs106, efs106, hf⟩ := hf
  replace hf := bnd hf
  obtain ⟨q104, eq104, hf⟩ := hf
  refine y_callV (mj := miX9_count) (args := []) (st := [.inr (.inr (some a0))]) dX5_performEnded_7 (gd_of 499 rfl rfl) (gd_of 383 rfl rfl) (gd_of 384 rfl rfl) okX9_count (obO_spec efs106) rfl rfl (xX9_count (by omega) eq104) (Nat.le_of_ble_eq_true rfl) rfl ?_
  show Y l g miX5_performEnded (d + 1) 10 [some (.inr (.inr (some a0))), some (.inr (.inr r1)), some (.inl x2), none, none, none, none, none] [.inl q104.1, .inr (.inr (some a0))] q104.2 _
  refine y_iload_n (i := 2) dX5_performEnded_10 rfl rfl ?_
  replace hf := bnd hf
  obtain ⟨fs108, efs108, hf⟩ := hf
  replace hf := bnd hf
  obtain ⟨q107, eq107, hf⟩ := hf
  refine y_callV (mj := miX5_passFirst) (args := [.inl q104.1, .inl x2]) (st := []) dX5_performEnded_11 (gd_of 556 rfl rfl) (gd_of 558 rfl rfl) (gd_of 13 rfl rfl) okX5_passFirst (obO_spec efs108) rfl rfl (xX5_passFirst (by omega) eq107) (Nat.le_of_ble_eq_true rfl) rfl ?_
  show Y l g miX5_performEnded (d + 1) 14 [some (.inr (.inr (some a0))), some (.inr (.inr r1)), some (.inl x2), none, none, none, none, none] [] q107 _
  refine y_aload_n (i := 0) dX5_performEnded_14 rfl rfl ?_
  refine y_aload_n (i := 1) dX5_performEnded_15 rfl rfl ?_
  replace hf := bnd hf
  obtain ⟨a109, rfl, hf⟩ := hf
  replace hf := bnd hf
  obtain ⟨r110, er110, hf⟩ := hf
  refine y_getR er110 fl5_228 dX5_performEnded_16 ?_
  refine y_iload_n (i := 2) dX5_performEnded_19 rfl rfl ?_
  refine y_iconst (v := 1) dX5_performEnded_20 (by decide) ?_
  refine y_iadd dX5_performEnded_21 ?_
  replace hf := bnd hf
  obtain ⟨fs112, efs112, hf⟩ := hf
  replace hf := bnd hf
  obtain ⟨q111, eq111, hf⟩ := hf
  refine y_callV (mj := miX5_perform) (args := [.inr (.inr r110), .inl (x2 + 1)]) (st := []) dX5_performEnded_22 (gd_of 542 rfl rfl) (gd_of 519 rfl rfl) (gd_of 520 rfl rfl) okX5_perform (obO_spec efs112) rfl rfl (hP _ (by omega) _ _ _ _ _ eq111) (Nat.le_of_ble_eq_true rfl) rfl ?_
  show Y l g miX5_performEnded (d + 1) 25 [some (.inr (.inr (some a0))), some (.inr (.inr (some a109))), some (.inl x2), none, none, none, none, none] [.inl q111.1] q111.2 _
  refine y_istore_n (i := 3) (lv2 := [some (.inr (.inr (some a0))), some (.inr (.inr (some a109))), some (.inl x2), some (.inl q111.1), none, none, none, none]) dX5_performEnded_25 rfl (by decide) rfl ?_
  refine y_aload_n (i := 0) dX5_performEnded_26 rfl rfl ?_
  replace hf := bnd hf
  obtain ⟨x113, ex113, hf⟩ := hf
  refine y_getI ex113 fl5_24 dX5_performEnded_27 ?_
  refine y_istore (i := 4) (lv2 := [some (.inr (.inr (some a0))), some (.inr (.inr (some a109))), some (.inl x2), some (.inl q111.1), some (.inl x113), none, none, none]) dX5_performEnded_30 (by decide) rfl ?_
  refine y_aload_n (i := 0) dX5_performEnded_32 rfl rfl ?_
  replace hf := bnd hf
  obtain ⟨j114, ej114, hf⟩ := hf
  refine y_getJ ej114 fl5_27 dX5_performEnded_33 ?_
  refine y_lstore (i := 5) (lv2 := [some (.inr (.inr (some a0))), some (.inr (.inr (some a109))), some (.inl x2), some (.inl q111.1), some (.inl x113), some (.inr (.inl j114)), none, none]) dX5_performEnded_36 (by decide) rfl ?_
  refine y_aload_n (i := 0) dX5_performEnded_38 rfl rfl ?_
  refine y_iload_n (i := 3) dX5_performEnded_39 rfl rfl ?_
  refine y_bipush (v := 7) dX5_performEnded_40 (by decide) ?_
  refine y_icmp_lt (tgt := 56) dX5_performEnded_42 (by decide) (fun hc => ?_) (fun hc => ?_)
  · rw [if_pos hc] at hf
    refine Y.weak (lv2 := [some (.inr (.inr (some a0))), some (.inr (.inr (some a109))), some (.inl x2), some (.inl q111.1), some (.inl x113), some (.inr (.inl j114)), none, none]) [true, true, true, true, true, true, false, false] rfl ?_
    exact xX5_performEnded_56 hP hK hf
  · rw [if_neg hc] at hf
    refine y_iload_n (i := 3) dX5_performEnded_45 rfl rfl ?_
    refine y_bipush (v := 10) dX5_performEnded_46 (by decide) ?_
    refine y_icmp_gt (tgt := 56) dX5_performEnded_48 (by decide) (fun hc => ?_) (fun hc => ?_)
    · rw [if_pos hc] at hf
      refine Y.weak (lv2 := [some (.inr (.inr (some a0))), some (.inr (.inr (some a109))), some (.inl x2), some (.inl q111.1), some (.inl x113), some (.inr (.inl j114)), none, none]) [true, true, true, true, true, true, false, false] rfl ?_
      exact xX5_performEnded_56 hP hK hf
    · rw [if_neg hc] at hf
      refine y_bipush (v := 99) dX5_performEnded_51 (by decide) ?_
      refine y_goto (tgt := 57) dX5_performEnded_53 (by decide) ?_
      refine Y.weak (lv2 := [some (.inr (.inr (some a0))), some (.inr (.inr (some a109))), some (.inl x2), some (.inl q111.1), some (.inl x113), some (.inr (.inl j114)), none, none]) [true, true, true, true, true, true, false, false] rfl ?_
      exact xX5_performEnded_57 hP hK hf
