set_option maxRecDepth 100000 in
theorem dX4_has_0 : decode prog_6_method_3_code 0 = .ok (.lload_n 1, 1) := by decide +kernel
set_option maxRecDepth 100000 in
theorem dX4_has_1 : decode prog_6_method_3_code 1 = .ok (.lconst 0, 1) := by decide +kernel
set_option maxRecDepth 100000 in
theorem dX4_has_2 : decode prog_6_method_3_code 2 = .ok (.lcmp, 1) := by decide +kernel
set_option maxRecDepth 100000 in
theorem dX4_has_3 : decode prog_6_method_3_code 3 = .ok (.ifCond .lt 17, 3) := by decide +kernel
set_option maxRecDepth 100000 in
theorem dX4_has_6 : decode prog_6_method_3_code 6 = .ok (.lload_n 1, 1) := by decide +kernel
set_option maxRecDepth 100000 in
theorem dX4_has_7 : decode prog_6_method_3_code 7 = .ok (.aload_n 0, 1) := by decide +kernel
set_option maxRecDepth 100000 in
theorem dX4_has_8 : decode prog_6_method_3_code 8 = .ok (.getfield 18, 3) := by decide +kernel
set_option maxRecDepth 100000 in
theorem dX4_has_11 : decode prog_6_method_3_code 11 = .ok (.i2l, 1) := by decide +kernel
set_option maxRecDepth 100000 in
theorem dX4_has_12 : decode prog_6_method_3_code 12 = .ok (.lcmp, 1) := by decide +kernel
set_option maxRecDepth 100000 in
theorem dX4_has_13 : decode prog_6_method_3_code 13 = .ok (.ifCond .ge 7, 3) := by decide +kernel
set_option maxRecDepth 100000 in
theorem dX4_has_16 : decode prog_6_method_3_code 16 = .ok (.iconst 1, 1) := by decide +kernel
set_option maxRecDepth 100000 in
theorem dX4_has_17 : decode prog_6_method_3_code 17 = .ok (.goto 4, 3) := by decide +kernel
set_option maxRecDepth 100000 in
theorem dX4_has_20 : decode prog_6_method_3_code 20 = .ok (.iconst 0, 1) := by decide +kernel
set_option maxRecDepth 100000 in
theorem dX4_has_21 : decode prog_6_method_3_code 21 = .ok (.ireturn, 1) := by decide +kernel

def fX4_has_e (z : Nat → Nat) (a0 : Nat) (j1 : Int64) (h : aH) : Option (Int32 × aH) :=
  (if (lg_cmp j1 0) < 0 then
  some (0, h)
  else
  (rdI h a0 [3] 2).bind fun x101 =>
  (if 0 ≤ (lg_cmp j1 (Int32.toInt64 x101)) then
  some (0, h)
  else
  some (1, h)))
def fX4_has (z : Nat → Nat) (a0 : Nat) (j1 : Int64) (h : aH) : Option (Int32 × aH) := chkB (fX4_has_e z a0 j1 h)
set_option maxHeartbeats 4000000 in
set_option maxRecDepth 100000 in
theorem xX4_has {l : Launch} {g : aG} {d : Nat} (hK : 0 ≤ d) {a0 : Nat} {j1 : Int64} {h : aH} {q : Int32 × aH} (hf : fX4_has g.2.2 a0 j1 h = some q) : Ev l g miX4_has d [.inr (.inr (some a0)), .inr (.inl j1)] h (some (.inl q.1), q.2) := by
  replace hf := chkB_spec hf
  obtain ⟨hf, hb⟩ := hf
  refine ⟨?_, Or.inr ⟨rfl, hb⟩, Nat.le_of_ble_eq_true rfl⟩
  unfold fX4_has_e at hf
  show Y l g miX4_has d 0 [some (.inr (.inr (some a0))), some (.inr (.inl j1)), none] [] h _
  refine y_lload_n (i := 1) dX4_has_0 rfl rfl ?_
  refine y_lconst (v := 0) dX4_has_1 (by decide) ?_
  refine y_lcmp dX4_has_2 ?_
  refine y_if_lt (tgt := 20) dX4_has_3 (by decide) (fun hc => ?_) (fun hc => ?_)
  · rw [if_pos hc] at hf
    refine y_iconst (v := 0) dX4_has_20 (by decide) ?_
    obtain rfl := Option.some.inj hf
    exact y_ret (v := some (.inl 0)) dX4_has_21 rfl
  · rw [if_neg hc] at hf
    refine y_lload_n (i := 1) dX4_has_6 rfl rfl ?_
    refine y_aload_n (i := 0) dX4_has_7 rfl rfl ?_
    replace hf := bnd hf
    obtain ⟨x101, ex101, hf⟩ := hf
    refine y_getI ex101 fl4_18 dX4_has_8 ?_
    refine y_i2l dX4_has_11 ?_
    refine y_lcmp dX4_has_12 ?_
    refine y_if_ge (tgt := 20) dX4_has_13 (by decide) (fun hc => ?_) (fun hc => ?_)
    · rw [if_pos hc] at hf
      refine y_iconst (v := 0) dX4_has_20 (by decide) ?_
      obtain rfl := Option.some.inj hf
      exact y_ret (v := some (.inl 0)) dX4_has_21 rfl
    · rw [if_neg hc] at hf
      refine y_iconst (v := 1) dX4_has_16 (by decide) ?_
      refine y_goto (tgt := 21) dX4_has_17 (by decide) ?_
      obtain rfl := Option.some.inj hf
      exact y_ret (v := some (.inl 1)) dX4_has_21 rfl
set_option maxRecDepth 100000 in
theorem dX4_hasItem_0 : decode prog_6_method_4_code 0 = .ok (.aload_n 0, 1) := by decide +kernel
set_option maxRecDepth 100000 in
theorem dX4_hasItem_1 : decode prog_6_method_4_code 1 = .ok (.iload_n 1, 1) := by decide +kernel
set_option maxRecDepth 100000 in
theorem dX4_hasItem_2 : decode prog_6_method_4_code 2 = .ok (.i2l, 1) := by decide +kernel
set_option maxRecDepth 100000 in
theorem dX4_hasItem_3 : decode prog_6_method_4_code 3 = .ok (.invokevirtual 22, 3) := by decide +kernel
set_option maxRecDepth 100000 in
theorem dX4_hasItem_6 : decode prog_6_method_4_code 6 = .ok (.ifCond .eq 21, 3) := by decide +kernel
set_option maxRecDepth 100000 in
theorem dX4_hasItem_9 : decode prog_6_method_4_code 9 = .ok (.iload_n 2, 1) := by decide +kernel
set_option maxRecDepth 100000 in
theorem dX4_hasItem_10 : decode prog_6_method_4_code 10 = .ok (.ifCond .lt 17, 3) := by decide +kernel
set_option maxRecDepth 100000 in
theorem dX4_hasItem_13 : decode prog_6_method_4_code 13 = .ok (.iload_n 2, 1) := by decide +kernel
set_option maxRecDepth 100000 in
theorem dX4_hasItem_14 : decode prog_6_method_4_code 14 = .ok (.aload_n 0, 1) := by decide +kernel
set_option maxRecDepth 100000 in
theorem dX4_hasItem_15 : decode prog_6_method_4_code 15 = .ok (.getfield 15, 3) := by decide +kernel
set_option maxRecDepth 100000 in
theorem dX4_hasItem_18 : decode prog_6_method_4_code 18 = .ok (.iload_n 1, 1) := by decide +kernel
set_option maxRecDepth 100000 in
theorem dX4_hasItem_19 : decode prog_6_method_4_code 19 = .ok (.iaload, 1) := by decide +kernel
set_option maxRecDepth 100000 in
theorem dX4_hasItem_20 : decode prog_6_method_4_code 20 = .ok (.if_icmp .ge 7, 3) := by decide +kernel
set_option maxRecDepth 100000 in
theorem dX4_hasItem_23 : decode prog_6_method_4_code 23 = .ok (.iconst 1, 1) := by decide +kernel
set_option maxRecDepth 100000 in
theorem dX4_hasItem_24 : decode prog_6_method_4_code 24 = .ok (.goto 4, 3) := by decide +kernel
set_option maxRecDepth 100000 in
theorem dX4_hasItem_27 : decode prog_6_method_4_code 27 = .ok (.iconst 0, 1) := by decide +kernel
set_option maxRecDepth 100000 in
theorem dX4_hasItem_28 : decode prog_6_method_4_code 28 = .ok (.ireturn, 1) := by decide +kernel
set_option maxRecDepth 100000 in
theorem okX4_has : mOk miX4_has 1 := ⟨(gd_of 202 rfl rfl), (gd_of 73 rfl rfl), by decide +kernel, ⟨by decide +kernel, by decide +kernel, by decide +kernel⟩, by decide⟩
def fX4_hasItem_e (z : Nat → Nat) (a0 : Nat) (x1 : Int32) (x2 : Int32) (h : aH) : Option (Int32 × aH) :=
  (obO h a0 3).bind fun fs102 =>
  (fX4_has z a0 (Int32.toInt64 x1) h).bind fun q101 =>
  (if q101.1 = 0 then
  some (0, q101.2)
  else
  (if x2 < 0 then
  some (0, q101.2)
  else
  (rdR q101.2 a0 [3] 1).bind fun r103 =>
  (r103).bind fun a104 =>
  (arI q101.2 a104 x1).bind fun x105 =>
  (if x105 ≤ x2 then
  some (0, q101.2)
  else
  some (1, q101.2))))
def fX4_hasItem (z : Nat → Nat) (a0 : Nat) (x1 : Int32) (x2 : Int32) (h : aH) : Option (Int32 × aH) := chkB (fX4_hasItem_e z a0 x1 x2 h)
set_option maxHeartbeats 4000000 in
set_option maxRecDepth 100000 in
theorem xX4_hasItem {l : Launch} {g : aG} {d : Nat} (hK : 1 ≤ d) {a0 : Nat} {x1 : Int32} {x2 : Int32} {h : aH} {q : Int32 × aH} (hf : fX4_hasItem g.2.2 a0 x1 x2 h = some q) : Ev l g miX4_hasItem d [.inr (.inr (some a0)), .inl x1, .inl x2] h (some (.inl q.1), q.2) := by
  obtain ⟨d, rfl⟩ : ∃ e, d = e + 1 := ⟨d - 1, by omega⟩
  replace hf := chkB_spec hf
  obtain ⟨hf, hb⟩ := hf
  refine ⟨?_, Or.inr ⟨rfl, hb⟩, Nat.le_of_ble_eq_true rfl⟩
  unfold fX4_hasItem_e at hf
  show Y l g miX4_hasItem (d + 1) 0 [some (.inr (.inr (some a0))), some (.inl x1), some (.inl x2)] [] h _
  refine y_aload_n (i := 0) dX4_hasItem_0 rfl rfl ?_
  refine y_iload_n (i := 1) dX4_hasItem_1 rfl rfl ?_
  refine y_i2l dX4_hasItem_2 ?_
  replace hf := bnd hf
  obtain ⟨fs102, efs102, hf⟩ := hf
  replace hf := bnd hf
  obtain ⟨q101, eq101, hf⟩ := hf
  refine y_callV (mj := miX4_has) (args := [.inr (.inl (Int32.toInt64 x1))]) (st := []) dX4_hasItem_3 (gd_of 453 rfl rfl) (gd_of 200 rfl rfl) (gd_of 201 rfl rfl) okX4_has (obO_spec efs102) rfl rfl (xX4_has (by omega) eq101) (Nat.le_of_ble_eq_true rfl) rfl ?_
  show Y l g miX4_hasItem (d + 1) 6 [some (.inr (.inr (some a0))), some (.inl x1), some (.inl x2)] [.inl q101.1] q101.2 _
  refine y_if_eq (tgt := 27) dX4_hasItem_6 (by decide) (fun hc => ?_) (fun hc => ?_)
  · rw [if_pos hc] at hf
    refine y_iconst (v := 0) dX4_hasItem_27 (by decide) ?_
    obtain rfl := Option.some.inj hf
    exact y_ret (v := some (.inl 0)) dX4_hasItem_28 rfl
  · rw [if_neg hc] at hf
    refine y_iload_n (i := 2) dX4_hasItem_9 rfl rfl ?_
    refine y_if_lt (tgt := 27) dX4_hasItem_10 (by decide) (fun hc => ?_) (fun hc => ?_)
    · rw [if_pos hc] at hf
      refine y_iconst (v := 0) dX4_hasItem_27 (by decide) ?_
      obtain rfl := Option.some.inj hf
      exact y_ret (v := some (.inl 0)) dX4_hasItem_28 rfl
    · rw [if_neg hc] at hf
      refine y_iload_n (i := 2) dX4_hasItem_13 rfl rfl ?_
      refine y_aload_n (i := 0) dX4_hasItem_14 rfl rfl ?_
      replace hf := bnd hf
      obtain ⟨r103, er103, hf⟩ := hf
      refine y_getR er103 fl4_15 dX4_hasItem_15 ?_
      refine y_iload_n (i := 1) dX4_hasItem_18 rfl rfl ?_
      replace hf := bnd hf
      obtain ⟨a104, rfl, hf⟩ := hf
      replace hf := bnd hf
      obtain ⟨x105, ex105, hf⟩ := hf
      refine y_iaload ex105 dX4_hasItem_19 ?_
      refine y_icmp_ge (tgt := 27) dX4_hasItem_20 (by decide) (fun hc => ?_) (fun hc => ?_)
      · rw [if_pos hc] at hf
        refine y_iconst (v := 0) dX4_hasItem_27 (by decide) ?_
        obtain rfl := Option.some.inj hf
        exact y_ret (v := some (.inl 0)) dX4_hasItem_28 rfl
      · rw [if_neg hc] at hf
        refine y_iconst (v := 1) dX4_hasItem_23 (by decide) ?_
        refine y_goto (tgt := 28) dX4_hasItem_24 (by decide) ?_
        obtain rfl := Option.some.inj hf
        exact y_ret (v := some (.inl 1)) dX4_hasItem_28 rfl
set_option maxRecDepth 100000 in
theorem dX4_itemAt_0 : decode prog_6_method_6_code 0 = .ok (.aload_n 0, 1) := by decide +kernel
set_option maxRecDepth 100000 in
theorem dX4_itemAt_1 : decode prog_6_method_6_code 1 = .ok (.iload_n 1, 1) := by decide +kernel
set_option maxRecDepth 100000 in
theorem dX4_itemAt_2 : decode prog_6_method_6_code 2 = .ok (.iload_n 2, 1) := by decide +kernel
set_option maxRecDepth 100000 in
theorem dX4_itemAt_3 : decode prog_6_method_6_code 3 = .ok (.invokevirtual 26, 3) := by decide +kernel
set_option maxRecDepth 100000 in
theorem dX4_itemAt_6 : decode prog_6_method_6_code 6 = .ok (.ifCond .eq 17, 3) := by decide +kernel
set_option maxRecDepth 100000 in
theorem dX4_itemAt_9 : decode prog_6_method_6_code 9 = .ok (.aload_n 0, 1) := by decide +kernel
set_option maxRecDepth 100000 in
theorem dX4_itemAt_10 : decode prog_6_method_6_code 10 = .ok (.getfield 9, 3) := by decide +kernel
set_option maxRecDepth 100000 in
theorem dX4_itemAt_13 : decode prog_6_method_6_code 13 = .ok (.iload_n 1, 1) := by decide +kernel
set_option maxRecDepth 100000 in
theorem dX4_itemAt_14 : decode prog_6_method_6_code 14 = .ok (.bipush 20, 2) := by decide +kernel
set_option maxRecDepth 100000 in
theorem dX4_itemAt_16 : decode prog_6_method_6_code 16 = .ok (.imul, 1) := by decide +kernel
set_option maxRecDepth 100000 in
theorem dX4_itemAt_17 : decode prog_6_method_6_code 17 = .ok (.iload_n 2, 1) := by decide +kernel
set_option maxRecDepth 100000 in
theorem dX4_itemAt_18 : decode prog_6_method_6_code 18 = .ok (.iadd, 1) := by decide +kernel
set_option maxRecDepth 100000 in
theorem dX4_itemAt_19 : decode prog_6_method_6_code 19 = .ok (.iaload, 1) := by decide +kernel
set_option maxRecDepth 100000 in
theorem dX4_itemAt_20 : decode prog_6_method_6_code 20 = .ok (.goto 4, 3) := by decide +kernel
set_option maxRecDepth 100000 in
theorem dX4_itemAt_23 : decode prog_6_method_6_code 23 = .ok (.iconst 0, 1) := by decide +kernel
set_option maxRecDepth 100000 in
theorem dX4_itemAt_24 : decode prog_6_method_6_code 24 = .ok (.ireturn, 1) := by decide +kernel
set_option maxRecDepth 100000 in
theorem okX4_hasItem : mOk miX4_hasItem 2 := ⟨(gd_of 452 rfl rfl), (gd_of 73 rfl rfl), by decide +kernel, ⟨by decide +kernel, by decide +kernel, by decide +kernel⟩, by decide⟩
def fX4_itemAt (z : Nat → Nat) (a0 : Nat) (x1 : Int32) (x2 : Int32) (h : aH) : Option (Int32 × aH) :=
  (obO h a0 3).bind fun fs102 =>
  (fX4_hasItem z a0 x1 x2 h).bind fun q101 =>
  (if q101.1 = 0 then
  some (0, q101.2)
  else
  (rdR q101.2 a0 [3] 0).bind fun r103 =>
  (r103).bind fun a104 =>
  (arI q101.2 a104 ((x1 * 20) + x2)).bind fun x105 =>
  some (x105, q101.2))
set_option maxHeartbeats 4000000 in
set_option maxRecDepth 100000 in
theorem xX4_itemAt {l : Launch} {g : aG} {d : Nat} (hK : 2 ≤ d) {a0 : Nat} {x1 : Int32} {x2 : Int32} {h : aH} {q : Int32 × aH} (hf : fX4_itemAt g.2.2 a0 x1 x2 h = some q) : Ev l g miX4_itemAt d [.inr (.inr (some a0)), .inl x1, .inl x2] h (some (.inl q.1), q.2) := by
  obtain ⟨d, rfl⟩ : ∃ e, d = e + 1 := ⟨d - 1, by omega⟩
  refine ⟨?_, Or.inl rfl, Nat.le_of_ble_eq_true rfl⟩
  unfold fX4_itemAt at hf
  show Y l g miX4_itemAt (d + 1) 0 [some (.inr (.inr (some a0))), some (.inl x1), some (.inl x2)] [] h _
  refine y_aload_n (i := 0) dX4_itemAt_0 rfl rfl ?_
  refine y_iload_n (i := 1) dX4_itemAt_1 rfl rfl ?_
  refine y_iload_n (i := 2) dX4_itemAt_2 rfl rfl ?_
  replace hf := bnd hf
  obtain ⟨fs102, efs102, hf⟩ := hf
  replace hf := bnd hf
  obtain ⟨q101, eq101, hf⟩ := hf
  refine y_callV (mj := miX4_hasItem) (args := [.inl x1, .inl x2]) (st := []) dX4_itemAt_3 (gd_of 458 rfl rfl) (gd_of 450 rfl rfl) (gd_of 451 rfl rfl) okX4_hasItem (obO_spec efs102) rfl rfl (xX4_hasItem (by omega) eq101) (Nat.le_of_ble_eq_true rfl) rfl ?_
  show Y l g miX4_itemAt (d + 1) 6 [some (.inr (.inr (some a0))), some (.inl x1), some (.inl x2)] [.inl q101.1] q101.2 _
  refine y_if_eq (tgt := 23) dX4_itemAt_6 (by decide) (fun hc => ?_) (fun hc => ?_)
  · rw [if_pos hc] at hf
    refine y_iconst (v := 0) dX4_itemAt_23 (by decide) ?_
    obtain rfl := Option.some.inj hf
    exact y_ret (v := some (.inl 0)) dX4_itemAt_24 rfl
  · rw [if_neg hc] at hf
    refine y_aload_n (i := 0) dX4_itemAt_9 rfl rfl ?_
    replace hf := bnd hf
    obtain ⟨r103, er103, hf⟩ := hf
    refine y_getR er103 fl4_9 dX4_itemAt_10 ?_
    refine y_iload_n (i := 1) dX4_itemAt_13 rfl rfl ?_
    refine y_bipush (v := 20) dX4_itemAt_14 (by decide) ?_
    refine y_imul dX4_itemAt_16 ?_
    refine y_iload_n (i := 2) dX4_itemAt_17 rfl rfl ?_
    refine y_iadd dX4_itemAt_18 ?_
    replace hf := bnd hf
    obtain ⟨a104, rfl, hf⟩ := hf
    replace hf := bnd hf
    obtain ⟨x105, ex105, hf⟩ := hf
    refine y_iaload ex105 dX4_itemAt_19 ?_
    refine y_goto (tgt := 24) dX4_itemAt_20 (by decide) ?_
    obtain rfl := Option.some.inj hf
    exact y_ret (v := some (.inl x105)) dX4_itemAt_24 rfl
set_option maxRecDepth 100000 in
theorem dX10_item_0 : decode prog_1_method_6_code 0 = .ok (.aload_n 0, 1) := by decide +kernel
set_option maxRecDepth 100000 in
theorem dX10_item_1 : decode prog_1_method_6_code 1 = .ok (.getfield 31, 3) := by decide +kernel
set_option maxRecDepth 100000 in
theorem dX10_item_4 : decode prog_1_method_6_code 4 = .ok (.iload_n 1, 1) := by decide +kernel
set_option maxRecDepth 100000 in
theorem dX10_item_5 : decode prog_1_method_6_code 5 = .ok (.iload_n 2, 1) := by decide +kernel
set_option maxRecDepth 100000 in
theorem dX10_item_6 : decode prog_1_method_6_code 6 = .ok (.invokevirtual 131, 3) := by decide +kernel
set_option maxRecDepth 100000 in
theorem dX10_item_9 : decode prog_1_method_6_code 9 = .ok (.ifCond .ne 6, 3) := by decide +kernel
set_option maxRecDepth 100000 in
theorem dX10_item_12 : decode prog_1_method_6_code 12 = .ok (.bipush (-2), 2) := by decide +kernel
set_option maxRecDepth 100000 in
theorem dX10_item_14 : decode prog_1_method_6_code 14 = .ok (.ireturn, 1) := by decide +kernel
set_option maxRecDepth 100000 in
theorem dX10_item_15 : decode prog_1_method_6_code 15 = .ok (.aload_n 0, 1) := by decide +kernel
set_option maxRecDepth 100000 in
theorem dX10_item_16 : decode prog_1_method_6_code 16 = .ok (.iconst 0, 1) := by decide +kernel
set_option maxRecDepth 100000 in
theorem dX10_item_17 : decode prog_1_method_6_code 17 = .ok (.aload_n 0, 1) := by decide +kernel
set_option maxRecDepth 100000 in
theorem dX10_item_18 : decode prog_1_method_6_code 18 = .ok (.getfield 31, 3) := by decide +kernel
set_option maxRecDepth 100000 in
theorem dX10_item_21 : decode prog_1_method_6_code 21 = .ok (.iload_n 1, 1) := by decide +kernel
set_option maxRecDepth 100000 in
theorem dX10_item_22 : decode prog_1_method_6_code 22 = .ok (.iload_n 2, 1) := by decide +kernel
set_option maxRecDepth 100000 in
theorem dX10_item_23 : decode prog_1_method_6_code 23 = .ok (.invokevirtual 139, 3) := by decide +kernel
set_option maxRecDepth 100000 in
theorem dX10_item_26 : decode prog_1_method_6_code 26 = .ok (.i2l, 1) := by decide +kernel
set_option maxRecDepth 100000 in
theorem dX10_item_27 : decode prog_1_method_6_code 27 = .ok (.invokevirtual 143, 3) := by decide +kernel
set_option maxRecDepth 100000 in
theorem dX10_item_30 : decode prog_1_method_6_code 30 = .ok (.iconst 1, 1) := by decide +kernel
set_option maxRecDepth 100000 in
theorem dX10_item_31 : decode prog_1_method_6_code 31 = .ok (.ireturn, 1) := by decide +kernel
set_option maxRecDepth 100000 in
theorem okX4_itemAt : mOk miX4_itemAt 2 := ⟨(gd_of 466 rfl rfl), (gd_of 73 rfl rfl), by decide +kernel, ⟨by decide +kernel, by decide +kernel, by decide +kernel⟩, by decide⟩
def fX10_item (z : Nat → Nat) (a0 : Nat) (x1 : Int32) (x2 : Int32) (h : aH) : Option (Int32 × aH) :=
  (rdR h a0 [8] 4).bind fun r101 =>
  (r101).bind fun a103 =>
  (obO h a103 3).bind fun fs104 =>
  (fX4_hasItem z a103 x1 x2 h).bind fun q102 =>
  (if q102.1 = 0 then
  some ((-2), q102.2)
  else
  (rdR q102.2 a0 [8] 4).bind fun r105 =>
  (r105).bind fun a107 =>
  (obO q102.2 a107 3).bind fun fs108 =>
  (fX4_itemAt z a107 x1 x2 q102.2).bind fun q106 =>
  (obO q106.2 a0 8).bind fun fs110 =>
  (fX10_keepResult z a0 0 (Int32.toInt64 q106.1) q106.2).bind fun q109 =>
  some (1, q109))
set_option maxHeartbeats 4000000 in
set_option maxRecDepth 100000 in
theorem xX10_item {l : Launch} {g : aG} {d : Nat} (hK : 3 ≤ d) {a0 : Nat} {x1 : Int32} {x2 : Int32} {h : aH} {q : Int32 × aH} (hf : fX10_item g.2.2 a0 x1 x2 h = some q) : Ev l g miX10_item d [.inr (.inr (some a0)), .inl x1, .inl x2] h (some (.inl q.1), q.2) := by
  obtain ⟨d, rfl⟩ : ∃ e, d = e + 1 := ⟨d - 1, by omega⟩
  refine ⟨?_, Or.inl rfl, Nat.le_of_ble_eq_true rfl⟩
  unfold fX10_item at hf
  show Y l g miX10_item (d + 1) 0 [some (.inr (.inr (some a0))), some (.inl x1), some (.inl x2)] [] h _
  refine y_aload_n (i := 0) dX10_item_0 rfl rfl ?_
  replace hf := bnd hf
  obtain ⟨r101, er101, hf⟩ := hf
  refine y_getR er101 fl10_31 dX10_item_1 ?_
  refine y_iload_n (i := 1) dX10_item_4 rfl rfl ?_
  refine y_iload_n (i := 2) dX10_item_5 rfl rfl ?_
  replace hf := bnd hf
  obtain ⟨a103, rfl, hf⟩ := hf
  replace hf := bnd hf
  obtain ⟨fs104, efs104, hf⟩ := hf
  replace hf := bnd hf
  obtain ⟨q102, eq102, hf⟩ := hf
  refine y_callV (mj := miX4_hasItem) (args := [.inl x1, .inl x2]) (st := []) dX10_item_6 (gd_of 449 rfl rfl) (gd_of 450 rfl rfl) (gd_of 451 rfl rfl) okX4_hasItem (obO_spec efs104) rfl rfl (xX4_hasItem (by omega) eq102) (Nat.le_of_ble_eq_true rfl) rfl ?_
  show Y l g miX10_item (d + 1) 9 [some (.inr (.inr (some a0))), some (.inl x1), some (.inl x2)] [.inl q102.1] q102.2 _
  refine y_if_ne (tgt := 15) dX10_item_9 (by decide) (fun hc => ?_) (fun hc => ?_)
  · rw [if_neg hc] at hf
    refine y_aload_n (i := 0) dX10_item_15 rfl rfl ?_
    refine y_iconst (v := 0) dX10_item_16 (by decide) ?_
    refine y_aload_n (i := 0) dX10_item_17 rfl rfl ?_
    replace hf := bnd hf
    obtain ⟨r105, er105, hf⟩ := hf
    refine y_getR er105 fl10_31 dX10_item_18 ?_
    refine y_iload_n (i := 1) dX10_item_21 rfl rfl ?_
    refine y_iload_n (i := 2) dX10_item_22 rfl rfl ?_
    replace hf := bnd hf
    obtain ⟨a107, rfl, hf⟩ := hf
    replace hf := bnd hf
    obtain ⟨fs108, efs108, hf⟩ := hf
    replace hf := bnd hf
    obtain ⟨q106, eq106, hf⟩ := hf
    refine y_callV (mj := miX4_itemAt) (args := [.inl x1, .inl x2]) (st := [.inl 0, .inr (.inr (some a0))]) dX10_item_23 (gd_of 463 rfl rfl) (gd_of 464 rfl rfl) (gd_of 465 rfl rfl) okX4_itemAt (obO_spec efs108) rfl rfl (xX4_itemAt (by omega) eq106) (Nat.le_of_ble_eq_true rfl) rfl ?_
    show Y l g miX10_item (d + 1) 26 [some (.inr (.inr (some a0))), some (.inl x1), some (.inl x2)] [.inl q106.1, .inl 0, .inr (.inr (some a0))] q106.2 _
    refine y_i2l dX10_item_26 ?_
    replace hf := bnd hf
    obtain ⟨fs110, efs110, hf⟩ := hf
    replace hf := bnd hf
    obtain ⟨q109, eq109, hf⟩ := hf
    refine y_callV (mj := miX10_keepResult) (args := [.inl 0, .inr (.inl (Int32.toInt64 q106.1))]) (st := []) dX10_item_27 (gd_of 467 rfl rfl) (gd_of 469 rfl rfl) (gd_of 4 rfl rfl) okX10_keepResult (obO_spec efs110) rfl rfl (xX10_keepResult (by omega) eq109) (Nat.le_of_ble_eq_true rfl) rfl ?_
    show Y l g miX10_item (d + 1) 30 [some (.inr (.inr (some a0))), some (.inl x1), some (.inl x2)] [] q109 _
    refine y_iconst (v := 1) dX10_item_30 (by decide) ?_
    obtain rfl := Option.some.inj hf
    exact y_ret (v := some (.inl 1)) dX10_item_31 rfl
  · rw [if_pos hc] at hf
    refine y_bipush (v := (-2)) dX10_item_12 (by decide) ?_
    obtain rfl := Option.some.inj hf
    exact y_ret (v := some (.inl (-2))) dX10_item_14 rfl
set_option maxRecDepth 100000 in
theorem dX10_keepHandle_0 : decode prog_1_method_20_code 0 = .ok (.aload_n 0, 1) := by decide +kernel
set_option maxRecDepth 100000 in
theorem dX10_keepHandle_1 : decode prog_1_method_20_code 1 = .ok (.getfield 11, 3) := by decide +kernel
set_option maxRecDepth 100000 in
theorem dX10_keepHandle_4 : decode prog_1_method_20_code 4 = .ok (.aload_n 0, 1) := by decide +kernel
set_option maxRecDepth 100000 in
theorem dX10_keepHandle_5 : decode prog_1_method_20_code 5 = .ok (.getfield 15, 3) := by decide +kernel
set_option maxRecDepth 100000 in
theorem dX10_keepHandle_8 : decode prog_1_method_20_code 8 = .ok (.aload_n 1, 1) := by decide +kernel
set_option maxRecDepth 100000 in
theorem dX10_keepHandle_9 : decode prog_1_method_20_code 9 = .ok (.aastore, 1) := by decide +kernel
set_option maxRecDepth 100000 in
theorem dX10_keepHandle_10 : decode prog_1_method_20_code 10 = .ok (.aload_n 0, 1) := by decide +kernel
set_option maxRecDepth 100000 in
theorem dX10_keepHandle_11 : decode prog_1_method_20_code 11 = .ok (.dup, 1) := by decide +kernel
set_option maxRecDepth 100000 in
theorem dX10_keepHandle_12 : decode prog_1_method_20_code 12 = .ok (.getfield 15, 3) := by decide +kernel
set_option maxRecDepth 100000 in
theorem dX10_keepHandle_15 : decode prog_1_method_20_code 15 = .ok (.iconst 1, 1) := by decide +kernel
set_option maxRecDepth 100000 in
theorem dX10_keepHandle_16 : decode prog_1_method_20_code 16 = .ok (.iadd, 1) := by decide +kernel
set_option maxRecDepth 100000 in
theorem dX10_keepHandle_17 : decode prog_1_method_20_code 17 = .ok (.putfield 15, 3) := by decide +kernel
set_option maxRecDepth 100000 in
theorem dX10_keepHandle_20 : decode prog_1_method_20_code 20 = .ok (.aload_n 0, 1) := by decide +kernel
set_option maxRecDepth 100000 in
theorem dX10_keepHandle_21 : decode prog_1_method_20_code 21 = .ok (.getfield 15, 3) := by decide +kernel
set_option maxRecDepth 100000 in
theorem dX10_keepHandle_24 : decode prog_1_method_20_code 24 = .ok (.iconst 1, 1) := by decide +kernel
set_option maxRecDepth 100000 in
theorem dX10_keepHandle_25 : decode prog_1_method_20_code 25 = .ok (.isub, 1) := by decide +kernel
set_option maxRecDepth 100000 in
theorem dX10_keepHandle_26 : decode prog_1_method_20_code 26 = .ok (.ireturn, 1) := by decide +kernel
set_option maxRecDepth 100000 in
theorem ac0 : ∀ c ∈ ([0, 1] : List Nat), AC c 0 := fun c hc => by
  simp only [List.mem_cons, List.not_mem_nil, or_false] at hc
  rcases hc with rfl | rfl
  · exact ⟨_, rfl, Or.inl rfl⟩
  · exact ⟨_, rfl, Or.inr (by simp [nWs, arC, RX2])⟩
set_option maxRecDepth 100000 in
theorem pl10_15_m {mi : aM} {x : Int32} (ho : "HandleModels" = mi.1.cls) : ∀ c ∈ ([8] : List Nat), FL mi.1.cls 15 c 1 ∧ FT c 1 (.inl x) ∧ FW mi c 1 := fun c h9 => by
  have h8 := fl10_15 c h9
  rw [← ho]
  refine ⟨h8, ?_⟩
  simp only [List.mem_cons, List.not_mem_nil, or_false] at h9
  rcases h9 with rfl
  · exact ⟨ft_int rfl (by decide +kernel), ⟨_, rfl, Or.inl rfl⟩⟩
def fX10_keepHandle (z : Nat → Nat) (a0 : Nat) (r1 : Option Nat) (h : aH) : Option (Int32 × aH) :=
  (rdR h a0 [8] 0).bind fun r101 =>
  (rdI h a0 [8] 1).bind fun x102 =>
  (r101).bind fun a103 =>
  (r1).bind fun a104 =>
  (awR h a103 x102 0 [0, 1] a104).bind fun h105 =>
  (rdI h105 a0 [8] 1).bind fun x106 =>
  (wrF h105 a0 [8] 1 (.inl (x106 + 1))).bind fun h107 =>
  (rdI h107 a0 [8] 1).bind fun x108 =>
  some ((x108 - 1), h107)
set_option maxHeartbeats 4000000 in
set_option maxRecDepth 100000 in
theorem xX10_keepHandle {l : Launch} {g : aG} {d : Nat} (hK : 0 ≤ d) {a0 : Nat} {r1 : Option Nat} {h : aH} {q : Int32 × aH} (hf : fX10_keepHandle g.2.2 a0 r1 h = some q) : Ev l g miX10_keepHandle d [.inr (.inr (some a0)), .inr (.inr r1)] h (some (.inl q.1), q.2) := by
  refine ⟨?_, Or.inl rfl, Nat.le_of_ble_eq_true rfl⟩
  unfold fX10_keepHandle at hf
  show Y l g miX10_keepHandle d 0 [some (.inr (.inr (some a0))), some (.inr (.inr r1))] [] h _
  refine y_aload_n (i := 0) dX10_keepHandle_0 rfl rfl ?_
  replace hf := bnd hf
  obtain ⟨r101, er101, hf⟩ := hf
  refine y_getR er101 fl10_11 dX10_keepHandle_1 ?_
  refine y_aload_n (i := 0) dX10_keepHandle_4 rfl rfl ?_
  replace hf := bnd hf
  obtain ⟨x102, ex102, hf⟩ := hf
  refine y_getI ex102 fl10_15 dX10_keepHandle_5 ?_
  refine y_aload_n (i := 1) dX10_keepHandle_8 rfl rfl ?_
  replace hf := bnd hf
  obtain ⟨a103, rfl, hf⟩ := hf
  replace hf := bnd hf
  obtain ⟨a104, rfl, hf⟩ := hf
  replace hf := bnd hf
  obtain ⟨h105, eh105, hf⟩ := hf
  refine y_aastore eh105 ac0 dX10_keepHandle_9 ?_
  refine y_aload_n (i := 0) dX10_keepHandle_10 rfl rfl ?_
  refine y_dup dX10_keepHandle_11 rfl ?_
  replace hf := bnd hf
  obtain ⟨x106, ex106, hf⟩ := hf
  refine y_getI ex106 fl10_15 dX10_keepHandle_12 ?_
  refine y_iconst (v := 1) dX10_keepHandle_15 (by decide) ?_
  refine y_iadd dX10_keepHandle_16 ?_
  replace hf := bnd hf
  obtain ⟨h107, eh107, hf⟩ := hf
  refine y_put eh107 (pl10_15_m rfl) dX10_keepHandle_17 ?_
  refine y_aload_n (i := 0) dX10_keepHandle_20 rfl rfl ?_
  replace hf := bnd hf
  obtain ⟨x108, ex108, hf⟩ := hf
  refine y_getI ex108 fl10_15 dX10_keepHandle_21 ?_
  refine y_iconst (v := 1) dX10_keepHandle_24 (by decide) ?_
  refine y_isub dX10_keepHandle_25 ?_
  obtain rfl := Option.some.inj hf
  exact y_ret (v := some (.inl (x108 - 1))) dX10_keepHandle_26 rfl
set_option maxRecDepth 100000 in
theorem dX5_opened_0 : decode prog_7_method_15_code 0 = .ok (.aload_n 0, 1) := by decide +kernel
set_option maxRecDepth 100000 in
theorem dX5_opened_1 : decode prog_7_method_15_code 1 = .ok (.getfield 11, 3) := by decide +kernel
set_option maxRecDepth 100000 in
theorem dX5_opened_4 : decode prog_7_method_15_code 4 = .ok (.iload_n 1, 1) := by decide +kernel
set_option maxRecDepth 100000 in
theorem dX5_opened_5 : decode prog_7_method_15_code 5 = .ok (.iconst 1, 1) := by decide +kernel
set_option maxRecDepth 100000 in
theorem dX5_opened_6 : decode prog_7_method_15_code 6 = .ok (.iadd, 1) := by decide +kernel
set_option maxRecDepth 100000 in
theorem dX5_opened_7 : decode prog_7_method_15_code 7 = .ok (.aaload, 1) := by decide +kernel
set_option maxRecDepth 100000 in
theorem dX5_opened_8 : decode prog_7_method_15_code 8 = .ok (.astore_n 2, 1) := by decide +kernel
set_option maxRecDepth 100000 in
theorem dX5_opened_9 : decode prog_7_method_15_code 9 = .ok (.aload_n 2, 1) := by decide +kernel
set_option maxRecDepth 100000 in
theorem dX5_opened_10 : decode prog_7_method_15_code 10 = .ok (.iconst 0, 1) := by decide +kernel
set_option maxRecDepth 100000 in
theorem dX5_opened_11 : decode prog_7_method_15_code 11 = .ok (.invokevirtual 40, 3) := by decide +kernel
set_option maxRecDepth 100000 in
theorem dX5_opened_14 : decode prog_7_method_15_code 14 = .ok (.aload_n 2, 1) := by decide +kernel
set_option maxRecDepth 100000 in
theorem dX5_opened_15 : decode prog_7_method_15_code 15 = .ok (.areturn, 1) := by decide +kernel

def fX5_opened (z : Nat → Nat) (a0 : Nat) (x1 : Int32) (h : aH) : Option (Option Nat × aH) :=
  (rdR h a0 [4] 1).bind fun r101 =>
  (r101).bind fun a102 =>
  (arR h a102 (x1 + 1)).bind fun r103 =>
  (r103).bind fun a105 =>
  (obO h a105 7).bind fun fs106 =>
  (fX9_cutTo z a105 0 h).bind fun q104 =>
  some ((some a105), q104)
set_option maxHeartbeats 4000000 in
set_option maxRecDepth 100000 in
theorem xX5_opened {l : Launch} {g : aG} {d : Nat} (hK : 1 ≤ d) {a0 : Nat} {x1 : Int32} {h : aH} {q : Option Nat × aH} (hf : fX5_opened g.2.2 a0 x1 h = some q) : Ev l g miX5_opened d [.inr (.inr (some a0)), .inl x1] h (some (.inr (.inr q.1)), q.2) := by
  obtain ⟨d, rfl⟩ : ∃ e, d = e + 1 := ⟨d - 1, by omega⟩
  refine ⟨?_, Or.inl ⟨_, rfl⟩, Nat.le_of_ble_eq_true rfl⟩
  unfold fX5_opened at hf
  show Y l g miX5_opened (d + 1) 0 [some (.inr (.inr (some a0))), some (.inl x1), none] [] h _
  refine y_aload_n (i := 0) dX5_opened_0 rfl rfl ?_
  replace hf := bnd hf
  obtain ⟨r101, er101, hf⟩ := hf
  refine y_getR er101 fl5_11 dX5_opened_1 ?_
  refine y_iload_n (i := 1) dX5_opened_4 rfl rfl ?_
  refine y_iconst (v := 1) dX5_opened_5 (by decide) ?_
  refine y_iadd dX5_opened_6 ?_
  replace hf := bnd hf
  obtain ⟨a102, rfl, hf⟩ := hf
  replace hf := bnd hf
  obtain ⟨r103, er103, hf⟩ := hf
  refine y_aaload er103 dX5_opened_7 ?_
  refine y_astore_n (i := 2) (lv2 := [some (.inr (.inr (some a0))), some (.inl x1), some (.inr (.inr r103))]) dX5_opened_8 rfl (by decide) rfl ?_
  refine y_aload_n (i := 2) dX5_opened_9 rfl rfl ?_
  refine y_iconst (v := 0) dX5_opened_10 (by decide) ?_
  replace hf := bnd hf
  obtain ⟨a105, rfl, hf⟩ := hf
  replace hf := bnd hf
  obtain ⟨fs106, efs106, hf⟩ := hf
  replace hf := bnd hf
  obtain ⟨q104, eq104, hf⟩ := hf
  refine y_callV (mj := miX9_cutTo) (args := [.inl 0]) (st := []) dX5_opened_11 (gd_of 508 rfl rfl) (gd_of 476 rfl rfl) (gd_of 477 rfl rfl) okX9_cutTo (obO_spec efs106) rfl rfl (xX9_cutTo (by omega) eq104) (Nat.le_of_ble_eq_true rfl) rfl ?_
  show Y l g miX5_opened (d + 1) 14 [some (.inr (.inr (some a0))), some (.inl x1), some (.inr (.inr (some a105)))] [] q104 _
  refine y_aload_n (i := 2) dX5_opened_14 rfl rfl ?_
  obtain rfl := Option.some.inj hf
  exact y_ret (v := some (.inr (.inr (some a105)))) dX5_opened_15 rfl
set_option maxRecDepth 100000 in
theorem dX5_give_0 : decode prog_7_method_8_code 0 = .ok (.aload_n 0, 1) := by decide +kernel
set_option maxRecDepth 100000 in
theorem dX5_give_1 : decode prog_7_method_8_code 1 = .ok (.iload_n 1, 1) := by decide +kernel
set_option maxRecDepth 100000 in
theorem dX5_give_2 : decode prog_7_method_8_code 2 = .ok (.putfield 24, 3) := by decide +kernel
set_option maxRecDepth 100000 in
theorem dX5_give_5 : decode prog_7_method_8_code 5 = .ok (.aload_n 0, 1) := by decide +kernel
set_option maxRecDepth 100000 in
theorem dX5_give_6 : decode prog_7_method_8_code 6 = .ok (.lload_n 2, 1) := by decide +kernel
set_option maxRecDepth 100000 in
theorem dX5_give_7 : decode prog_7_method_8_code 7 = .ok (.putfield 27, 3) := by decide +kernel
set_option maxRecDepth 100000 in
theorem dX5_give_10 : decode prog_7_method_8_code 10 = .ok (.iconst 0, 1) := by decide +kernel
set_option maxRecDepth 100000 in
theorem dX5_give_11 : decode prog_7_method_8_code 11 = .ok (.ireturn, 1) := by decide +kernel
set_option maxRecDepth 100000 in
theorem pl5_24_m {mi : aM} {x : Int32} (ho : "HandleModels$Runner" = mi.1.cls) : ∀ c ∈ ([4] : List Nat), FL mi.1.cls 24 c 4 ∧ FT c 4 (.inl x) ∧ FW mi c 4 := fun c h9 => by
  have h8 := fl5_24 c h9
  rw [← ho]
  refine ⟨h8, ?_⟩
  simp only [List.mem_cons, List.not_mem_nil, or_false] at h9
  rcases h9 with rfl
  · exact ⟨ft_int rfl (by decide +kernel), ⟨_, rfl, Or.inl rfl⟩⟩
set_option maxRecDepth 100000 in
theorem pl5_27_m {mi : aM} {x : Int64} (ho : "HandleModels$Runner" = mi.1.cls) : ∀ c ∈ ([4] : List Nat), FL mi.1.cls 27 c 5 ∧ FT c 5 (.inr (.inl x)) ∧ FW mi c 5 := fun c h9 => by
  have h8 := fl5_27 c h9
  rw [← ho]
  refine ⟨h8, ?_⟩
  simp only [List.mem_cons, List.not_mem_nil, or_false] at h9
  rcases h9 with rfl
  · exact ⟨ft_long rfl (by decide +kernel), ⟨_, rfl, Or.inl rfl⟩⟩
def fX5_give (z : Nat → Nat) (a0 : Nat) (x1 : Int32) (j2 : Int64) (h : aH) : Option (Int32 × aH) :=
  (wrF h a0 [4] 4 (.inl x1)).bind fun h101 =>
  (wrF h101 a0 [4] 5 (.inr (.inl j2))).bind fun h102 =>
  some (0, h102)
set_option maxHeartbeats 4000000 in
set_option maxRecDepth 100000 in
theorem xX5_give {l : Launch} {g : aG} {d : Nat} (hK : 0 ≤ d) {a0 : Nat} {x1 : Int32} {j2 : Int64} {h : aH} {q : Int32 × aH} (hf : fX5_give g.2.2 a0 x1 j2 h = some q) : Ev l g miX5_give d [.inr (.inr (some a0)), .inl x1, .inr (.inl j2)] h (some (.inl q.1), q.2) := by
  refine ⟨?_, Or.inl rfl, Nat.le_of_ble_eq_true rfl⟩
  unfold fX5_give at hf
  show Y l g miX5_give d 0 [some (.inr (.inr (some a0))), some (.inl x1), some (.inr (.inl j2)), none] [] h _
  refine y_aload_n (i := 0) dX5_give_0 rfl rfl ?_
  refine y_iload_n (i := 1) dX5_give_1 rfl rfl ?_
  replace hf := bnd hf
  obtain ⟨h101, eh101, hf⟩ := hf
  refine y_put eh101 (pl5_24_m rfl) dX5_give_2 ?_
  refine y_aload_n (i := 0) dX5_give_5 rfl rfl ?_
  refine y_lload_n (i := 2) dX5_give_6 rfl rfl ?_
  replace hf := bnd hf
  obtain ⟨h102, eh102, hf⟩ := hf
  refine y_put eh102 (pl5_27_m rfl) dX5_give_7 ?_
  refine y_iconst (v := 0) dX5_give_10 (by decide) ?_
  obtain rfl := Option.some.inj hf
  exact y_ret (v := some (.inl 0)) dX5_give_11 rfl
set_option maxRecDepth 100000 in
theorem dX5_adaptGot_0 : decode prog_7_method_32_code 0 = .ok (.aload_n 0, 1) := by decide +kernel
set_option maxRecDepth 100000 in
theorem dX5_adaptGot_1 : decode prog_7_method_32_code 1 = .ok (.getfield 24, 3) := by decide +kernel
set_option maxRecDepth 100000 in
theorem dX5_adaptGot_4 : decode prog_7_method_32_code 4 = .ok (.iload_n 1, 1) := by decide +kernel
set_option maxRecDepth 100000 in
theorem dX5_adaptGot_5 : decode prog_7_method_32_code 5 = .ok (.iload_n 2, 1) := by decide +kernel
set_option maxRecDepth 100000 in
theorem dX5_adaptGot_6 : decode prog_7_method_32_code 6 = .ok (.invokestatic 75, 3) := by decide +kernel
set_option maxRecDepth 100000 in
theorem dX5_adaptGot_9 : decode prog_7_method_32_code 9 = .ok (.istore_n 3, 1) := by decide +kernel
set_option maxRecDepth 100000 in
theorem dX5_adaptGot_10 : decode prog_7_method_32_code 10 = .ok (.iload_n 3, 1) := by decide +kernel
set_option maxRecDepth 100000 in
theorem dX5_adaptGot_11 : decode prog_7_method_32_code 11 = .ok (.ifCond .eq 5, 3) := by decide +kernel
set_option maxRecDepth 100000 in
theorem dX5_adaptGot_14 : decode prog_7_method_32_code 14 = .ok (.iload_n 3, 1) := by decide +kernel
set_option maxRecDepth 100000 in
theorem dX5_adaptGot_15 : decode prog_7_method_32_code 15 = .ok (.ireturn, 1) := by decide +kernel
set_option maxRecDepth 100000 in
theorem dX5_adaptGot_16 : decode prog_7_method_32_code 16 = .ok (.aload_n 0, 1) := by decide +kernel
set_option maxRecDepth 100000 in
theorem dX5_adaptGot_17 : decode prog_7_method_32_code 17 = .ok (.aload_n 0, 1) := by decide +kernel
set_option maxRecDepth 100000 in
theorem dX5_adaptGot_18 : decode prog_7_method_32_code 18 = .ok (.getfield 24, 3) := by decide +kernel
set_option maxRecDepth 100000 in
theorem dX5_adaptGot_21 : decode prog_7_method_32_code 21 = .ok (.iload_n 1, 1) := by decide +kernel
set_option maxRecDepth 100000 in
theorem dX5_adaptGot_22 : decode prog_7_method_32_code 22 = .ok (.iload_n 2, 1) := by decide +kernel
set_option maxRecDepth 100000 in
theorem dX5_adaptGot_23 : decode prog_7_method_32_code 23 = .ok (.invokestatic 79, 3) := by decide +kernel
set_option maxRecDepth 100000 in
theorem dX5_adaptGot_26 : decode prog_7_method_32_code 26 = .ok (.aload_n 0, 1) := by decide +kernel
set_option maxRecDepth 100000 in
theorem dX5_adaptGot_27 : decode prog_7_method_32_code 27 = .ok (.getfield 27, 3) := by decide +kernel
set_option maxRecDepth 100000 in
theorem dX5_adaptGot_30 : decode prog_7_method_32_code 30 = .ok (.iload_n 2, 1) := by decide +kernel
set_option maxRecDepth 100000 in
theorem dX5_adaptGot_31 : decode prog_7_method_32_code 31 = .ok (.invokestatic 86, 3) := by decide +kernel
set_option maxRecDepth 100000 in
theorem dX5_adaptGot_34 : decode prog_7_method_32_code 34 = .ok (.invokevirtual 130, 3) := by decide +kernel
set_option maxRecDepth 100000 in
theorem dX5_adaptGot_37 : decode prog_7_method_32_code 37 = .ok (.ireturn, 1) := by decide +kernel
set_option maxRecDepth 100000 in
theorem okX5_give : mOk miX5_give 2 := ⟨(gd_of 590 rfl rfl), (gd_of 75 rfl rfl), by decide +kernel, ⟨by decide +kernel, by decide +kernel, by decide +kernel⟩, by decide⟩
def fX5_adaptGot (z : Nat → Nat) (a0 : Nat) (x1 : Int32) (x2 : Int32) (h : aH) : Option (Int32 × aH) :=
  (rdI h a0 [4] 4).bind fun x101 =>
  (fX0_failure z x101 x1 x2 h).bind fun q102 =>
  (if q102.1 = 0 then
  (rdI q102.2 a0 [4] 4).bind fun x103 =>
  (fX0_kindAfter z x103 x1 x2 q102.2).bind fun q104 =>
  (rdJ q104.2 a0 [4] 5).bind fun j105 =>
  (fX0_numberAfter z j105 x2 q104.2).bind fun q106 =>
  (obO q106.2 a0 4).bind fun fs108 =>
  (fX5_give z a0 q104.1 q106.1 q106.2).bind fun q107 =>
  some (q107.1, q107.2)
  else
  some (q102.1, q102.2))
set_option maxHeartbeats 4000000 in
set_option maxRecDepth 100000 in
theorem xX5_adaptGot {l : Launch} {g : aG} {d : Nat} (hK : 1 ≤ d) {a0 : Nat} {x1 : Int32} {x2 : Int32} {h : aH} {q : Int32 × aH} (hf : fX5_adaptGot g.2.2 a0 x1 x2 h = some q) : Ev l g miX5_adaptGot d [.inr (.inr (some a0)), .inl x1, .inl x2] h (some (.inl q.1), q.2) := by
  obtain ⟨d, rfl⟩ : ∃ e, d = e + 1 := ⟨d - 1, by omega⟩
  refine ⟨?_, Or.inl rfl, Nat.le_of_ble_eq_true rfl⟩
  unfold fX5_adaptGot at hf
  show Y l g miX5_adaptGot (d + 1) 0 [some (.inr (.inr (some a0))), some (.inl x1), some (.inl x2), none] [] h _
  refine y_aload_n (i := 0) dX5_adaptGot_0 rfl rfl ?_
  replace hf := bnd hf
  obtain ⟨x101, ex101, hf⟩ := hf
  refine y_getI ex101 fl5_24 dX5_adaptGot_1 ?_
  refine y_iload_n (i := 1) dX5_adaptGot_4 rfl rfl ?_
  refine y_iload_n (i := 2) dX5_adaptGot_5 rfl rfl ?_
  replace hf := bnd hf
  obtain ⟨q102, eq102, hf⟩ := hf
  refine y_callS (mj := miX0_failure) (args := [.inl x101, .inl x1, .inl x2]) (st := []) dX5_adaptGot_6 (gd_of 513 rfl rfl) (gd_of 395 rfl rfl) okX0_failure (xX0_failure (by omega) eq102) (Nat.le_of_ble_eq_true rfl) rfl ?_
  show Y l g miX5_adaptGot (d + 1) 9 [some (.inr (.inr (some a0))), some (.inl x1), some (.inl x2), none] [.inl q102.1] q102.2 _
  refine y_istore_n (i := 3) (lv2 := [some (.inr (.inr (some a0))), some (.inl x1), some (.inl x2), some (.inl q102.1)]) dX5_adaptGot_9 rfl (by decide) rfl ?_
  refine y_iload_n (i := 3) dX5_adaptGot_10 rfl rfl ?_
  refine y_if_eq (tgt := 16) dX5_adaptGot_11 (by decide) (fun hc => ?_) (fun hc => ?_)
  · rw [if_pos hc] at hf
    refine y_aload_n (i := 0) dX5_adaptGot_16 rfl rfl ?_
    refine y_aload_n (i := 0) dX5_adaptGot_17 rfl rfl ?_
    replace hf := bnd hf
    obtain ⟨x103, ex103, hf⟩ := hf
    refine y_getI ex103 fl5_24 dX5_adaptGot_18 ?_
    refine y_iload_n (i := 1) dX5_adaptGot_21 rfl rfl ?_
    refine y_iload_n (i := 2) dX5_adaptGot_22 rfl rfl ?_
    replace hf := bnd hf
    obtain ⟨q104, eq104, hf⟩ := hf
    refine y_callS (mj := miX0_kindAfter) (args := [.inl x103, .inl x1, .inl x2]) (st := [.inr (.inr (some a0))]) dX5_adaptGot_23 (gd_of 514 rfl rfl) (gd_of 424 rfl rfl) okX0_kindAfter (xX0_kindAfter (by omega) eq104) (Nat.le_of_ble_eq_true rfl) rfl ?_
    show Y l g miX5_adaptGot (d + 1) 26 [some (.inr (.inr (some a0))), some (.inl x1), some (.inl x2), some (.inl q102.1)] [.inl q104.1, .inr (.inr (some a0))] q104.2 _
    refine y_aload_n (i := 0) dX5_adaptGot_26 rfl rfl ?_
    replace hf := bnd hf
    obtain ⟨j105, ej105, hf⟩ := hf
    refine y_getJ ej105 fl5_27 dX5_adaptGot_27 ?_
    refine y_iload_n (i := 2) dX5_adaptGot_30 rfl rfl ?_
    replace hf := bnd hf
    obtain ⟨q106, eq106, hf⟩ := hf
    refine y_callS (mj := miX0_numberAfter) (args := [.inr (.inl j105), .inl x2]) (st := [.inl q104.1, .inr (.inr (some a0))]) dX5_adaptGot_31 (gd_of 516 rfl rfl) (gd_of 431 rfl rfl) okX0_numberAfter (xX0_numberAfter (by omega) eq106) (Nat.le_of_ble_eq_true rfl) rfl ?_
    show Y l g miX5_adaptGot (d + 1) 34 [some (.inr (.inr (some a0))), some (.inl x1), some (.inl x2), some (.inl q102.1)] [.inr (.inl q106.1), .inl q104.1, .inr (.inr (some a0))] q106.2 _
    replace hf := bnd hf
    obtain ⟨fs108, efs108, hf⟩ := hf
    replace hf := bnd hf
    obtain ⟨q107, eq107, hf⟩ := hf
    refine y_callV (mj := miX5_give) (args := [.inl q104.1, .inr (.inl q106.1)]) (st := []) dX5_adaptGot_34 (gd_of 587 rfl rfl) (gd_of 589 rfl rfl) (gd_of 20 rfl rfl) okX5_give (obO_spec efs108) rfl rfl (xX5_give (by omega) eq107) (Nat.le_of_ble_eq_true rfl) rfl ?_
    show Y l g miX5_adaptGot (d + 1) 37 [some (.inr (.inr (some a0))), some (.inl x1), some (.inl x2), some (.inl q102.1)] [.inl q107.1] q107.2 _
    obtain rfl := Option.some.inj hf
    exact y_ret (v := some (.inl q107.1)) dX5_adaptGot_37 rfl
  · rw [if_neg hc] at hf
    refine y_iload_n (i := 3) dX5_adaptGot_14 rfl rfl ?_
    obtain rfl := Option.some.inj hf
    exact y_ret (v := some (.inl q102.1)) dX5_adaptGot_15 rfl
set_option maxRecDepth 100000 in
theorem dX9_add_0 : decode prog_11_method_7_code 0 = .ok (.aload_n 0, 1) := by decide +kernel
set_option maxRecDepth 100000 in
theorem dX9_add_1 : decode prog_11_method_7_code 1 = .ok (.getfield 19, 3) := by decide +kernel
set_option maxRecDepth 100000 in
theorem dX9_add_4 : decode prog_11_method_7_code 4 = .ok (.bipush 6, 2) := by decide +kernel
set_option maxRecDepth 100000 in
theorem dX9_add_6 : decode prog_11_method_7_code 6 = .ok (.if_icmp .ge 33, 3) := by decide +kernel
set_option maxRecDepth 100000 in
theorem dX9_add_9 : decode prog_11_method_7_code 9 = .ok (.aload_n 0, 1) := by decide +kernel
set_option maxRecDepth 100000 in
theorem dX9_add_10 : decode prog_11_method_7_code 10 = .ok (.getfield 9, 3) := by decide +kernel
set_option maxRecDepth 100000 in
theorem dX9_add_13 : decode prog_11_method_7_code 13 = .ok (.aload_n 0, 1) := by decide +kernel
set_option maxRecDepth 100000 in
theorem dX9_add_14 : decode prog_11_method_7_code 14 = .ok (.getfield 19, 3) := by decide +kernel
set_option maxRecDepth 100000 in
theorem dX9_add_17 : decode prog_11_method_7_code 17 = .ok (.iload_n 1, 1) := by decide +kernel
set_option maxRecDepth 100000 in
theorem dX9_add_18 : decode prog_11_method_7_code 18 = .ok (.iastore, 1) := by decide +kernel
set_option maxRecDepth 100000 in
theorem dX9_add_19 : decode prog_11_method_7_code 19 = .ok (.aload_n 0, 1) := by decide +kernel
set_option maxRecDepth 100000 in
theorem dX9_add_20 : decode prog_11_method_7_code 20 = .ok (.getfield 15, 3) := by decide +kernel
set_option maxRecDepth 100000 in
theorem dX9_add_23 : decode prog_11_method_7_code 23 = .ok (.aload_n 0, 1) := by decide +kernel
set_option maxRecDepth 100000 in
theorem dX9_add_24 : decode prog_11_method_7_code 24 = .ok (.getfield 19, 3) := by decide +kernel
set_option maxRecDepth 100000 in
theorem dX9_add_27 : decode prog_11_method_7_code 27 = .ok (.lload_n 2, 1) := by decide +kernel
set_option maxRecDepth 100000 in
theorem dX9_add_28 : decode prog_11_method_7_code 28 = .ok (.lastore, 1) := by decide +kernel
set_option maxRecDepth 100000 in
theorem dX9_add_29 : decode prog_11_method_7_code 29 = .ok (.aload_n 0, 1) := by decide +kernel
set_option maxRecDepth 100000 in
theorem dX9_add_30 : decode prog_11_method_7_code 30 = .ok (.dup, 1) := by decide +kernel
set_option maxRecDepth 100000 in
theorem dX9_add_31 : decode prog_11_method_7_code 31 = .ok (.getfield 19, 3) := by decide +kernel
set_option maxRecDepth 100000 in
theorem dX9_add_34 : decode prog_11_method_7_code 34 = .ok (.iconst 1, 1) := by decide +kernel
set_option maxRecDepth 100000 in
theorem dX9_add_35 : decode prog_11_method_7_code 35 = .ok (.iadd, 1) := by decide +kernel
set_option maxRecDepth 100000 in
theorem dX9_add_36 : decode prog_11_method_7_code 36 = .ok (.putfield 19, 3) := by decide +kernel
set_option maxRecDepth 100000 in
theorem dX9_add_39 : decode prog_11_method_7_code 39 = .ok (.return_, 1) := by decide +kernel

def fX9_add (z : Nat → Nat) (a0 : Nat) (x1 : Int32) (j2 : Int64) (h : aH) : Option aH :=
  (rdI h a0 [7] 2).bind fun x101 =>
  (if 6 ≤ x101 then
  some h
  else
  (rdR h a0 [7] 0).bind fun r102 =>
  (rdI h a0 [7] 2).bind fun x103 =>
  (r102).bind fun a104 =>
  (awI h a104 x103 x1).bind fun h105 =>
  (rdR h105 a0 [7] 1).bind fun r106 =>
  (rdI h105 a0 [7] 2).bind fun x107 =>
  (r106).bind fun a108 =>
  (awJ h105 a108 x107 j2).bind fun h109 =>
  (rdI h109 a0 [7] 2).bind fun x110 =>
  (wrF h109 a0 [7] 2 (.inl (x110 + 1))).bind fun h111 =>
  some h111)
set_option maxHeartbeats 4000000 in
set_option maxRecDepth 100000 in
theorem xX9_add {l : Launch} {g : aG} {d : Nat} (hK : 0 ≤ d) {a0 : Nat} {x1 : Int32} {j2 : Int64} {h : aH} {q : aH} (hf : fX9_add g.2.2 a0 x1 j2 h = some q) : Ev l g miX9_add d [.inr (.inr (some a0)), .inl x1, .inr (.inl j2)] h (none, q) := by
  refine ⟨?_, rfl, Nat.le_of_ble_eq_true rfl⟩
  unfold fX9_add at hf
  show Y l g miX9_add d 0 [some (.inr (.inr (some a0))), some (.inl x1), some (.inr (.inl j2)), none] [] h _
  refine y_aload_n (i := 0) dX9_add_0 rfl rfl ?_
  replace hf := bnd hf
  obtain ⟨x101, ex101, hf⟩ := hf
  refine y_getI ex101 fl9_19 dX9_add_1 ?_
  refine y_bipush (v := 6) dX9_add_4 (by decide) ?_
  refine y_icmp_ge (tgt := 39) dX9_add_6 (by decide) (fun hc => ?_) (fun hc => ?_)
  · rw [if_pos hc] at hf
    obtain rfl := Option.some.inj hf
    exact y_ret (v := none) dX9_add_39 rfl
  · rw [if_neg hc] at hf
    refine y_aload_n (i := 0) dX9_add_9 rfl rfl ?_
    replace hf := bnd hf
    obtain ⟨r102, er102, hf⟩ := hf
    refine y_getR er102 fl9_9 dX9_add_10 ?_
    refine y_aload_n (i := 0) dX9_add_13 rfl rfl ?_
    replace hf := bnd hf
    obtain ⟨x103, ex103, hf⟩ := hf
    refine y_getI ex103 fl9_19 dX9_add_14 ?_
    refine y_iload_n (i := 1) dX9_add_17 rfl rfl ?_
    replace hf := bnd hf
    obtain ⟨a104, rfl, hf⟩ := hf
    replace hf := bnd hf
    obtain ⟨h105, eh105, hf⟩ := hf
    refine y_iastore eh105 dX9_add_18 ?_
    refine y_aload_n (i := 0) dX9_add_19 rfl rfl ?_
    replace hf := bnd hf
    obtain ⟨r106, er106, hf⟩ := hf
    refine y_getR er106 fl9_15 dX9_add_20 ?_
    refine y_aload_n (i := 0) dX9_add_23 rfl rfl ?_
    replace hf := bnd hf
    obtain ⟨x107, ex107, hf⟩ := hf
    refine y_getI ex107 fl9_19 dX9_add_24 ?_
    refine y_lload_n (i := 2) dX9_add_27 rfl rfl ?_
    replace hf := bnd hf
    obtain ⟨a108, rfl, hf⟩ := hf
    replace hf := bnd hf
    obtain ⟨h109, eh109, hf⟩ := hf
    refine y_lastore eh109 dX9_add_28 ?_
    refine y_aload_n (i := 0) dX9_add_29 rfl rfl ?_
    refine y_dup dX9_add_30 rfl ?_
    replace hf := bnd hf
    obtain ⟨x110, ex110, hf⟩ := hf
    refine y_getI ex110 fl9_19 dX9_add_31 ?_
    refine y_iconst (v := 1) dX9_add_34 (by decide) ?_
    refine y_iadd dX9_add_35 ?_
    replace hf := bnd hf
    obtain ⟨h111, eh111, hf⟩ := hf
    refine y_put eh111 (pl9_19_m rfl) dX9_add_36 ?_
    obtain rfl := Option.some.inj hf
    exact y_ret (v := none) dX9_add_39 rfl
set_option maxRecDepth 100000 in
theorem dX5_addAdapted_0 : decode prog_7_method_4_code 0 = .ok (.aload_n 2, 1) := by decide +kernel
set_option maxRecDepth 100000 in
theorem dX5_addAdapted_1 : decode prog_7_method_4_code 1 = .ok (.iload_n 3, 1) := by decide +kernel
set_option maxRecDepth 100000 in
theorem dX5_addAdapted_2 : decode prog_7_method_4_code 2 = .ok (.invokevirtual 54, 3) := by decide +kernel
set_option maxRecDepth 100000 in
theorem dX5_addAdapted_5 : decode prog_7_method_4_code 5 = .ok (.istore 6, 2) := by decide +kernel
set_option maxRecDepth 100000 in
theorem dX5_addAdapted_7 : decode prog_7_method_4_code 7 = .ok (.iload 6, 2) := by decide +kernel
set_option maxRecDepth 100000 in
theorem dX5_addAdapted_9 : decode prog_7_method_4_code 9 = .ok (.iload 4, 2) := by decide +kernel
set_option maxRecDepth 100000 in
theorem dX5_addAdapted_11 : decode prog_7_method_4_code 11 = .ok (.iload 5, 2) := by decide +kernel
set_option maxRecDepth 100000 in
theorem dX5_addAdapted_13 : decode prog_7_method_4_code 13 = .ok (.invokestatic 75, 3) := by decide +kernel
set_option maxRecDepth 100000 in
theorem dX5_addAdapted_16 : decode prog_7_method_4_code 16 = .ok (.istore 7, 2) := by decide +kernel
set_option maxRecDepth 100000 in
theorem dX5_addAdapted_18 : decode prog_7_method_4_code 18 = .ok (.iload 7, 2) := by decide +kernel
set_option maxRecDepth 100000 in
theorem dX5_addAdapted_20 : decode prog_7_method_4_code 20 = .ok (.ifCond .ne 26, 3) := by decide +kernel
set_option maxRecDepth 100000 in
theorem dX5_addAdapted_23 : decode prog_7_method_4_code 23 = .ok (.aload_n 1, 1) := by decide +kernel
set_option maxRecDepth 100000 in
theorem dX5_addAdapted_24 : decode prog_7_method_4_code 24 = .ok (.iload 6, 2) := by decide +kernel
set_option maxRecDepth 100000 in
theorem dX5_addAdapted_26 : decode prog_7_method_4_code 26 = .ok (.iload 4, 2) := by decide +kernel
set_option maxRecDepth 100000 in
theorem dX5_addAdapted_28 : decode prog_7_method_4_code 28 = .ok (.iload 5, 2) := by decide +kernel
set_option maxRecDepth 100000 in
theorem dX5_addAdapted_30 : decode prog_7_method_4_code 30 = .ok (.invokestatic 79, 3) := by decide +kernel
set_option maxRecDepth 100000 in
theorem dX5_addAdapted_33 : decode prog_7_method_4_code 33 = .ok (.aload_n 2, 1) := by decide +kernel
set_option maxRecDepth 100000 in
theorem dX5_addAdapted_34 : decode prog_7_method_4_code 34 = .ok (.iload_n 3, 1) := by decide +kernel
set_option maxRecDepth 100000 in
theorem dX5_addAdapted_35 : decode prog_7_method_4_code 35 = .ok (.invokevirtual 82, 3) := by decide +kernel
set_option maxRecDepth 100000 in
theorem dX5_addAdapted_38 : decode prog_7_method_4_code 38 = .ok (.iload 5, 2) := by decide +kernel
set_option maxRecDepth 100000 in
theorem dX5_addAdapted_40 : decode prog_7_method_4_code 40 = .ok (.invokestatic 86, 3) := by decide +kernel
set_option maxRecDepth 100000 in
theorem dX5_addAdapted_43 : decode prog_7_method_4_code 43 = .ok (.invokevirtual 90, 3) := by decide +kernel
set_option maxRecDepth 100000 in
theorem dX5_addAdapted_46 : decode prog_7_method_4_code 46 = .ok (.iload 7, 2) := by decide +kernel
set_option maxRecDepth 100000 in
theorem dX5_addAdapted_48 : decode prog_7_method_4_code 48 = .ok (.ireturn, 1) := by decide +kernel
set_option maxRecDepth 100000 in
theorem okX9_add : mOk miX9_add 2 := ⟨(gd_of 482 rfl rfl), (gd_of 74 rfl rfl), by decide +kernel, ⟨by decide +kernel, by decide +kernel, by decide +kernel⟩, by decide⟩
def fX5_addAdapted (z : Nat → Nat) (a0 : Nat) (r1 : Option Nat) (r2 : Option Nat) (x3 : Int32) (x4 : Int32) (x5 : Int32) (h : aH) : Option (Int32 × aH) :=
  (r2).bind fun a102 =>
  (obO h a102 7).bind fun fs103 =>
  (fX9_kindAt z a102 x3 h).bind fun q101 =>
  (fX0_failure z q101.1 x4 x5 q101.2).bind fun q104 =>
  (if q104.1 = 0 then
  (fX0_kindAfter z q101.1 x4 x5 q104.2).bind fun q105 =>
  (obO q105.2 a102 7).bind fun fs107 =>
  (fX9_numberAt z a102 x3 q105.2).bind fun q106 =>
  (fX0_numberAfter z q106.1 x5 q106.2).bind fun q108 =>
  (r1).bind fun a110 =>
  (obO q108.2 a110 7).bind fun fs111 =>
  (fX9_add z a110 q105.1 q108.1 q108.2).bind fun q109 =>
  some (q104.1, q109)
  else
  some (q104.1, q104.2))
set_option maxHeartbeats 4000000 in
set_option maxRecDepth 100000 in
theorem xX5_addAdapted {l : Launch} {g : aG} {d : Nat} (hK : 1 ≤ d) {a0 : Nat} {r1 : Option Nat} {r2 : Option Nat} {x3 : Int32} {x4 : Int32} {x5 : Int32} {h : aH} {q : Int32 × aH} (hf : fX5_addAdapted g.2.2 a0 r1 r2 x3 x4 x5 h = some q) : Ev l g miX5_addAdapted d [.inr (.inr (some a0)), .inr (.inr r1), .inr (.inr r2), .inl x3, .inl x4, .inl x5] h (some (.inl q.1), q.2) := by
  obtain ⟨d, rfl⟩ : ∃ e, d = e + 1 := ⟨d - 1, by omega⟩
  refine ⟨?_, Or.inl rfl, Nat.le_of_ble_eq_true rfl⟩
  unfold fX5_addAdapted at hf
  show Y l g miX5_addAdapted (d + 1) 0 [some (.inr (.inr (some a0))), some (.inr (.inr r1)), some (.inr (.inr r2)), some (.inl x3), some (.inl x4), some (.inl x5), none, none] [] h _
  refine y_aload_n (i := 2) dX5_addAdapted_0 rfl rfl ?_
  refine y_iload_n (i := 3) dX5_addAdapted_1 rfl rfl ?_
  replace hf := bnd hf
  obtain ⟨a102, rfl, hf⟩ := hf
  replace hf := bnd hf
  obtain ⟨fs103, efs103, hf⟩ := hf
  replace hf := bnd hf
  obtain ⟨q101, eq101, hf⟩ := hf
  refine y_callV (mj := miX9_kindAt) (args := [.inl x3]) (st := []) dX5_addAdapted_2 (gd_of 501 rfl rfl) (gd_of 387 rfl rfl) (gd_of 388 rfl rfl) okX9_kindAt (obO_spec efs103) rfl rfl (xX9_kindAt (by omega) eq101) (Nat.le_of_ble_eq_true rfl) rfl ?_
  show Y l g miX5_addAdapted (d + 1) 5 [some (.inr (.inr (some a0))), some (.inr (.inr r1)), some (.inr (.inr (some a102))), some (.inl x3), some (.inl x4), some (.inl x5), none, none] [.inl q101.1] q101.2 _
  refine y_istore (i := 6) (lv2 := [some (.inr (.inr (some a0))), some (.inr (.inr r1)), some (.inr (.inr (some a102))), some (.inl x3), some (.inl x4), some (.inl x5), some (.inl q101.1), none]) dX5_addAdapted_5 (by decide) rfl ?_
  refine y_iload (i := 6) dX5_addAdapted_7 rfl ?_
  refine y_iload (i := 4) dX5_addAdapted_9 rfl ?_
  refine y_iload (i := 5) dX5_addAdapted_11 rfl ?_
  replace hf := bnd hf
  obtain ⟨q104, eq104, hf⟩ := hf
  refine y_callS (mj := miX0_failure) (args := [.inl q101.1, .inl x4, .inl x5]) (st := []) dX5_addAdapted_13 (gd_of 513 rfl rfl) (gd_of 395 rfl rfl) okX0_failure (xX0_failure (by omega) eq104) (Nat.le_of_ble_eq_true rfl) rfl ?_
  show Y l g miX5_addAdapted (d + 1) 16 [some (.inr (.inr (some a0))), some (.inr (.inr r1)), some (.inr (.inr (some a102))), some (.inl x3), some (.inl x4), some (.inl x5), some (.inl q101.1), none] [.inl q104.1] q104.2 _
  refine y_istore (i := 7) (lv2 := [some (.inr (.inr (some a0))), some (.inr (.inr r1)), some (.inr (.inr (some a102))), some (.inl x3), some (.inl x4), some (.inl x5), some (.inl q101.1), some (.inl q104.1)]) dX5_addAdapted_16 (by decide) rfl ?_
  refine y_iload (i := 7) dX5_addAdapted_18 rfl ?_
  refine y_if_ne (tgt := 46) dX5_addAdapted_20 (by decide) (fun hc => ?_) (fun hc => ?_)
  · rw [if_neg hc] at hf
    refine y_iload (i := 7) dX5_addAdapted_46 rfl ?_
    obtain rfl := Option.some.inj hf
    exact y_ret (v := some (.inl q104.1)) dX5_addAdapted_48 rfl
  · rw [if_pos hc] at hf
    refine y_aload_n (i := 1) dX5_addAdapted_23 rfl rfl ?_
    refine y_iload (i := 6) dX5_addAdapted_24 rfl ?_
    refine y_iload (i := 4) dX5_addAdapted_26 rfl ?_
    refine y_iload (i := 5) dX5_addAdapted_28 rfl ?_
    replace hf := bnd hf
    obtain ⟨q105, eq105, hf⟩ := hf
    refine y_callS (mj := miX0_kindAfter) (args := [.inl q101.1, .inl x4, .inl x5]) (st := [.inr (.inr r1)]) dX5_addAdapted_30 (gd_of 514 rfl rfl) (gd_of 424 rfl rfl) okX0_kindAfter (xX0_kindAfter (by omega) eq105) (Nat.le_of_ble_eq_true rfl) rfl ?_
    show Y l g miX5_addAdapted (d + 1) 33 [some (.inr (.inr (some a0))), some (.inr (.inr r1)), some (.inr (.inr (some a102))), some (.inl x3), some (.inl x4), some (.inl x5), some (.inl q101.1), some (.inl q104.1)] [.inl q105.1, .inr (.inr r1)] q105.2 _
    refine y_aload_n (i := 2) dX5_addAdapted_33 rfl rfl ?_
    refine y_iload_n (i := 3) dX5_addAdapted_34 rfl rfl ?_
    replace hf := bnd hf
    obtain ⟨fs107, efs107, hf⟩ := hf
    replace hf := bnd hf
    obtain ⟨q106, eq106, hf⟩ := hf
    refine y_callV (mj := miX9_numberAt) (args := [.inl x3]) (st := [.inl q105.1, .inr (.inr r1)]) dX5_addAdapted_35 (gd_of 515 rfl rfl) (gd_of 427 rfl rfl) (gd_of 428 rfl rfl) okX9_numberAt (obO_spec efs107) rfl rfl (xX9_numberAt (by omega) eq106) (Nat.le_of_ble_eq_true rfl) rfl ?_
    show Y l g miX5_addAdapted (d + 1) 38 [some (.inr (.inr (some a0))), some (.inr (.inr r1)), some (.inr (.inr (some a102))), some (.inl x3), some (.inl x4), some (.inl x5), some (.inl q101.1), some (.inl q104.1)] [.inr (.inl q106.1), .inl q105.1, .inr (.inr r1)] q106.2 _
    refine y_iload (i := 5) dX5_addAdapted_38 rfl ?_
    replace hf := bnd hf
    obtain ⟨q108, eq108, hf⟩ := hf
    refine y_callS (mj := miX0_numberAfter) (args := [.inr (.inl q106.1), .inl x5]) (st := [.inl q105.1, .inr (.inr r1)]) dX5_addAdapted_40 (gd_of 516 rfl rfl) (gd_of 431 rfl rfl) okX0_numberAfter (xX0_numberAfter (by omega) eq108) (Nat.le_of_ble_eq_true rfl) rfl ?_
    show Y l g miX5_addAdapted (d + 1) 43 [some (.inr (.inr (some a0))), some (.inr (.inr r1)), some (.inr (.inr (some a102))), some (.inl x3), some (.inl x4), some (.inl x5), some (.inl q101.1), some (.inl q104.1)] [.inr (.inl q108.1), .inl q105.1, .inr (.inr r1)] q108.2 _
    replace hf := bnd hf
    obtain ⟨a110, rfl, hf⟩ := hf
    replace hf := bnd hf
    obtain ⟨fs111, efs111, hf⟩ := hf
    replace hf := bnd hf
    obtain ⟨q109, eq109, hf⟩ := hf
    refine y_callV (mj := miX9_add) (args := [.inl q105.1, .inr (.inl q108.1)]) (st := []) dX5_addAdapted_43 (gd_of 517 rfl rfl) (gd_of 480 rfl rfl) (gd_of 481 rfl rfl) okX9_add (obO_spec efs111) rfl rfl (xX9_add (by omega) eq109) (Nat.le_of_ble_eq_true rfl) rfl ?_
    show Y l g miX5_addAdapted (d + 1) 46 [some (.inr (.inr (some a0))), some (.inr (.inr (some a110))), some (.inr (.inr (some a102))), some (.inl x3), some (.inl x4), some (.inl x5), some (.inl q101.1), some (.inl q104.1)] [] q109 _
    refine y_iload (i := 7) dX5_addAdapted_46 rfl ?_
    obtain rfl := Option.some.inj hf
    exact y_ret (v := some (.inl q104.1)) dX5_addAdapted_48 rfl
set_option maxRecDepth 100000 in
theorem dX9_addSome_0 : decode prog_11_method_8_code 0 = .ok (.iload_n 2, 1) := by decide +kernel
set_option maxRecDepth 100000 in
theorem dX9_addSome_1 : decode prog_11_method_8_code 1 = .ok (.istore 4, 2) := by decide +kernel
set_option maxRecDepth 100000 in
theorem dX9_addSome_3 : decode prog_11_method_8_code 3 = .ok (.iload 4, 2) := by decide +kernel
set_option maxRecDepth 100000 in
theorem dX9_addSome_5 : decode prog_11_method_8_code 5 = .ok (.iload_n 3, 1) := by decide +kernel
set_option maxRecDepth 100000 in
theorem dX9_addSome_6 : decode prog_11_method_8_code 6 = .ok (.if_icmp .ge 25, 3) := by decide +kernel
set_option maxRecDepth 100000 in
theorem dX9_addSome_9 : decode prog_11_method_8_code 9 = .ok (.aload_n 0, 1) := by decide +kernel
set_option maxRecDepth 100000 in
theorem dX9_addSome_10 : decode prog_11_method_8_code 10 = .ok (.aload_n 1, 1) := by decide +kernel
set_option maxRecDepth 100000 in
theorem dX9_addSome_11 : decode prog_11_method_8_code 11 = .ok (.iload 4, 2) := by decide +kernel
set_option maxRecDepth 100000 in
theorem dX9_addSome_13 : decode prog_11_method_8_code 13 = .ok (.invokevirtual 27, 3) := by decide +kernel
set_option maxRecDepth 100000 in
theorem dX9_addSome_16 : decode prog_11_method_8_code 16 = .ok (.aload_n 1, 1) := by decide +kernel
set_option maxRecDepth 100000 in
theorem dX9_addSome_17 : decode prog_11_method_8_code 17 = .ok (.iload 4, 2) := by decide +kernel
set_option maxRecDepth 100000 in
theorem dX9_addSome_19 : decode prog_11_method_8_code 19 = .ok (.invokevirtual 23, 3) := by decide +kernel
set_option maxRecDepth 100000 in
theorem dX9_addSome_22 : decode prog_11_method_8_code 22 = .ok (.invokevirtual 31, 3) := by decide +kernel
set_option maxRecDepth 100000 in
theorem dX9_addSome_25 : decode prog_11_method_8_code 25 = .ok (.iinc 4 1, 3) := by decide +kernel
set_option maxRecDepth 100000 in
theorem dX9_addSome_28 : decode prog_11_method_8_code 28 = .ok (.goto (-25), 3) := by decide +kernel
set_option maxRecDepth 100000 in
theorem dX9_addSome_31 : decode prog_11_method_8_code 31 = .ok (.return_, 1) := by decide +kernel

def fX9_addSome_3 (z : Nat → Nat) : Nat → Nat → Option Nat → Int32 → Int32 → aH → Option aH
  | 0, _, _, _, _, _ => none
  | n + 1, a0, r1, x3, x4, h => (if x3 ≤ x4 then
  some h
  else
  (r1).bind fun a102 =>
  (obO h a102 7).bind fun fs103 =>
  (fX9_kindAt z a102 x4 h).bind fun q101 =>
  (obO q101.2 a102 7).bind fun fs105 =>
  (fX9_numberAt z a102 x4 q101.2).bind fun q104 =>
  (obO q104.2 a0 7).bind fun fs107 =>
  (fX9_add z a0 q101.1 q104.1 q104.2).bind fun q106 =>
  fX9_addSome_3 z n a0 (some a102) x3 (x4 + 1) q106)
set_option maxHeartbeats 4000000 in
set_option maxRecDepth 100000 in
theorem xX9_addSome_3 {l : Launch} {g : aG} {d : Nat} (hK : 1 ≤ d + 1) : ∀ (n : Nat) (a0 : Nat) (r1 : Option Nat) (x3 : Int32) (x4 : Int32) (h : aH) (q : aH), fX9_addSome_3 g.2.2 n a0 r1 x3 x4 h = some q → Y l g miX9_addSome (d + 1) 3 [some (.inr (.inr (some a0))), some (.inr (.inr r1)), none, some (.inl x3), some (.inl x4)] [] h (none, q) := by
  intro n
  induction n with
  | zero => intro a0 r1 x3 x4 h q hf; simp [fX9_addSome_3] at hf
  | succ n ih =>
    intro a0 r1 x3 x4 h q hf
    rw [fX9_addSome_3] at hf
    refine y_iload (i := 4) dX9_addSome_3 rfl ?_
    refine y_iload_n (i := 3) dX9_addSome_5 rfl rfl ?_
    refine y_icmp_ge (tgt := 31) dX9_addSome_6 (by decide) (fun hc => ?_) (fun hc => ?_)
    · rw [if_pos hc] at hf
      obtain rfl := Option.some.inj hf
      exact y_ret (v := none) dX9_addSome_31 rfl
    · rw [if_neg hc] at hf
      refine y_aload_n (i := 0) dX9_addSome_9 rfl rfl ?_
      refine y_aload_n (i := 1) dX9_addSome_10 rfl rfl ?_
      refine y_iload (i := 4) dX9_addSome_11 rfl ?_
      replace hf := bnd hf
      obtain ⟨a102, rfl, hf⟩ := hf
      replace hf := bnd hf
      obtain ⟨fs103, efs103, hf⟩ := hf
      replace hf := bnd hf
      obtain ⟨q101, eq101, hf⟩ := hf
      refine y_callV (mj := miX9_kindAt) (args := [.inl x4]) (st := [.inr (.inr (some a0))]) dX9_addSome_13 (gd_of 539 rfl rfl) (gd_of 387 rfl rfl) (gd_of 388 rfl rfl) okX9_kindAt (obO_spec efs103) rfl rfl (xX9_kindAt (by omega) eq101) (Nat.le_of_ble_eq_true rfl) rfl ?_
      show Y l g miX9_addSome (d + 1) 16 [some (.inr (.inr (some a0))), some (.inr (.inr (some a102))), none, some (.inl x3), some (.inl x4)] [.inl q101.1, .inr (.inr (some a0))] q101.2 _
      refine y_aload_n (i := 1) dX9_addSome_16 rfl rfl ?_
      refine y_iload (i := 4) dX9_addSome_17 rfl ?_
      replace hf := bnd hf
      obtain ⟨fs105, efs105, hf⟩ := hf
      replace hf := bnd hf
      obtain ⟨q104, eq104, hf⟩ := hf
      refine y_callV (mj := miX9_numberAt) (args := [.inl x4]) (st := [.inl q101.1, .inr (.inr (some a0))]) dX9_addSome_19 (gd_of 540 rfl rfl) (gd_of 427 rfl rfl) (gd_of 428 rfl rfl) okX9_numberAt (obO_spec efs105) rfl rfl (xX9_numberAt (by omega) eq104) (Nat.le_of_ble_eq_true rfl) rfl ?_
      show Y l g miX9_addSome (d + 1) 22 [some (.inr (.inr (some a0))), some (.inr (.inr (some a102))), none, some (.inl x3), some (.inl x4)] [.inr (.inl q104.1), .inl q101.1, .inr (.inr (some a0))] q104.2 _
      replace hf := bnd hf
      obtain ⟨fs107, efs107, hf⟩ := hf
      replace hf := bnd hf
      obtain ⟨q106, eq106, hf⟩ := hf
      refine y_callV (mj := miX9_add) (args := [.inl q101.1, .inr (.inl q104.1)]) (st := []) dX9_addSome_22 (gd_of 541 rfl rfl) (gd_of 480 rfl rfl) (gd_of 481 rfl rfl) okX9_add (obO_spec efs107) rfl rfl (xX9_add (by omega) eq106) (Nat.le_of_ble_eq_true rfl) rfl ?_
      show Y l g miX9_addSome (d + 1) 25 [some (.inr (.inr (some a0))), some (.inr (.inr (some a102))), none, some (.inl x3), some (.inl x4)] [] q106 _
      refine y_iinc (i := 4) (y := 1) (lv2 := [some (.inr (.inr (some a0))), some (.inr (.inr (some a102))), none, some (.inl x3), some (.inl (x4 + 1))]) dX9_addSome_25 rfl (by decide) (by decide) rfl ?_
      refine y_goto (tgt := 3) dX9_addSome_28 (by decide) ?_
      refine Y.weak (lv2 := [some (.inr (.inr (some a0))), some (.inr (.inr (some a102))), none, some (.inl x3), some (.inl (x4 + 1))]) [true, true, false, true, true] rfl ?_
      exact ih _ _ _ _ _ _ hf
def fX9_addSome (z : Nat → Nat) (a0 : Nat) (r1 : Option Nat) (x2 : Int32) (x3 : Int32) (h : aH) : Option aH :=
  fX9_addSome_3 z 4000 a0 r1 x3 x2 h
set_option maxHeartbeats 4000000 in
set_option maxRecDepth 100000 in
theorem xX9_addSome {l : Launch} {g : aG} {d : Nat} (hK : 1 ≤ d) {a0 : Nat} {r1 : Option Nat} {x2 : Int32} {x3 : Int32} {h : aH} {q : aH} (hf : fX9_addSome g.2.2 a0 r1 x2 x3 h = some q) : Ev l g miX9_addSome d [.inr (.inr (some a0)), .inr (.inr r1), .inl x2, .inl x3] h (none, q) := by
  obtain ⟨d, rfl⟩ : ∃ e, d = e + 1 := ⟨d - 1, by omega⟩
  refine ⟨?_, rfl, Nat.le_of_ble_eq_true rfl⟩
  unfold fX9_addSome at hf
  show Y l g miX9_addSome (d + 1) 0 [some (.inr (.inr (some a0))), some (.inr (.inr r1)), some (.inl x2), some (.inl x3), none] [] h _
  refine y_iload_n (i := 2) dX9_addSome_0 rfl rfl ?_
  refine y_istore (i := 4) (lv2 := [some (.inr (.inr (some a0))), some (.inr (.inr r1)), some (.inl x2), some (.inl x3), some (.inl x2)]) dX9_addSome_1 (by decide) rfl ?_
  refine Y.weak (lv2 := [some (.inr (.inr (some a0))), some (.inr (.inr r1)), none, some (.inl x3), some (.inl x2)]) [true, true, false, true, true] rfl ?_
  exact xX9_addSome_3 hK 4000 _ _ _ _ _ _ hf
set_option maxRecDepth 100000 in
theorem dX5_isCaught_0 : decode prog_7_method_26_code 0 = .ok (.iload_n 0, 1) := by decide +kernel
set_option maxRecDepth 100000 in
theorem dX5_isCaught_1 : decode prog_7_method_26_code 1 = .ok (.iconst 1, 1) := by decide +kernel
set_option maxRecDepth 100000 in
theorem dX5_isCaught_2 : decode prog_7_method_26_code 2 = .ok (.if_icmp .lt 9, 3) := by decide +kernel
set_option maxRecDepth 100000 in
theorem dX5_isCaught_5 : decode prog_7_method_26_code 5 = .ok (.iload_n 0, 1) := by decide +kernel
set_option maxRecDepth 100000 in
theorem dX5_isCaught_6 : decode prog_7_method_26_code 6 = .ok (.bipush 6, 2) := by decide +kernel
set_option maxRecDepth 100000 in
theorem dX5_isCaught_8 : decode prog_7_method_26_code 8 = .ok (.if_icmp .le 9, 3) := by decide +kernel
set_option maxRecDepth 100000 in
theorem dX5_isCaught_11 : decode prog_7_method_26_code 11 = .ok (.iload_n 0, 1) := by decide +kernel
set_option maxRecDepth 100000 in
theorem dX5_isCaught_12 : decode prog_7_method_26_code 12 = .ok (.bipush 100, 2) := by decide +kernel
set_option maxRecDepth 100000 in
theorem dX5_isCaught_14 : decode prog_7_method_26_code 14 = .ok (.if_icmp .lt 7, 3) := by decide +kernel
set_option maxRecDepth 100000 in
theorem dX5_isCaught_17 : decode prog_7_method_26_code 17 = .ok (.iconst 1, 1) := by decide +kernel
set_option maxRecDepth 100000 in
theorem dX5_isCaught_18 : decode prog_7_method_26_code 18 = .ok (.goto 4, 3) := by decide +kernel
set_option maxRecDepth 100000 in
theorem dX5_isCaught_21 : decode prog_7_method_26_code 21 = .ok (.iconst 0, 1) := by decide +kernel
set_option maxRecDepth 100000 in
theorem dX5_isCaught_22 : decode prog_7_method_26_code 22 = .ok (.istore_n 2, 1) := by decide +kernel
set_option maxRecDepth 100000 in
theorem dX5_isCaught_23 : decode prog_7_method_26_code 23 = .ok (.iload_n 2, 1) := by decide +kernel
set_option maxRecDepth 100000 in
theorem dX5_isCaught_24 : decode prog_7_method_26_code 24 = .ok (.ifCond .eq 16, 3) := by decide +kernel
set_option maxRecDepth 100000 in
theorem dX5_isCaught_27 : decode prog_7_method_26_code 27 = .ok (.iload_n 1, 1) := by decide +kernel
set_option maxRecDepth 100000 in
theorem dX5_isCaught_28 : decode prog_7_method_26_code 28 = .ok (.ifCond .eq 8, 3) := by decide +kernel
set_option maxRecDepth 100000 in
theorem dX5_isCaught_31 : decode prog_7_method_26_code 31 = .ok (.iload_n 1, 1) := by decide +kernel
set_option maxRecDepth 100000 in
theorem dX5_isCaught_32 : decode prog_7_method_26_code 32 = .ok (.iload_n 0, 1) := by decide +kernel
set_option maxRecDepth 100000 in
theorem dX5_isCaught_33 : decode prog_7_method_26_code 33 = .ok (.if_icmp .ne 7, 3) := by decide +kernel
set_option maxRecDepth 100000 in
theorem dX5_isCaught_36 : decode prog_7_method_26_code 36 = .ok (.iconst 1, 1) := by decide +kernel
set_option maxRecDepth 100000 in
theorem dX5_isCaught_37 : decode prog_7_method_26_code 37 = .ok (.goto 4, 3) := by decide +kernel
set_option maxRecDepth 100000 in
theorem dX5_isCaught_40 : decode prog_7_method_26_code 40 = .ok (.iconst 0, 1) := by decide +kernel
set_option maxRecDepth 100000 in
theorem dX5_isCaught_41 : decode prog_7_method_26_code 41 = .ok (.ireturn, 1) := by decide +kernel

def fX5_isCaught_22 (z : Nat → Nat) (x0 : Int32) (x1 : Int32) (sx0 : Int32) (h : aH) : Option (Int32 × aH) :=
  (if sx0 = 0 then
  some (0, h)
  else
  (if x1 = 0 then
  some (1, h)
  else
  (if x1 = x0 then
  some (1, h)
  else
  some (0, h))))
set_option maxHeartbeats 4000000 in
set_option maxRecDepth 100000 in
theorem xX5_isCaught_22 {l : Launch} {g : aG} {d : Nat} (hK : 0 ≤ d) {x0 : Int32} {x1 : Int32} {sx0 : Int32} {h : aH} {q : Int32 × aH} (hf : fX5_isCaught_22 g.2.2 x0 x1 sx0 h = some q) : Y l g miX5_isCaught d 22 [some (.inl x0), some (.inl x1), none] [.inl sx0] h (some (.inl q.1), q.2) := by
  unfold fX5_isCaught_22 at hf
  refine y_istore_n (i := 2) (lv2 := [some (.inl x0), some (.inl x1), some (.inl sx0)]) dX5_isCaught_22 rfl (by decide) rfl ?_
  refine y_iload_n (i := 2) dX5_isCaught_23 rfl rfl ?_
  refine y_if_eq (tgt := 40) dX5_isCaught_24 (by decide) (fun hc => ?_) (fun hc => ?_)
  · rw [if_pos hc] at hf
    refine y_iconst (v := 0) dX5_isCaught_40 (by decide) ?_
    obtain rfl := Option.some.inj hf
    exact y_ret (v := some (.inl 0)) dX5_isCaught_41 rfl
  · rw [if_neg hc] at hf
    refine y_iload_n (i := 1) dX5_isCaught_27 rfl rfl ?_
    refine y_if_eq (tgt := 36) dX5_isCaught_28 (by decide) (fun hc => ?_) (fun hc => ?_)
    · rw [if_pos hc] at hf
      refine y_iconst (v := 1) dX5_isCaught_36 (by decide) ?_
      refine y_goto (tgt := 41) dX5_isCaught_37 (by decide) ?_
      obtain rfl := Option.some.inj hf
      exact y_ret (v := some (.inl 1)) dX5_isCaught_41 rfl
    · rw [if_neg hc] at hf
      refine y_iload_n (i := 1) dX5_isCaught_31 rfl rfl ?_
      refine y_iload_n (i := 0) dX5_isCaught_32 rfl rfl ?_
      refine y_icmp_ne (tgt := 40) dX5_isCaught_33 (by decide) (fun hc => ?_) (fun hc => ?_)
      · rw [if_neg hc] at hf
        refine y_iconst (v := 0) dX5_isCaught_40 (by decide) ?_
        obtain rfl := Option.some.inj hf
        exact y_ret (v := some (.inl 0)) dX5_isCaught_41 rfl
      · rw [if_pos hc] at hf
        refine y_iconst (v := 1) dX5_isCaught_36 (by decide) ?_
        refine y_goto (tgt := 41) dX5_isCaught_37 (by decide) ?_
        obtain rfl := Option.some.inj hf
        exact y_ret (v := some (.inl 1)) dX5_isCaught_41 rfl
def fX5_isCaught_17 (z : Nat → Nat) (x0 : Int32) (x1 : Int32) (h : aH) : Option (Int32 × aH) :=
  fX5_isCaught_22 z x0 x1 1 h
set_option maxHeartbeats 4000000 in
set_option maxRecDepth 100000 in
theorem xX5_isCaught_17 {l : Launch} {g : aG} {d : Nat} (hK : 0 ≤ d) {x0 : Int32} {x1 : Int32} {h : aH} {q : Int32 × aH} (hf : fX5_isCaught_17 g.2.2 x0 x1 h = some q) : Y l g miX5_isCaught d 17 [some (.inl x0), some (.inl x1), none] [] h (some (.inl q.1), q.2) := by
  unfold fX5_isCaught_17 at hf
  refine y_iconst (v := 1) dX5_isCaught_17 (by decide) ?_
  refine y_goto (tgt := 22) dX5_isCaught_18 (by decide) ?_
  refine Y.weak (lv2 := [some (.inl x0), some (.inl x1), none]) [true, true, false] rfl ?_
  exact xX5_isCaught_22 hK hf
def fX5_isCaught_11 (z : Nat → Nat) (x0 : Int32) (x1 : Int32) (h : aH) : Option (Int32 × aH) :=
  (if x0 < 100 then
  fX5_isCaught_22 z x0 x1 0 h
  else
  fX5_isCaught_17 z x0 x1 h)
set_option maxHeartbeats 4000000 in
set_option maxRecDepth 100000 in
theorem xX5_isCaught_11 {l : Launch} {g : aG} {d : Nat} (hK : 0 ≤ d) {x0 : Int32} {x1 : Int32} {h : aH} {q : Int32 × aH} (hf : fX5_isCaught_11 g.2.2 x0 x1 h = some q) : Y l g miX5_isCaught d 11 [some (.inl x0), some (.inl x1), none] [] h (some (.inl q.1), q.2) := by
  unfold fX5_isCaught_11 at hf
  refine y_iload_n (i := 0) dX5_isCaught_11 rfl rfl ?_
  refine y_bipush (v := 100) dX5_isCaught_12 (by decide) ?_
  refine y_icmp_lt (tgt := 21) dX5_isCaught_14 (by decide) (fun hc => ?_) (fun hc => ?_)
  · rw [if_pos hc] at hf
    refine y_iconst (v := 0) dX5_isCaught_21 (by decide) ?_
    refine Y.weak (lv2 := [some (.inl x0), some (.inl x1), none]) [true, true, false] rfl ?_
    exact xX5_isCaught_22 hK hf
  · rw [if_neg hc] at hf
    refine Y.weak (lv2 := [some (.inl x0), some (.inl x1), none]) [true, true, false] rfl ?_
    exact xX5_isCaught_17 hK hf
def fX5_isCaught_e (z : Nat → Nat) (x0 : Int32) (x1 : Int32) (h : aH) : Option (Int32 × aH) :=
  (if x0 < 1 then
  fX5_isCaught_11 z x0 x1 h
  else
  (if x0 ≤ 6 then
  fX5_isCaught_17 z x0 x1 h
  else
  fX5_isCaught_11 z x0 x1 h))
def fX5_isCaught (z : Nat → Nat) (x0 : Int32) (x1 : Int32) (h : aH) : Option (Int32 × aH) := chkB (fX5_isCaught_e z x0 x1 h)
set_option maxHeartbeats 4000000 in
set_option maxRecDepth 100000 in
theorem xX5_isCaught {l : Launch} {g : aG} {d : Nat} (hK : 0 ≤ d) {x0 : Int32} {x1 : Int32} {h : aH} {q : Int32 × aH} (hf : fX5_isCaught g.2.2 x0 x1 h = some q) : Ev l g miX5_isCaught d [.inl x0, .inl x1] h (some (.inl q.1), q.2) := by
  replace hf := chkB_spec hf
  obtain ⟨hf, hb⟩ := hf
  refine ⟨?_, Or.inr ⟨rfl, hb⟩, Nat.le_of_ble_eq_true rfl⟩
  unfold fX5_isCaught_e at hf
  show Y l g miX5_isCaught d 0 [some (.inl x0), some (.inl x1), none] [] h _
  refine y_iload_n (i := 0) dX5_isCaught_0 rfl rfl ?_
  refine y_iconst (v := 1) dX5_isCaught_1 (by decide) ?_
  refine y_icmp_lt (tgt := 11) dX5_isCaught_2 (by decide) (fun hc => ?_) (fun hc => ?_)
  · rw [if_pos hc] at hf
    refine Y.weak (lv2 := [some (.inl x0), some (.inl x1), none]) [true, true, false] rfl ?_
    exact xX5_isCaught_11 hK hf
  · rw [if_neg hc] at hf
    refine y_iload_n (i := 0) dX5_isCaught_5 rfl rfl ?_
    refine y_bipush (v := 6) dX5_isCaught_6 (by decide) ?_
    refine y_icmp_le (tgt := 17) dX5_isCaught_8 (by decide) (fun hc => ?_) (fun hc => ?_)
    · rw [if_pos hc] at hf
      refine Y.weak (lv2 := [some (.inl x0), some (.inl x1), none]) [true, true, false] rfl ?_
      exact xX5_isCaught_17 hK hf
    · rw [if_neg hc] at hf
      refine Y.weak (lv2 := [some (.inl x0), some (.inl x1), none]) [true, true, false] rfl ?_
      exact xX5_isCaught_11 hK hf
set_option maxRecDepth 100000 in
theorem dX5_passBehind_0 : decode prog_7_method_17_code 0 = .ok (.aload_n 0, 1) := by decide +kernel
set_option maxRecDepth 100000 in
theorem dX5_passBehind_1 : decode prog_7_method_17_code 1 = .ok (.getfield 11, 3) := by decide +kernel
set_option maxRecDepth 100000 in
theorem dX5_passBehind_4 : decode prog_7_method_17_code 4 = .ok (.iload_n 2, 1) := by decide +kernel
set_option maxRecDepth 100000 in
theorem dX5_passBehind_5 : decode prog_7_method_17_code 5 = .ok (.aaload, 1) := by decide +kernel
set_option maxRecDepth 100000 in
theorem dX5_passBehind_6 : decode prog_7_method_17_code 6 = .ok (.astore_n 3, 1) := by decide +kernel
set_option maxRecDepth 100000 in
theorem dX5_passBehind_7 : decode prog_7_method_17_code 7 = .ok (.aload_n 0, 1) := by decide +kernel
set_option maxRecDepth 100000 in
theorem dX5_passBehind_8 : decode prog_7_method_17_code 8 = .ok (.iload_n 2, 1) := by decide +kernel
set_option maxRecDepth 100000 in
theorem dX5_passBehind_9 : decode prog_7_method_17_code 9 = .ok (.invokevirtual 94, 3) := by decide +kernel
set_option maxRecDepth 100000 in
theorem dX5_passBehind_12 : decode prog_7_method_17_code 12 = .ok (.astore 4, 2) := by decide +kernel
set_option maxRecDepth 100000 in
theorem dX5_passBehind_14 : decode prog_7_method_17_code 14 = .ok (.aload 4, 2) := by decide +kernel
set_option maxRecDepth 100000 in
theorem dX5_passBehind_16 : decode prog_7_method_17_code 16 = .ok (.iconst 0, 1) := by decide +kernel
set_option maxRecDepth 100000 in
theorem dX5_passBehind_17 : decode prog_7_method_17_code 17 = .ok (.iload_n 1, 1) := by decide +kernel
set_option maxRecDepth 100000 in
theorem dX5_passBehind_18 : decode prog_7_method_17_code 18 = .ok (.i2l, 1) := by decide +kernel
set_option maxRecDepth 100000 in
theorem dX5_passBehind_19 : decode prog_7_method_17_code 19 = .ok (.invokevirtual 90, 3) := by decide +kernel
set_option maxRecDepth 100000 in
theorem dX5_passBehind_22 : decode prog_7_method_17_code 22 = .ok (.aload 4, 2) := by decide +kernel
set_option maxRecDepth 100000 in
theorem dX5_passBehind_24 : decode prog_7_method_17_code 24 = .ok (.aload_n 3, 1) := by decide +kernel
set_option maxRecDepth 100000 in
theorem dX5_passBehind_25 : decode prog_7_method_17_code 25 = .ok (.iconst 0, 1) := by decide +kernel
set_option maxRecDepth 100000 in
theorem dX5_passBehind_26 : decode prog_7_method_17_code 26 = .ok (.aload_n 3, 1) := by decide +kernel
set_option maxRecDepth 100000 in
theorem dX5_passBehind_27 : decode prog_7_method_17_code 27 = .ok (.invokevirtual 67, 3) := by decide +kernel
set_option maxRecDepth 100000 in
theorem dX5_passBehind_30 : decode prog_7_method_17_code 30 = .ok (.invokevirtual 213, 3) := by decide +kernel
set_option maxRecDepth 100000 in
theorem dX5_passBehind_33 : decode prog_7_method_17_code 33 = .ok (.return_, 1) := by decide +kernel
set_option maxRecDepth 100000 in
theorem okX5_opened : mOk miX5_opened 1 := ⟨(gd_of 534 rfl rfl), (gd_of 75 rfl rfl), by decide +kernel, ⟨by decide +kernel, by decide +kernel, by decide +kernel⟩, by decide⟩
set_option maxRecDepth 100000 in
theorem okX9_addSome : mOk miX9_addSome 3 := ⟨(gd_of 538 rfl rfl), (gd_of 74 rfl rfl), by decide +kernel, ⟨by decide +kernel, by decide +kernel, by decide +kernel⟩, by decide⟩
def fX5_passBehind (z : Nat → Nat) (a0 : Nat) (x1 : Int32) (x2 : Int32) (h : aH) : Option aH :=
  (rdR h a0 [4] 1).bind fun r101 =>
  (r101).bind fun a102 =>
  (arR h a102 x2).bind fun r103 =>
  (obO h a0 4).bind fun fs105 =>
  (fX5_opened z a0 x2 h).bind fun q104 =>
  (q104.1).bind fun a107 =>
  (obO q104.2 a107 7).bind fun fs108 =>
  (fX9_add z a107 0 (Int32.toInt64 x1) q104.2).bind fun q106 =>
  (r103).bind fun a110 =>
  (obO q106 a110 7).bind fun fs111 =>
  (fX9_count z a110 q106).bind fun q109 =>
  (obO q109.2 a107 7).bind fun fs113 =>
  (fX9_addSome z a107 (some a110) 0 q109.1 q109.2).bind fun q112 =>
  some q112
set_option maxHeartbeats 4000000 in
set_option maxRecDepth 100000 in
theorem xX5_passBehind {l : Launch} {g : aG} {d : Nat} (hK : 2 ≤ d) {a0 : Nat} {x1 : Int32} {x2 : Int32} {h : aH} {q : aH} (hf : fX5_passBehind g.2.2 a0 x1 x2 h = some q) : Ev l g miX5_passBehind d [.inr (.inr (some a0)), .inl x1, .inl x2] h (none, q) := by
  obtain ⟨d, rfl⟩ : ∃ e, d = e + 1 := ⟨d - 1, by omega⟩
  refine ⟨?_, rfl, Nat.le_of_ble_eq_true rfl⟩
  unfold fX5_passBehind at hf
  show Y l g miX5_passBehind (d + 1) 0 [some (.inr (.inr (some a0))), some (.inl x1), some (.inl x2), none, none] [] h _
  refine y_aload_n (i := 0) dX5_passBehind_0 rfl rfl ?_
  replace hf := bnd hf
  obtain ⟨r101, er101, hf⟩ := hf
  refine y_getR er101 fl5_11 dX5_passBehind_1 ?_
  refine y_iload_n (i := 2) dX5_passBehind_4 rfl rfl ?_
  replace hf := bnd hf
  obtain ⟨a102, rfl, hf⟩ := hf
  replace hf := bnd hf
  obtain ⟨r103, er103, hf⟩ := hf
  refine y_aaload er103 dX5_passBehind_5 ?_
  refine y_astore_n (i := 3) (lv2 := [some (.inr (.inr (some a0))), some (.inl x1), some (.inl x2), some (.inr (.inr r103)), none]) dX5_passBehind_6 rfl (by decide) rfl ?_
  refine y_aload_n (i := 0) dX5_passBehind_7 rfl rfl ?_
  refine y_iload_n (i := 2) dX5_passBehind_8 rfl rfl ?_
  replace hf := bnd hf
  obtain ⟨fs105, efs105, hf⟩ := hf
  replace hf := bnd hf
  obtain ⟨q104, eq104, hf⟩ := hf
  refine y_callV (mj := miX5_opened) (args := [.inl x2]) (st := []) dX5_passBehind_9 (gd_of 531 rfl rfl) (gd_of 533 rfl rfl) (gd_of 9 rfl rfl) okX5_opened (obO_spec efs105) rfl rfl (xX5_opened (by omega) eq104) (Nat.le_of_ble_eq_true rfl) rfl ?_
  show Y l g miX5_passBehind (d + 1) 12 [some (.inr (.inr (some a0))), some (.inl x1), some (.inl x2), some (.inr (.inr r103)), none] [.inr (.inr q104.1)] q104.2 _
  refine y_astore (i := 4) (lv2 := [some (.inr (.inr (some a0))), some (.inl x1), some (.inl x2), some (.inr (.inr r103)), some (.inr (.inr q104.1))]) dX5_passBehind_12 (by decide) rfl ?_
  refine y_aload (i := 4) dX5_passBehind_14 rfl ?_
  refine y_iconst (v := 0) dX5_passBehind_16 (by decide) ?_
  refine y_iload_n (i := 1) dX5_passBehind_17 rfl rfl ?_
  refine y_i2l dX5_passBehind_18 ?_
  replace hf := bnd hf
  obtain ⟨a107, ea107, hf⟩ := hf
  rw [ea107]
  replace hf := bnd hf
  obtain ⟨fs108, efs108, hf⟩ := hf
  replace hf := bnd hf
  obtain ⟨q106, eq106, hf⟩ := hf
  refine y_callV (mj := miX9_add) (args := [.inl 0, .inr (.inl (Int32.toInt64 x1))]) (st := []) dX5_passBehind_19 (gd_of 517 rfl rfl) (gd_of 480 rfl rfl) (gd_of 481 rfl rfl) okX9_add (obO_spec efs108) rfl rfl (xX9_add (by omega) eq106) (Nat.le_of_ble_eq_true rfl) rfl ?_
  show Y l g miX5_passBehind (d + 1) 22 [some (.inr (.inr (some a0))), some (.inl x1), some (.inl x2), some (.inr (.inr r103)), some (.inr (.inr (some a107)))] [] q106 _
  refine y_aload (i := 4) dX5_passBehind_22 rfl ?_
  refine y_aload_n (i := 3) dX5_passBehind_24 rfl rfl ?_
  refine y_iconst (v := 0) dX5_passBehind_25 (by decide) ?_
  refine y_aload_n (i := 3) dX5_passBehind_26 rfl rfl ?_
  replace hf := bnd hf
  obtain ⟨a110, rfl, hf⟩ := hf
  replace hf := bnd hf
  obtain ⟨fs111, efs111, hf⟩ := hf
  replace hf := bnd hf
  obtain ⟨q109, eq109, hf⟩ := hf
  refine y_callV (mj := miX9_count) (args := []) (st := [.inl 0, .inr (.inr (some a110)), .inr (.inr (some a107))]) dX5_passBehind_27 (gd_of 499 rfl rfl) (gd_of 383 rfl rfl) (gd_of 384 rfl rfl) okX9_count (obO_spec efs111) rfl rfl (xX9_count (by omega) eq109) (Nat.le_of_ble_eq_true rfl) rfl ?_
  show Y l g miX5_passBehind (d + 1) 30 [some (.inr (.inr (some a0))), some (.inl x1), some (.inl x2), some (.inr (.inr (some a110))), some (.inr (.inr (some a107)))] [.inl q109.1, .inl 0, .inr (.inr (some a110)), .inr (.inr (some a107))] q109.2 _
  replace hf := bnd hf
  obtain ⟨fs113, efs113, hf⟩ := hf
  replace hf := bnd hf
  obtain ⟨q112, eq112, hf⟩ := hf
  refine y_callV (mj := miX9_addSome) (args := [.inr (.inr (some a110)), .inl 0, .inl q109.1]) (st := []) dX5_passBehind_30 (gd_of 535 rfl rfl) (gd_of 536 rfl rfl) (gd_of 537 rfl rfl) okX9_addSome (obO_spec efs113) rfl rfl (xX9_addSome (by omega) eq112) (Nat.le_of_ble_eq_true rfl) rfl ?_
  show Y l g miX5_passBehind (d + 1) 33 [some (.inr (.inr (some a0))), some (.inl x1), some (.inl x2), some (.inr (.inr (some a110))), some (.inr (.inr (some a107)))] [] q112 _
  obtain rfl := Option.some.inj hf
  exact y_ret (v := none) dX5_passBehind_33 rfl
set_option maxRecDepth 100000 in
theorem dX5_passFirst_0 : decode prog_7_method_16_code 0 = .ok (.aload_n 0, 1) := by decide +kernel
set_option maxRecDepth 100000 in
theorem dX5_passFirst_1 : decode prog_7_method_16_code 1 = .ok (.iload_n 2, 1) := by decide +kernel
set_option maxRecDepth 100000 in
theorem dX5_passFirst_2 : decode prog_7_method_16_code 2 = .ok (.invokevirtual 94, 3) := by decide +kernel
set_option maxRecDepth 100000 in
theorem dX5_passFirst_5 : decode prog_7_method_16_code 5 = .ok (.aload_n 0, 1) := by decide +kernel
set_option maxRecDepth 100000 in
theorem dX5_passFirst_6 : decode prog_7_method_16_code 6 = .ok (.getfield 11, 3) := by decide +kernel
set_option maxRecDepth 100000 in
theorem dX5_passFirst_9 : decode prog_7_method_16_code 9 = .ok (.iload_n 2, 1) := by decide +kernel
set_option maxRecDepth 100000 in
theorem dX5_passFirst_10 : decode prog_7_method_16_code 10 = .ok (.aaload, 1) := by decide +kernel
set_option maxRecDepth 100000 in
theorem dX5_passFirst_11 : decode prog_7_method_16_code 11 = .ok (.iconst 0, 1) := by decide +kernel
set_option maxRecDepth 100000 in
theorem dX5_passFirst_12 : decode prog_7_method_16_code 12 = .ok (.iload_n 1, 1) := by decide +kernel
set_option maxRecDepth 100000 in
theorem dX5_passFirst_13 : decode prog_7_method_16_code 13 = .ok (.invokevirtual 213, 3) := by decide +kernel
set_option maxRecDepth 100000 in
theorem dX5_passFirst_16 : decode prog_7_method_16_code 16 = .ok (.return_, 1) := by decide +kernel

def fX5_passFirst (z : Nat → Nat) (a0 : Nat) (x1 : Int32) (x2 : Int32) (h : aH) : Option aH :=
  (obO h a0 4).bind fun fs102 =>
  (fX5_opened z a0 x2 h).bind fun q101 =>
  (rdR q101.2 a0 [4] 1).bind fun r103 =>
  (r103).bind fun a104 =>
  (arR q101.2 a104 x2).bind fun r105 =>
  (q101.1).bind fun a107 =>
  (obO q101.2 a107 7).bind fun fs108 =>
  (fX9_addSome z a107 r105 0 x1 q101.2).bind fun q106 =>
  some q106
set_option maxHeartbeats 4000000 in
set_option maxRecDepth 100000 in
theorem xX5_passFirst {l : Launch} {g : aG} {d : Nat} (hK : 2 ≤ d) {a0 : Nat} {x1 : Int32} {x2 : Int32} {h : aH} {q : aH} (hf : fX5_passFirst g.2.2 a0 x1 x2 h = some q) : Ev l g miX5_passFirst d [.inr (.inr (some a0)), .inl x1, .inl x2] h (none, q) := by
  obtain ⟨d, rfl⟩ : ∃ e, d = e + 1 := ⟨d - 1, by omega⟩
  refine ⟨?_, rfl, Nat.le_of_ble_eq_true rfl⟩
  unfold fX5_passFirst at hf
  show Y l g miX5_passFirst (d + 1) 0 [some (.inr (.inr (some a0))), some (.inl x1), some (.inl x2)] [] h _
  refine y_aload_n (i := 0) dX5_passFirst_0 rfl rfl ?_
  refine y_iload_n (i := 2) dX5_passFirst_1 rfl rfl ?_
  replace hf := bnd hf
  obtain ⟨fs102, efs102, hf⟩ := hf
  replace hf := bnd hf
  obtain ⟨q101, eq101, hf⟩ := hf
  refine y_callV (mj := miX5_opened) (args := [.inl x2]) (st := []) dX5_passFirst_2 (gd_of 531 rfl rfl) (gd_of 533 rfl rfl) (gd_of 9 rfl rfl) okX5_opened (obO_spec efs102) rfl rfl (xX5_opened (by omega) eq101) (Nat.le_of_ble_eq_true rfl) rfl ?_
  show Y l g miX5_passFirst (d + 1) 5 [some (.inr (.inr (some a0))), some (.inl x1), some (.inl x2)] [.inr (.inr q101.1)] q101.2 _
  refine y_aload_n (i := 0) dX5_passFirst_5 rfl rfl ?_
  replace hf := bnd hf
  obtain ⟨r103, er103, hf⟩ := hf
  refine y_getR er103 fl5_11 dX5_passFirst_6 ?_
  refine y_iload_n (i := 2) dX5_passFirst_9 rfl rfl ?_
  replace hf := bnd hf
  obtain ⟨a104, rfl, hf⟩ := hf
  replace hf := bnd hf
  obtain ⟨r105, er105, hf⟩ := hf
  refine y_aaload er105 dX5_passFirst_10 ?_
  refine y_iconst (v := 0) dX5_passFirst_11 (by decide) ?_
  refine y_iload_n (i := 1) dX5_passFirst_12 rfl rfl ?_
  replace hf := bnd hf
  obtain ⟨a107, ea107, hf⟩ := hf
  rw [ea107]
  replace hf := bnd hf
  obtain ⟨fs108, efs108, hf⟩ := hf
  replace hf := bnd hf
  obtain ⟨q106, eq106, hf⟩ := hf
  refine y_callV (mj := miX9_addSome) (args := [.inr (.inr r105), .inl 0, .inl x1]) (st := []) dX5_passFirst_13 (gd_of 535 rfl rfl) (gd_of 536 rfl rfl) (gd_of 537 rfl rfl) okX9_addSome (obO_spec efs108) rfl rfl (xX9_addSome (by omega) eq106) (Nat.le_of_ble_eq_true rfl) rfl ?_
  show Y l g miX5_passFirst (d + 1) 16 [some (.inr (.inr (some a0))), some (.inl x1), some (.inl x2)] [] q106 _
  obtain rfl := Option.some.inj hf
  exact y_ret (v := none) dX5_passFirst_16 rfl
set_option maxRecDepth 100000 in
theorem dX4_make_0 : decode prog_6_method_8_code 0 = .ok (.aload_n 0, 1) := by decide +kernel
set_option maxRecDepth 100000 in
theorem dX4_make_1 : decode prog_6_method_8_code 1 = .ok (.getfield 18, 3) := by decide +kernel
set_option maxRecDepth 100000 in
theorem dX4_make_4 : decode prog_6_method_8_code 4 = .ok (.bipush 60, 2) := by decide +kernel
set_option maxRecDepth 100000 in
theorem dX4_make_6 : decode prog_6_method_8_code 6 = .ok (.if_icmp .ge 13, 3) := by decide +kernel
set_option maxRecDepth 100000 in
theorem dX4_make_9 : decode prog_6_method_8_code 9 = .ok (.iload_n 1, 1) := by decide +kernel
set_option maxRecDepth 100000 in
theorem dX4_make_10 : decode prog_6_method_8_code 10 = .ok (.ifCond .lt 9, 3) := by decide +kernel
set_option maxRecDepth 100000 in
theorem dX4_make_13 : decode prog_6_method_8_code 13 = .ok (.iload_n 1, 1) := by decide +kernel
set_option maxRecDepth 100000 in
theorem dX4_make_14 : decode prog_6_method_8_code 14 = .ok (.bipush 20, 2) := by decide +kernel
set_option maxRecDepth 100000 in
theorem dX4_make_16 : decode prog_6_method_8_code 16 = .ok (.if_icmp .le 5, 3) := by decide +kernel
set_option maxRecDepth 100000 in
theorem dX4_make_19 : decode prog_6_method_8_code 19 = .ok (.iconst (-1), 1) := by decide +kernel
set_option maxRecDepth 100000 in
theorem dX4_make_20 : decode prog_6_method_8_code 20 = .ok (.ireturn, 1) := by decide +kernel
set_option maxRecDepth 100000 in
theorem dX4_make_21 : decode prog_6_method_8_code 21 = .ok (.aload_n 0, 1) := by decide +kernel
set_option maxRecDepth 100000 in
theorem dX4_make_22 : decode prog_6_method_8_code 22 = .ok (.getfield 15, 3) := by decide +kernel
set_option maxRecDepth 100000 in
theorem dX4_make_25 : decode prog_6_method_8_code 25 = .ok (.aload_n 0, 1) := by decide +kernel
set_option maxRecDepth 100000 in
theorem dX4_make_26 : decode prog_6_method_8_code 26 = .ok (.getfield 18, 3) := by decide +kernel
set_option maxRecDepth 100000 in
theorem dX4_make_29 : decode prog_6_method_8_code 29 = .ok (.iload_n 1, 1) := by decide +kernel
set_option maxRecDepth 100000 in
theorem dX4_make_30 : decode prog_6_method_8_code 30 = .ok (.iastore, 1) := by decide +kernel
set_option maxRecDepth 100000 in
theorem dX4_make_31 : decode prog_6_method_8_code 31 = .ok (.aload_n 0, 1) := by decide +kernel
set_option maxRecDepth 100000 in
theorem dX4_make_32 : decode prog_6_method_8_code 32 = .ok (.dup, 1) := by decide +kernel
set_option maxRecDepth 100000 in
theorem dX4_make_33 : decode prog_6_method_8_code 33 = .ok (.getfield 18, 3) := by decide +kernel
set_option maxRecDepth 100000 in
theorem dX4_make_36 : decode prog_6_method_8_code 36 = .ok (.iconst 1, 1) := by decide +kernel
set_option maxRecDepth 100000 in
theorem dX4_make_37 : decode prog_6_method_8_code 37 = .ok (.iadd, 1) := by decide +kernel
set_option maxRecDepth 100000 in
theorem dX4_make_38 : decode prog_6_method_8_code 38 = .ok (.putfield 18, 3) := by decide +kernel
set_option maxRecDepth 100000 in
theorem dX4_make_41 : decode prog_6_method_8_code 41 = .ok (.aload_n 0, 1) := by decide +kernel
set_option maxRecDepth 100000 in
theorem dX4_make_42 : decode prog_6_method_8_code 42 = .ok (.getfield 18, 3) := by decide +kernel
set_option maxRecDepth 100000 in
theorem dX4_make_45 : decode prog_6_method_8_code 45 = .ok (.iconst 1, 1) := by decide +kernel
set_option maxRecDepth 100000 in
theorem dX4_make_46 : decode prog_6_method_8_code 46 = .ok (.isub, 1) := by decide +kernel
set_option maxRecDepth 100000 in
theorem dX4_make_47 : decode prog_6_method_8_code 47 = .ok (.ireturn, 1) := by decide +kernel
set_option maxRecDepth 100000 in
theorem pl4_18_m {mi : aM} {x : Int32} (ho : "HandleModels$Rows" = mi.1.cls) : ∀ c ∈ ([3] : List Nat), FL mi.1.cls 18 c 2 ∧ FT c 2 (.inl x) ∧ FW mi c 2 := fun c h9 => by
  have h8 := fl4_18 c h9
  rw [← ho]
  refine ⟨h8, ?_⟩
  simp only [List.mem_cons, List.not_mem_nil, or_false] at h9
  rcases h9 with rfl
  · exact ⟨ft_int rfl (by decide +kernel), ⟨_, rfl, Or.inl rfl⟩⟩
def fX4_make (z : Nat → Nat) (a0 : Nat) (x1 : Int32) (h : aH) : Option (Int32 × aH) :=
  (rdI h a0 [3] 2).bind fun x101 =>
  (if 60 ≤ x101 then
  some ((-1), h)
  else
  (if x1 < 0 then
  some ((-1), h)
  else
  (if x1 ≤ 20 then
  (rdR h a0 [3] 1).bind fun r102 =>
  (rdI h a0 [3] 2).bind fun x103 =>
  (r102).bind fun a104 =>
  (awI h a104 x103 x1).bind fun h105 =>
  (rdI h105 a0 [3] 2).bind fun x106 =>
  (wrF h105 a0 [3] 2 (.inl (x106 + 1))).bind fun h107 =>
  (rdI h107 a0 [3] 2).bind fun x108 =>
  some ((x108 - 1), h107)
  else
  some ((-1), h))))
set_option maxHeartbeats 4000000 in
set_option maxRecDepth 100000 in
theorem xX4_make {l : Launch} {g : aG} {d : Nat} (hK : 0 ≤ d) {a0 : Nat} {x1 : Int32} {h : aH} {q : Int32 × aH} (hf : fX4_make g.2.2 a0 x1 h = some q) : Ev l g miX4_make d [.inr (.inr (some a0)), .inl x1] h (some (.inl q.1), q.2) := by
  refine ⟨?_, Or.inl rfl, Nat.le_of_ble_eq_true rfl⟩
  unfold fX4_make at hf
  show Y l g miX4_make d 0 [some (.inr (.inr (some a0))), some (.inl x1)] [] h _
  refine y_aload_n (i := 0) dX4_make_0 rfl rfl ?_
  replace hf := bnd hf
  obtain ⟨x101, ex101, hf⟩ := hf
  refine y_getI ex101 fl4_18 dX4_make_1 ?_
  refine y_bipush (v := 60) dX4_make_4 (by decide) ?_
  refine y_icmp_ge (tgt := 19) dX4_make_6 (by decide) (fun hc => ?_) (fun hc => ?_)
  · rw [if_pos hc] at hf
    refine y_iconst (v := (-1)) dX4_make_19 (by decide) ?_
    obtain rfl := Option.some.inj hf
    exact y_ret (v := some (.inl (-1))) dX4_make_20 rfl
  · rw [if_neg hc] at hf
    refine y_iload_n (i := 1) dX4_make_9 rfl rfl ?_
    refine y_if_lt (tgt := 19) dX4_make_10 (by decide) (fun hc => ?_) (fun hc => ?_)
    · rw [if_pos hc] at hf
      refine y_iconst (v := (-1)) dX4_make_19 (by decide) ?_
      obtain rfl := Option.some.inj hf
      exact y_ret (v := some (.inl (-1))) dX4_make_20 rfl
    · rw [if_neg hc] at hf
      refine y_iload_n (i := 1) dX4_make_13 rfl rfl ?_
      refine y_bipush (v := 20) dX4_make_14 (by decide) ?_
      refine y_icmp_le (tgt := 21) dX4_make_16 (by decide) (fun hc => ?_) (fun hc => ?_)
      · rw [if_pos hc] at hf
        refine y_aload_n (i := 0) dX4_make_21 rfl rfl ?_
        replace hf := bnd hf
        obtain ⟨r102, er102, hf⟩ := hf
        refine y_getR er102 fl4_15 dX4_make_22 ?_
        refine y_aload_n (i := 0) dX4_make_25 rfl rfl ?_
        replace hf := bnd hf
        obtain ⟨x103, ex103, hf⟩ := hf
        refine y_getI ex103 fl4_18 dX4_make_26 ?_
        refine y_iload_n (i := 1) dX4_make_29 rfl rfl ?_
        replace hf := bnd hf
        obtain ⟨a104, rfl, hf⟩ := hf
        replace hf := bnd hf
        obtain ⟨h105, eh105, hf⟩ := hf
        refine y_iastore eh105 dX4_make_30 ?_
        refine y_aload_n (i := 0) dX4_make_31 rfl rfl ?_
        refine y_dup dX4_make_32 rfl ?_
        replace hf := bnd hf
        obtain ⟨x106, ex106, hf⟩ := hf
        refine y_getI ex106 fl4_18 dX4_make_33 ?_
        refine y_iconst (v := 1) dX4_make_36 (by decide) ?_
        refine y_iadd dX4_make_37 ?_
        replace hf := bnd hf
        obtain ⟨h107, eh107, hf⟩ := hf
        refine y_put eh107 (pl4_18_m rfl) dX4_make_38 ?_
        refine y_aload_n (i := 0) dX4_make_41 rfl rfl ?_
        replace hf := bnd hf
        obtain ⟨x108, ex108, hf⟩ := hf
        refine y_getI ex108 fl4_18 dX4_make_42 ?_
        refine y_iconst (v := 1) dX4_make_45 (by decide) ?_
        refine y_isub dX4_make_46 ?_
        obtain rfl := Option.some.inj hf
        exact y_ret (v := some (.inl (x108 - 1))) dX4_make_47 rfl
      · rw [if_neg hc] at hf
        refine y_iconst (v := (-1)) dX4_make_19 (by decide) ?_
        obtain rfl := Option.some.inj hf
        exact y_ret (v := some (.inl (-1))) dX4_make_20 rfl
set_option maxRecDepth 100000 in
theorem dX4_put_0 : decode prog_6_method_7_code 0 = .ok (.aload_n 0, 1) := by decide +kernel
set_option maxRecDepth 100000 in
theorem dX4_put_1 : decode prog_6_method_7_code 1 = .ok (.iload_n 1, 1) := by decide +kernel
set_option maxRecDepth 100000 in
theorem dX4_put_2 : decode prog_6_method_7_code 2 = .ok (.iload_n 2, 1) := by decide +kernel
set_option maxRecDepth 100000 in
theorem dX4_put_3 : decode prog_6_method_7_code 3 = .ok (.invokevirtual 26, 3) := by decide +kernel
set_option maxRecDepth 100000 in
theorem dX4_put_6 : decode prog_6_method_7_code 6 = .ok (.ifCond .eq 15, 3) := by decide +kernel
set_option maxRecDepth 100000 in
theorem dX4_put_9 : decode prog_6_method_7_code 9 = .ok (.aload_n 0, 1) := by decide +kernel
set_option maxRecDepth 100000 in
theorem dX4_put_10 : decode prog_6_method_7_code 10 = .ok (.getfield 9, 3) := by decide +kernel
set_option maxRecDepth 100000 in
theorem dX4_put_13 : decode prog_6_method_7_code 13 = .ok (.iload_n 1, 1) := by decide +kernel
set_option maxRecDepth 100000 in
theorem dX4_put_14 : decode prog_6_method_7_code 14 = .ok (.bipush 20, 2) := by decide +kernel
set_option maxRecDepth 100000 in
theorem dX4_put_16 : decode prog_6_method_7_code 16 = .ok (.imul, 1) := by decide +kernel
set_option maxRecDepth 100000 in
theorem dX4_put_17 : decode prog_6_method_7_code 17 = .ok (.iload_n 2, 1) := by decide +kernel
set_option maxRecDepth 100000 in
theorem dX4_put_18 : decode prog_6_method_7_code 18 = .ok (.iadd, 1) := by decide +kernel
set_option maxRecDepth 100000 in
theorem dX4_put_19 : decode prog_6_method_7_code 19 = .ok (.iload_n 3, 1) := by decide +kernel
set_option maxRecDepth 100000 in
theorem dX4_put_20 : decode prog_6_method_7_code 20 = .ok (.iastore, 1) := by decide +kernel
set_option maxRecDepth 100000 in
theorem dX4_put_21 : decode prog_6_method_7_code 21 = .ok (.return_, 1) := by decide +kernel

def fX4_put (z : Nat → Nat) (a0 : Nat) (x1 : Int32) (x2 : Int32) (x3 : Int32) (h : aH) : Option aH :=
  (obO h a0 3).bind fun fs102 =>
  (fX4_hasItem z a0 x1 x2 h).bind fun q101 =>
  (if q101.1 = 0 then
  some q101.2
  else
  (rdR q101.2 a0 [3] 0).bind fun r103 =>
  (r103).bind fun a104 =>
  (awI q101.2 a104 ((x1 * 20) + x2) x3).bind fun h105 =>
  some h105)
set_option maxHeartbeats 4000000 in
set_option maxRecDepth 100000 in
theorem xX4_put {l : Launch} {g : aG} {d : Nat} (hK : 2 ≤ d) {a0 : Nat} {x1 : Int32} {x2 : Int32} {x3 : Int32} {h : aH} {q : aH} (hf : fX4_put g.2.2 a0 x1 x2 x3 h = some q) : Ev l g miX4_put d [.inr (.inr (some a0)), .inl x1, .inl x2, .inl x3] h (none, q) := by
  obtain ⟨d, rfl⟩ : ∃ e, d = e + 1 := ⟨d - 1, by omega⟩
  refine ⟨?_, rfl, Nat.le_of_ble_eq_true rfl⟩
  unfold fX4_put at hf
  show Y l g miX4_put (d + 1) 0 [some (.inr (.inr (some a0))), some (.inl x1), some (.inl x2), some (.inl x3)] [] h _
  refine y_aload_n (i := 0) dX4_put_0 rfl rfl ?_
  refine y_iload_n (i := 1) dX4_put_1 rfl rfl ?_
  refine y_iload_n (i := 2) dX4_put_2 rfl rfl ?_
  replace hf := bnd hf
  obtain ⟨fs102, efs102, hf⟩ := hf
  replace hf := bnd hf
  obtain ⟨q101, eq101, hf⟩ := hf
  refine y_callV (mj := miX4_hasItem) (args := [.inl x1, .inl x2]) (st := []) dX4_put_3 (gd_of 458 rfl rfl) (gd_of 450 rfl rfl) (gd_of 451 rfl rfl) okX4_hasItem (obO_spec efs102) rfl rfl (xX4_hasItem (by omega) eq101) (Nat.le_of_ble_eq_true rfl) rfl ?_
  show Y l g miX4_put (d + 1) 6 [some (.inr (.inr (some a0))), some (.inl x1), some (.inl x2), some (.inl x3)] [.inl q101.1] q101.2 _
  refine y_if_eq (tgt := 21) dX4_put_6 (by decide) (fun hc => ?_) (fun hc => ?_)
  · rw [if_pos hc] at hf
    obtain rfl := Option.some.inj hf
    exact y_ret (v := none) dX4_put_21 rfl
  · rw [if_neg hc] at hf
    refine y_aload_n (i := 0) dX4_put_9 rfl rfl ?_
    replace hf := bnd hf
    obtain ⟨r103, er103, hf⟩ := hf
    refine y_getR er103 fl4_9 dX4_put_10 ?_
    refine y_iload_n (i := 1) dX4_put_13 rfl rfl ?_
    refine y_bipush (v := 20) dX4_put_14 (by decide) ?_
    refine y_imul dX4_put_16 ?_
    refine y_iload_n (i := 2) dX4_put_17 rfl rfl ?_
    refine y_iadd dX4_put_18 ?_
    refine y_iload_n (i := 3) dX4_put_19 rfl rfl ?_
    replace hf := bnd hf
    obtain ⟨a104, rfl, hf⟩ := hf
    replace hf := bnd hf
    obtain ⟨h105, eh105, hf⟩ := hf
    refine y_iastore eh105 dX4_put_20 ?_
    obtain rfl := Option.some.inj hf
    exact y_ret (v := none) dX4_put_21 rfl
set_option maxRecDepth 100000 in
theorem dX9_intAt_0 : decode prog_11_method_5_code 0 = .ok (.aload_n 0, 1) := by decide +kernel
set_option maxRecDepth 100000 in
theorem dX9_intAt_1 : decode prog_11_method_5_code 1 = .ok (.iload_n 1, 1) := by decide +kernel
set_option maxRecDepth 100000 in
theorem dX9_intAt_2 : decode prog_11_method_5_code 2 = .ok (.invokevirtual 23, 3) := by decide +kernel
set_option maxRecDepth 100000 in
theorem dX9_intAt_5 : decode prog_11_method_5_code 5 = .ok (.l2i, 1) := by decide +kernel
set_option maxRecDepth 100000 in
theorem dX9_intAt_6 : decode prog_11_method_5_code 6 = .ok (.ireturn, 1) := by decide +kernel

def fX9_intAt (z : Nat → Nat) (a0 : Nat) (x1 : Int32) (h : aH) : Option (Int32 × aH) :=
  (obO h a0 7).bind fun fs102 =>
  (fX9_numberAt z a0 x1 h).bind fun q101 =>
  some ((Int64.toInt32 q101.1), q101.2)
set_option maxHeartbeats 4000000 in
set_option maxRecDepth 100000 in
theorem xX9_intAt {l : Launch} {g : aG} {d : Nat} (hK : 1 ≤ d) {a0 : Nat} {x1 : Int32} {h : aH} {q : Int32 × aH} (hf : fX9_intAt g.2.2 a0 x1 h = some q) : Ev l g miX9_intAt d [.inr (.inr (some a0)), .inl x1] h (some (.inl q.1), q.2) := by
  obtain ⟨d, rfl⟩ : ∃ e, d = e + 1 := ⟨d - 1, by omega⟩
  refine ⟨?_, Or.inl rfl, Nat.le_of_ble_eq_true rfl⟩
  unfold fX9_intAt at hf
  show Y l g miX9_intAt (d + 1) 0 [some (.inr (.inr (some a0))), some (.inl x1)] [] h _
  refine y_aload_n (i := 0) dX9_intAt_0 rfl rfl ?_
  refine y_iload_n (i := 1) dX9_intAt_1 rfl rfl ?_
  replace hf := bnd hf
  obtain ⟨fs102, efs102, hf⟩ := hf
  replace hf := bnd hf
  obtain ⟨q101, eq101, hf⟩ := hf
  refine y_callV (mj := miX9_numberAt) (args := [.inl x1]) (st := []) dX9_intAt_2 (gd_of 540 rfl rfl) (gd_of 427 rfl rfl) (gd_of 428 rfl rfl) okX9_numberAt (obO_spec efs102) rfl rfl (xX9_numberAt (by omega) eq101) (Nat.le_of_ble_eq_true rfl) rfl ?_
  show Y l g miX9_intAt (d + 1) 5 [some (.inr (.inr (some a0))), some (.inl x1)] [.inr (.inl q101.1)] q101.2 _
  refine y_l2i dX9_intAt_5 ?_
  obtain rfl := Option.some.inj hf
  exact y_ret (v := some (.inl (Int64.toInt32 q101.1))) dX9_intAt_6 rfl
set_option maxRecDepth 100000 in
theorem dX6_placeAt_0 : decode prog_8_method_18_code 0 = .ok (.iload_n 0, 1) := by decide +kernel
set_option maxRecDepth 100000 in
theorem dX6_placeAt_1 : decode prog_8_method_18_code 1 = .ok (.istore_n 3, 1) := by decide +kernel
set_option maxRecDepth 100000 in
theorem dX6_placeAt_2 : decode prog_8_method_18_code 2 = .ok (.iload_n 1, 1) := by decide +kernel
set_option maxRecDepth 100000 in
theorem dX6_placeAt_3 : decode prog_8_method_18_code 3 = .ok (.iconst 1, 1) := by decide +kernel
set_option maxRecDepth 100000 in
theorem dX6_placeAt_4 : decode prog_8_method_18_code 4 = .ok (.isub, 1) := by decide +kernel
set_option maxRecDepth 100000 in
theorem dX6_placeAt_5 : decode prog_8_method_18_code 5 = .ok (.istore 4, 2) := by decide +kernel
set_option maxRecDepth 100000 in
theorem dX6_placeAt_7 : decode prog_8_method_18_code 7 = .ok (.iload 4, 2) := by decide +kernel
set_option maxRecDepth 100000 in
theorem dX6_placeAt_9 : decode prog_8_method_18_code 9 = .ok (.iload_n 2, 1) := by decide +kernel
set_option maxRecDepth 100000 in
theorem dX6_placeAt_10 : decode prog_8_method_18_code 10 = .ok (.if_icmp .le 14, 3) := by decide +kernel
set_option maxRecDepth 100000 in
theorem dX6_placeAt_13 : decode prog_8_method_18_code 13 = .ok (.iload_n 3, 1) := by decide +kernel
set_option maxRecDepth 100000 in
theorem dX6_placeAt_14 : decode prog_8_method_18_code 14 = .ok (.bipush 10, 2) := by decide +kernel
set_option maxRecDepth 100000 in
theorem dX6_placeAt_16 : decode prog_8_method_18_code 16 = .ok (.idiv, 1) := by decide +kernel
set_option maxRecDepth 100000 in
theorem dX6_placeAt_17 : decode prog_8_method_18_code 17 = .ok (.istore_n 3, 1) := by decide +kernel
set_option maxRecDepth 100000 in
theorem dX6_placeAt_18 : decode prog_8_method_18_code 18 = .ok (.iinc 4 (-1), 3) := by decide +kernel
set_option maxRecDepth 100000 in
theorem dX6_placeAt_21 : decode prog_8_method_18_code 21 = .ok (.goto (-14), 3) := by decide +kernel
set_option maxRecDepth 100000 in
theorem dX6_placeAt_24 : decode prog_8_method_18_code 24 = .ok (.iload_n 3, 1) := by decide +kernel
set_option maxRecDepth 100000 in
theorem dX6_placeAt_25 : decode prog_8_method_18_code 25 = .ok (.bipush 10, 2) := by decide +kernel
set_option maxRecDepth 100000 in
theorem dX6_placeAt_27 : decode prog_8_method_18_code 27 = .ok (.irem, 1) := by decide +kernel
set_option maxRecDepth 100000 in
theorem dX6_placeAt_28 : decode prog_8_method_18_code 28 = .ok (.ireturn, 1) := by decide +kernel

def fX6_placeAt_7 (z : Nat → Nat) : Nat → Int32 → Int32 → Int32 → aH → Option (Int32 × aH)
  | 0, _, _, _, _ => none
  | n + 1, x2, x3, x4, h => (if x4 ≤ x2 then
  some ((x3 - x3 / 10 * 10), h)
  else
  fX6_placeAt_7 z n x2 (x3 / 10) (x4 + (-1)) h)
set_option maxHeartbeats 4000000 in
set_option maxRecDepth 100000 in
theorem xX6_placeAt_7 {l : Launch} {g : aG} {d : Nat} (hK : 0 ≤ d) : ∀ (n : Nat) (x2 : Int32) (x3 : Int32) (x4 : Int32) (h : aH) (q : Int32 × aH), fX6_placeAt_7 g.2.2 n x2 x3 x4 h = some q → Y l g miX6_placeAt d 7 [none, none, some (.inl x2), some (.inl x3), some (.inl x4)] [] h (some (.inl q.1), q.2) := by
  intro n
  induction n with
  | zero => intro x2 x3 x4 h q hf; simp [fX6_placeAt_7] at hf
  | succ n ih =>
    intro x2 x3 x4 h q hf
    rw [fX6_placeAt_7] at hf
    refine y_iload (i := 4) dX6_placeAt_7 rfl ?_
    refine y_iload_n (i := 2) dX6_placeAt_9 rfl rfl ?_
    refine y_icmp_le (tgt := 24) dX6_placeAt_10 (by decide) (fun hc => ?_) (fun hc => ?_)
    · rw [if_pos hc] at hf
      refine y_iload_n (i := 3) dX6_placeAt_24 rfl rfl ?_
      refine y_bipush (v := 10) dX6_placeAt_25 (by decide) ?_
      refine y_irem dX6_placeAt_27 (by decide) ?_
      obtain rfl := Option.some.inj hf
      exact y_ret (v := some (.inl (x3 - x3 / 10 * 10))) dX6_placeAt_28 rfl
    · rw [if_neg hc] at hf
      refine y_iload_n (i := 3) dX6_placeAt_13 rfl rfl ?_
      refine y_bipush (v := 10) dX6_placeAt_14 (by decide) ?_
      refine y_idiv dX6_placeAt_16 (by decide) ?_
      refine y_istore_n (i := 3) (lv2 := [none, none, some (.inl x2), some (.inl (x3 / 10)), some (.inl x4)]) dX6_placeAt_17 rfl (by decide) rfl ?_
      refine y_iinc (i := 4) (y := (-1)) (lv2 := [none, none, some (.inl x2), some (.inl (x3 / 10)), some (.inl (x4 + (-1)))]) dX6_placeAt_18 rfl (by decide) (by decide) rfl ?_
      refine y_goto (tgt := 7) dX6_placeAt_21 (by decide) ?_
      refine Y.weak (lv2 := [none, none, some (.inl x2), some (.inl (x3 / 10)), some (.inl (x4 + (-1)))]) [false, false, true, true, true] rfl ?_
      exact ih _ _ _ _ _ hf
def fX6_placeAt (z : Nat → Nat) (x0 : Int32) (x1 : Int32) (x2 : Int32) (h : aH) : Option (Int32 × aH) :=
  fX6_placeAt_7 z 4000 x2 x0 (x1 - 1) h
set_option maxHeartbeats 4000000 in
set_option maxRecDepth 100000 in
theorem xX6_placeAt {l : Launch} {g : aG} {d : Nat} (hK : 0 ≤ d) {x0 : Int32} {x1 : Int32} {x2 : Int32} {h : aH} {q : Int32 × aH} (hf : fX6_placeAt g.2.2 x0 x1 x2 h = some q) : Ev l g miX6_placeAt d [.inl x0, .inl x1, .inl x2] h (some (.inl q.1), q.2) := by
  refine ⟨?_, Or.inl rfl, Nat.le_of_ble_eq_true rfl⟩
  unfold fX6_placeAt at hf
  show Y l g miX6_placeAt d 0 [some (.inl x0), some (.inl x1), some (.inl x2), none, none] [] h _
  refine y_iload_n (i := 0) dX6_placeAt_0 rfl rfl ?_
  refine y_istore_n (i := 3) (lv2 := [some (.inl x0), some (.inl x1), some (.inl x2), some (.inl x0), none]) dX6_placeAt_1 rfl (by decide) rfl ?_
  refine y_iload_n (i := 1) dX6_placeAt_2 rfl rfl ?_
  refine y_iconst (v := 1) dX6_placeAt_3 (by decide) ?_
  refine y_isub dX6_placeAt_4 ?_
  refine y_istore (i := 4) (lv2 := [some (.inl x0), some (.inl x1), some (.inl x2), some (.inl x0), some (.inl (x1 - 1))]) dX6_placeAt_5 (by decide) rfl ?_
  refine Y.weak (lv2 := [none, none, some (.inl x2), some (.inl x0), some (.inl (x1 - 1))]) [false, false, true, true, true] rfl ?_
  exact xX6_placeAt_7 hK 4000 _ _ _ _ _ hf
set_option maxRecDepth 100000 in
theorem dX4_lengthOf_0 : decode prog_6_method_5_code 0 = .ok (.aload_n 0, 1) := by decide +kernel
set_option maxRecDepth 100000 in
theorem dX4_lengthOf_1 : decode prog_6_method_5_code 1 = .ok (.iload_n 1, 1) := by decide +kernel
set_option maxRecDepth 100000 in
theorem dX4_lengthOf_2 : decode prog_6_method_5_code 2 = .ok (.i2l, 1) := by decide +kernel
set_option maxRecDepth 100000 in
theorem dX4_lengthOf_3 : decode prog_6_method_5_code 3 = .ok (.invokevirtual 22, 3) := by decide +kernel
set_option maxRecDepth 100000 in
theorem dX4_lengthOf_6 : decode prog_6_method_5_code 6 = .ok (.ifCond .eq 12, 3) := by decide +kernel
set_option maxRecDepth 100000 in
theorem dX4_lengthOf_9 : decode prog_6_method_5_code 9 = .ok (.aload_n 0, 1) := by decide +kernel
set_option maxRecDepth 100000 in
theorem dX4_lengthOf_10 : decode prog_6_method_5_code 10 = .ok (.getfield 15, 3) := by decide +kernel
set_option maxRecDepth 100000 in
theorem dX4_lengthOf_13 : decode prog_6_method_5_code 13 = .ok (.iload_n 1, 1) := by decide +kernel
set_option maxRecDepth 100000 in
theorem dX4_lengthOf_14 : decode prog_6_method_5_code 14 = .ok (.iaload, 1) := by decide +kernel
set_option maxRecDepth 100000 in
theorem dX4_lengthOf_15 : decode prog_6_method_5_code 15 = .ok (.goto 4, 3) := by decide +kernel
set_option maxRecDepth 100000 in
theorem dX4_lengthOf_18 : decode prog_6_method_5_code 18 = .ok (.iconst 0, 1) := by decide +kernel
set_option maxRecDepth 100000 in
theorem dX4_lengthOf_19 : decode prog_6_method_5_code 19 = .ok (.ireturn, 1) := by decide +kernel

def fX4_lengthOf (z : Nat → Nat) (a0 : Nat) (x1 : Int32) (h : aH) : Option (Int32 × aH) :=
  (obO h a0 3).bind fun fs102 =>
  (fX4_has z a0 (Int32.toInt64 x1) h).bind fun q101 =>
  (if q101.1 = 0 then
  some (0, q101.2)
  else
  (rdR q101.2 a0 [3] 1).bind fun r103 =>
  (r103).bind fun a104 =>
  (arI q101.2 a104 x1).bind fun x105 =>
  some (x105, q101.2))
set_option maxHeartbeats 4000000 in
set_option maxRecDepth 100000 in
theorem xX4_lengthOf {l : Launch} {g : aG} {d : Nat} (hK : 1 ≤ d) {a0 : Nat} {x1 : Int32} {h : aH} {q : Int32 × aH} (hf : fX4_lengthOf g.2.2 a0 x1 h = some q) : Ev l g miX4_lengthOf d [.inr (.inr (some a0)), .inl x1] h (some (.inl q.1), q.2) := by
  obtain ⟨d, rfl⟩ : ∃ e, d = e + 1 := ⟨d - 1, by omega⟩
  refine ⟨?_, Or.inl rfl, Nat.le_of_ble_eq_true rfl⟩
  unfold fX4_lengthOf at hf
  show Y l g miX4_lengthOf (d + 1) 0 [some (.inr (.inr (some a0))), some (.inl x1)] [] h _
  refine y_aload_n (i := 0) dX4_lengthOf_0 rfl rfl ?_
  refine y_iload_n (i := 1) dX4_lengthOf_1 rfl rfl ?_
  refine y_i2l dX4_lengthOf_2 ?_
  replace hf := bnd hf
  obtain ⟨fs102, efs102, hf⟩ := hf
  replace hf := bnd hf
  obtain ⟨q101, eq101, hf⟩ := hf
  refine y_callV (mj := miX4_has) (args := [.inr (.inl (Int32.toInt64 x1))]) (st := []) dX4_lengthOf_3 (gd_of 453 rfl rfl) (gd_of 200 rfl rfl) (gd_of 201 rfl rfl) okX4_has (obO_spec efs102) rfl rfl (xX4_has (by omega) eq101) (Nat.le_of_ble_eq_true rfl) rfl ?_
  show Y l g miX4_lengthOf (d + 1) 6 [some (.inr (.inr (some a0))), some (.inl x1)] [.inl q101.1] q101.2 _
  refine y_if_eq (tgt := 18) dX4_lengthOf_6 (by decide) (fun hc => ?_) (fun hc => ?_)
  · rw [if_pos hc] at hf
    refine y_iconst (v := 0) dX4_lengthOf_18 (by decide) ?_
    obtain rfl := Option.some.inj hf
    exact y_ret (v := some (.inl 0)) dX4_lengthOf_19 rfl
  · rw [if_neg hc] at hf
    refine y_aload_n (i := 0) dX4_lengthOf_9 rfl rfl ?_
    replace hf := bnd hf
    obtain ⟨r103, er103, hf⟩ := hf
    refine y_getR er103 fl4_15 dX4_lengthOf_10 ?_
    refine y_iload_n (i := 1) dX4_lengthOf_13 rfl rfl ?_
    replace hf := bnd hf
    obtain ⟨a104, rfl, hf⟩ := hf
    replace hf := bnd hf
    obtain ⟨x105, ex105, hf⟩ := hf
    refine y_iaload ex105 dX4_lengthOf_14 ?_
    refine y_goto (tgt := 19) dX4_lengthOf_15 (by decide) ?_
    obtain rfl := Option.some.inj hf
    exact y_ret (v := some (.inl x105)) dX4_lengthOf_19 rfl
set_option maxRecDepth 100000 in
theorem dX5_countOnce_0 : decode prog_7_method_13_code 0 = .ok (.aload_n 0, 1) := by decide +kernel
set_option maxRecDepth 100000 in
theorem dX5_countOnce_1 : decode prog_7_method_13_code 1 = .ok (.dup, 1) := by decide +kernel
set_option maxRecDepth 100000 in
theorem dX5_countOnce_2 : decode prog_7_method_13_code 2 = .ok (.getfield 21, 3) := by decide +kernel
set_option maxRecDepth 100000 in
theorem dX5_countOnce_5 : decode prog_7_method_13_code 5 = .ok (.iconst 1, 1) := by decide +kernel
set_option maxRecDepth 100000 in
theorem dX5_countOnce_6 : decode prog_7_method_13_code 6 = .ok (.iadd, 1) := by decide +kernel
set_option maxRecDepth 100000 in
theorem dX5_countOnce_7 : decode prog_7_method_13_code 7 = .ok (.putfield 21, 3) := by decide +kernel
set_option maxRecDepth 100000 in
theorem dX5_countOnce_10 : decode prog_7_method_13_code 10 = .ok (.aload_n 0, 1) := by decide +kernel
set_option maxRecDepth 100000 in
theorem dX5_countOnce_11 : decode prog_7_method_13_code 11 = .ok (.iconst 0, 1) := by decide +kernel
set_option maxRecDepth 100000 in
theorem dX5_countOnce_12 : decode prog_7_method_13_code 12 = .ok (.aload_n 0, 1) := by decide +kernel
set_option maxRecDepth 100000 in
theorem dX5_countOnce_13 : decode prog_7_method_13_code 13 = .ok (.getfield 21, 3) := by decide +kernel
set_option maxRecDepth 100000 in
theorem dX5_countOnce_16 : decode prog_7_method_13_code 16 = .ok (.i2l, 1) := by decide +kernel
set_option maxRecDepth 100000 in
theorem dX5_countOnce_17 : decode prog_7_method_13_code 17 = .ok (.invokevirtual 130, 3) := by decide +kernel
set_option maxRecDepth 100000 in
theorem dX5_countOnce_20 : decode prog_7_method_13_code 20 = .ok (.ireturn, 1) := by decide +kernel
set_option maxRecDepth 100000 in
theorem pl5_21_m {mi : aM} {x : Int32} (ho : "HandleModels$Runner" = mi.1.cls) : ∀ c ∈ ([4] : List Nat), FL mi.1.cls 21 c 3 ∧ FT c 3 (.inl x) ∧ FW mi c 3 := fun c h9 => by
  have h8 := fl5_21 c h9
  rw [← ho]
  refine ⟨h8, ?_⟩
  simp only [List.mem_cons, List.not_mem_nil, or_false] at h9
  rcases h9 with rfl
  · exact ⟨ft_int rfl (by decide +kernel), ⟨_, rfl, Or.inl rfl⟩⟩
def fX5_countOnce (z : Nat → Nat) (a0 : Nat) (h : aH) : Option (Int32 × aH) :=
  (rdI h a0 [4] 3).bind fun x101 =>
  (wrF h a0 [4] 3 (.inl (x101 + 1))).bind fun h102 =>
  (rdI h102 a0 [4] 3).bind fun x103 =>
  (obO h102 a0 4).bind fun fs105 =>
  (fX5_give z a0 0 (Int32.toInt64 x103) h102).bind fun q104 =>
  some (q104.1, q104.2)
set_option maxHeartbeats 4000000 in
set_option maxRecDepth 100000 in
theorem xX5_countOnce {l : Launch} {g : aG} {d : Nat} (hK : 1 ≤ d) {a0 : Nat} {h : aH} {q : Int32 × aH} (hf : fX5_countOnce g.2.2 a0 h = some q) : Ev l g miX5_countOnce d [.inr (.inr (some a0))] h (some (.inl q.1), q.2) := by
  obtain ⟨d, rfl⟩ : ∃ e, d = e + 1 := ⟨d - 1, by omega⟩
  refine ⟨?_, Or.inl rfl, Nat.le_of_ble_eq_true rfl⟩
  unfold fX5_countOnce at hf
  show Y l g miX5_countOnce (d + 1) 0 [some (.inr (.inr (some a0)))] [] h _
  refine y_aload_n (i := 0) dX5_countOnce_0 rfl rfl ?_
  refine y_dup dX5_countOnce_1 rfl ?_
  replace hf := bnd hf
  obtain ⟨x101, ex101, hf⟩ := hf
  refine y_getI ex101 fl5_21 dX5_countOnce_2 ?_
  refine y_iconst (v := 1) dX5_countOnce_5 (by decide) ?_
  refine y_iadd dX5_countOnce_6 ?_
  replace hf := bnd hf
  obtain ⟨h102, eh102, hf⟩ := hf
  refine y_put eh102 (pl5_21_m rfl) dX5_countOnce_7 ?_
  refine y_aload_n (i := 0) dX5_countOnce_10 rfl rfl ?_
  refine y_iconst (v := 0) dX5_countOnce_11 (by decide) ?_
  refine y_aload_n (i := 0) dX5_countOnce_12 rfl rfl ?_
  replace hf := bnd hf
  obtain ⟨x103, ex103, hf⟩ := hf
  refine y_getI ex103 fl5_21 dX5_countOnce_13 ?_
  refine y_i2l dX5_countOnce_16 ?_
  replace hf := bnd hf
  obtain ⟨fs105, efs105, hf⟩ := hf
  replace hf := bnd hf
  obtain ⟨q104, eq104, hf⟩ := hf
  refine y_callV (mj := miX5_give) (args := [.inl 0, .inr (.inl (Int32.toInt64 x103))]) (st := []) dX5_countOnce_17 (gd_of 587 rfl rfl) (gd_of 589 rfl rfl) (gd_of 20 rfl rfl) okX5_give (obO_spec efs105) rfl rfl (xX5_give (by omega) eq104) (Nat.le_of_ble_eq_true rfl) rfl ?_
  show Y l g miX5_countOnce (d + 1) 20 [some (.inr (.inr (some a0)))] [.inl q104.1] q104.2 _
  obtain rfl := Option.some.inj hf
  exact y_ret (v := some (.inl q104.1)) dX5_countOnce_20 rfl
set_option maxRecDepth 100000 in
theorem dX5_divide_0 : decode prog_7_method_10_code 0 = .ok (.iload_n 2, 1) := by decide +kernel
set_option maxRecDepth 100000 in
theorem dX5_divide_1 : decode prog_7_method_10_code 1 = .ok (.ifCond .ne 7, 3) := by decide +kernel
set_option maxRecDepth 100000 in
theorem dX5_divide_4 : decode prog_7_method_10_code 4 = .ok (.iconst 1, 1) := by decide +kernel
set_option maxRecDepth 100000 in
theorem dX5_divide_5 : decode prog_7_method_10_code 5 = .ok (.goto 12, 3) := by decide +kernel
set_option maxRecDepth 100000 in
theorem dX5_divide_8 : decode prog_7_method_10_code 8 = .ok (.aload_n 0, 1) := by decide +kernel
set_option maxRecDepth 100000 in
theorem dX5_divide_9 : decode prog_7_method_10_code 9 = .ok (.iconst 0, 1) := by decide +kernel
set_option maxRecDepth 100000 in
theorem dX5_divide_10 : decode prog_7_method_10_code 10 = .ok (.iload_n 1, 1) := by decide +kernel
set_option maxRecDepth 100000 in
theorem dX5_divide_11 : decode prog_7_method_10_code 11 = .ok (.iload_n 2, 1) := by decide +kernel
set_option maxRecDepth 100000 in
theorem dX5_divide_12 : decode prog_7_method_10_code 12 = .ok (.idiv, 1) := by decide +kernel
set_option maxRecDepth 100000 in
theorem dX5_divide_13 : decode prog_7_method_10_code 13 = .ok (.i2l, 1) := by decide +kernel
set_option maxRecDepth 100000 in
theorem dX5_divide_14 : decode prog_7_method_10_code 14 = .ok (.invokevirtual 130, 3) := by decide +kernel
set_option maxRecDepth 100000 in
theorem dX5_divide_17 : decode prog_7_method_10_code 17 = .ok (.ireturn, 1) := by decide +kernel

def fX5_divide (z : Nat → Nat) (a0 : Nat) (x1 : Int32) (x2 : Int32) (h : aH) : Option (Int32 × aH) :=
  (if x2 = 0 then
  some (1, h)
  else
  if x2 = 0 then none else
  (obO h a0 4).bind fun fs103 =>
  (fX5_give z a0 0 (Int32.toInt64 (x1 / x2)) h).bind fun q102 =>
  some (q102.1, q102.2))
set_option maxHeartbeats 4000000 in
set_option maxRecDepth 100000 in
theorem xX5_divide {l : Launch} {g : aG} {d : Nat} (hK : 1 ≤ d) {a0 : Nat} {x1 : Int32} {x2 : Int32} {h : aH} {q : Int32 × aH} (hf : fX5_divide g.2.2 a0 x1 x2 h = some q) : Ev l g miX5_divide d [.inr (.inr (some a0)), .inl x1, .inl x2] h (some (.inl q.1), q.2) := by
  obtain ⟨d, rfl⟩ : ∃ e, d = e + 1 := ⟨d - 1, by omega⟩
  refine ⟨?_, Or.inl rfl, Nat.le_of_ble_eq_true rfl⟩
  unfold fX5_divide at hf
  show Y l g miX5_divide (d + 1) 0 [some (.inr (.inr (some a0))), some (.inl x1), some (.inl x2)] [] h _
  refine y_iload_n (i := 2) dX5_divide_0 rfl rfl ?_
  refine y_if_ne (tgt := 8) dX5_divide_1 (by decide) (fun hc => ?_) (fun hc => ?_)
  · rw [if_neg hc] at hf
    refine y_aload_n (i := 0) dX5_divide_8 rfl rfl ?_
    refine y_iconst (v := 0) dX5_divide_9 (by decide) ?_
    refine y_iload_n (i := 1) dX5_divide_10 rfl rfl ?_
    refine y_iload_n (i := 2) dX5_divide_11 rfl rfl ?_
    by_cases hz101 : x2 = 0
    · rw [if_pos hz101] at hf; cases hf
    rw [if_neg hz101] at hf
    refine y_idiv dX5_divide_12 hz101 ?_
    refine y_i2l dX5_divide_13 ?_
    replace hf := bnd hf
    obtain ⟨fs103, efs103, hf⟩ := hf
    replace hf := bnd hf
    obtain ⟨q102, eq102, hf⟩ := hf
    refine y_callV (mj := miX5_give) (args := [.inl 0, .inr (.inl (Int32.toInt64 (x1 / x2)))]) (st := []) dX5_divide_14 (gd_of 587 rfl rfl) (gd_of 589 rfl rfl) (gd_of 20 rfl rfl) okX5_give (obO_spec efs103) rfl rfl (xX5_give (by omega) eq102) (Nat.le_of_ble_eq_true rfl) rfl ?_
    show Y l g miX5_divide (d + 1) 17 [some (.inr (.inr (some a0))), some (.inl x1), some (.inl x2)] [.inl q102.1] q102.2 _
    obtain rfl := Option.some.inj hf
    exact y_ret (v := some (.inl q102.1)) dX5_divide_17 rfl
  · rw [if_pos hc] at hf
    refine y_iconst (v := 1) dX5_divide_4 (by decide) ?_
    refine y_goto (tgt := 17) dX5_divide_5 (by decide) ?_
    obtain rfl := Option.some.inj hf
    exact y_ret (v := some (.inl 1)) dX5_divide_17 rfl
set_option maxRecDepth 100000 in
theorem dX5_giveFixed_0 : decode prog_7_method_9_code 0 = .ok (.iload_n 1, 1) := by decide +kernel
set_option maxRecDepth 100000 in
theorem dX5_giveFixed_1 : decode prog_7_method_9_code 1 = .ok (.tableswitch 54 1 4 #[31, 54, 39, 47], 31) := by decide +kernel
set_option maxRecDepth 100000 in
theorem dX5_giveFixed_32 : decode prog_7_method_9_code 32 = .ok (.aload_n 0, 1) := by decide +kernel
set_option maxRecDepth 100000 in
theorem dX5_giveFixed_33 : decode prog_7_method_9_code 33 = .ok (.iconst 1, 1) := by decide +kernel
set_option maxRecDepth 100000 in
theorem dX5_giveFixed_34 : decode prog_7_method_9_code 34 = .ok (.iload_n 2, 1) := by decide +kernel
set_option maxRecDepth 100000 in
theorem dX5_giveFixed_35 : decode prog_7_method_9_code 35 = .ok (.i2l, 1) := by decide +kernel
set_option maxRecDepth 100000 in
theorem dX5_giveFixed_36 : decode prog_7_method_9_code 36 = .ok (.invokevirtual 130, 3) := by decide +kernel
set_option maxRecDepth 100000 in
theorem dX5_giveFixed_39 : decode prog_7_method_9_code 39 = .ok (.ireturn, 1) := by decide +kernel
set_option maxRecDepth 100000 in
theorem dX5_giveFixed_40 : decode prog_7_method_9_code 40 = .ok (.aload_n 0, 1) := by decide +kernel
set_option maxRecDepth 100000 in
theorem dX5_giveFixed_41 : decode prog_7_method_9_code 41 = .ok (.iconst 2, 1) := by decide +kernel
set_option maxRecDepth 100000 in
theorem dX5_giveFixed_42 : decode prog_7_method_9_code 42 = .ok (.iload_n 2, 1) := by decide +kernel
set_option maxRecDepth 100000 in
theorem dX5_giveFixed_43 : decode prog_7_method_9_code 43 = .ok (.i2l, 1) := by decide +kernel
set_option maxRecDepth 100000 in
theorem dX5_giveFixed_44 : decode prog_7_method_9_code 44 = .ok (.invokevirtual 130, 3) := by decide +kernel
set_option maxRecDepth 100000 in
theorem dX5_giveFixed_47 : decode prog_7_method_9_code 47 = .ok (.ireturn, 1) := by decide +kernel
set_option maxRecDepth 100000 in
theorem dX5_giveFixed_48 : decode prog_7_method_9_code 48 = .ok (.aload_n 0, 1) := by decide +kernel
set_option maxRecDepth 100000 in
theorem dX5_giveFixed_49 : decode prog_7_method_9_code 49 = .ok (.iconst 3, 1) := by decide +kernel
set_option maxRecDepth 100000 in
theorem dX5_giveFixed_50 : decode prog_7_method_9_code 50 = .ok (.lconst 0, 1) := by decide +kernel
set_option maxRecDepth 100000 in
theorem dX5_giveFixed_51 : decode prog_7_method_9_code 51 = .ok (.invokevirtual 130, 3) := by decide +kernel
set_option maxRecDepth 100000 in
theorem dX5_giveFixed_54 : decode prog_7_method_9_code 54 = .ok (.ireturn, 1) := by decide +kernel
set_option maxRecDepth 100000 in
theorem dX5_giveFixed_55 : decode prog_7_method_9_code 55 = .ok (.aload_n 0, 1) := by decide +kernel
set_option maxRecDepth 100000 in
theorem dX5_giveFixed_56 : decode prog_7_method_9_code 56 = .ok (.iconst 0, 1) := by decide +kernel
set_option maxRecDepth 100000 in
theorem dX5_giveFixed_57 : decode prog_7_method_9_code 57 = .ok (.iload_n 2, 1) := by decide +kernel
set_option maxRecDepth 100000 in
theorem dX5_giveFixed_58 : decode prog_7_method_9_code 58 = .ok (.i2l, 1) := by decide +kernel
set_option maxRecDepth 100000 in
theorem dX5_giveFixed_59 : decode prog_7_method_9_code 59 = .ok (.invokevirtual 130, 3) := by decide +kernel
set_option maxRecDepth 100000 in
theorem dX5_giveFixed_62 : decode prog_7_method_9_code 62 = .ok (.ireturn, 1) := by decide +kernel

def fX5_giveFixed (z : Nat → Nat) (a0 : Nat) (x1 : Int32) (x2 : Int32) (h : aH) : Option (Int32 × aH) :=
  (if x1 = 1 then
  (obO h a0 4).bind fun fs102 =>
  (fX5_give z a0 1 (Int32.toInt64 x2) h).bind fun q101 =>
  some (q101.1, q101.2)
  else
  (if x1 = 2 then
  (obO h a0 4).bind fun fs104 =>
  (fX5_give z a0 0 (Int32.toInt64 x2) h).bind fun q103 =>
  some (q103.1, q103.2)
  else
  (if x1 = 3 then
  (obO h a0 4).bind fun fs106 =>
  (fX5_give z a0 2 (Int32.toInt64 x2) h).bind fun q105 =>
  some (q105.1, q105.2)
  else
  (if x1 = 4 then
  (obO h a0 4).bind fun fs108 =>
  (fX5_give z a0 3 0 h).bind fun q107 =>
  some (q107.1, q107.2)
  else
  (obO h a0 4).bind fun fs110 =>
  (fX5_give z a0 0 (Int32.toInt64 x2) h).bind fun q109 =>
  some (q109.1, q109.2)))))
set_option maxHeartbeats 4000000 in
set_option maxRecDepth 100000 in
theorem xX5_giveFixed {l : Launch} {g : aG} {d : Nat} (hK : 1 ≤ d) {a0 : Nat} {x1 : Int32} {x2 : Int32} {h : aH} {q : Int32 × aH} (hf : fX5_giveFixed g.2.2 a0 x1 x2 h = some q) : Ev l g miX5_giveFixed d [.inr (.inr (some a0)), .inl x1, .inl x2] h (some (.inl q.1), q.2) := by
  obtain ⟨d, rfl⟩ : ∃ e, d = e + 1 := ⟨d - 1, by omega⟩
  refine ⟨?_, Or.inl rfl, Nat.le_of_ble_eq_true rfl⟩
  unfold fX5_giveFixed at hf
  show Y l g miX5_giveFixed (d + 1) 0 [some (.inr (.inr (some a0))), some (.inl x1), some (.inl x2)] [] h _
  refine y_iload_n (i := 1) dX5_giveFixed_0 rfl rfl ?_
  refine y_table dX5_giveFixed_1 [(1, 32), (2, 55), (3, 40), (4, 48)] 55 (by decide) (by decide) (by decide) (by decide) ?_
  refine y_swc (fun hc => ?_) (fun hc => ?_)
  · rw [if_pos hc] at hf
    refine y_aload_n (i := 0) dX5_giveFixed_32 rfl rfl ?_
    refine y_iconst (v := 1) dX5_giveFixed_33 (by decide) ?_
    refine y_iload_n (i := 2) dX5_giveFixed_34 rfl rfl ?_
    refine y_i2l dX5_giveFixed_35 ?_
    replace hf := bnd hf
    obtain ⟨fs102, efs102, hf⟩ := hf
    replace hf := bnd hf
    obtain ⟨q101, eq101, hf⟩ := hf
    refine y_callV (mj := miX5_give) (args := [.inl 1, .inr (.inl (Int32.toInt64 x2))]) (st := []) dX5_giveFixed_36 (gd_of 587 rfl rfl) (gd_of 589 rfl rfl) (gd_of 20 rfl rfl) okX5_give (obO_spec efs102) rfl rfl (xX5_give (by omega) eq101) (Nat.le_of_ble_eq_true rfl) rfl ?_
    show Y l g miX5_giveFixed (d + 1) 39 [some (.inr (.inr (some a0))), some (.inl x1), some (.inl x2)] [.inl q101.1] q101.2 _
    obtain rfl := Option.some.inj hf
    exact y_ret (v := some (.inl q101.1)) dX5_giveFixed_39 rfl
  rw [if_neg hc] at hf
  refine y_swc (fun hc => ?_) (fun hc => ?_)
  · rw [if_pos hc] at hf
    refine y_aload_n (i := 0) dX5_giveFixed_55 rfl rfl ?_
    refine y_iconst (v := 0) dX5_giveFixed_56 (by decide) ?_
    refine y_iload_n (i := 2) dX5_giveFixed_57 rfl rfl ?_
    refine y_i2l dX5_giveFixed_58 ?_
    replace hf := bnd hf
    obtain ⟨fs104, efs104, hf⟩ := hf
    replace hf := bnd hf
    obtain ⟨q103, eq103, hf⟩ := hf
    refine y_callV (mj := miX5_give) (args := [.inl 0, .inr (.inl (Int32.toInt64 x2))]) (st := []) dX5_giveFixed_59 (gd_of 587 rfl rfl) (gd_of 589 rfl rfl) (gd_of 20 rfl rfl) okX5_give (obO_spec efs104) rfl rfl (xX5_give (by omega) eq103) (Nat.le_of_ble_eq_true rfl) rfl ?_
    show Y l g miX5_giveFixed (d + 1) 62 [some (.inr (.inr (some a0))), some (.inl x1), some (.inl x2)] [.inl q103.1] q103.2 _
    obtain rfl := Option.some.inj hf
    exact y_ret (v := some (.inl q103.1)) dX5_giveFixed_62 rfl
  rw [if_neg hc] at hf
  refine y_swc (fun hc => ?_) (fun hc => ?_)
  · rw [if_pos hc] at hf
    refine y_aload_n (i := 0) dX5_giveFixed_40 rfl rfl ?_
    refine y_iconst (v := 2) dX5_giveFixed_41 (by decide) ?_
    refine y_iload_n (i := 2) dX5_giveFixed_42 rfl rfl ?_
    refine y_i2l dX5_giveFixed_43 ?_
    replace hf := bnd hf
    obtain ⟨fs106, efs106, hf⟩ := hf
    replace hf := bnd hf
    obtain ⟨q105, eq105, hf⟩ := hf
    refine y_callV (mj := miX5_give) (args := [.inl 2, .inr (.inl (Int32.toInt64 x2))]) (st := []) dX5_giveFixed_44 (gd_of 587 rfl rfl) (gd_of 589 rfl rfl) (gd_of 20 rfl rfl) okX5_give (obO_spec efs106) rfl rfl (xX5_give (by omega) eq105) (Nat.le_of_ble_eq_true rfl) rfl ?_
    show Y l g miX5_giveFixed (d + 1) 47 [some (.inr (.inr (some a0))), some (.inl x1), some (.inl x2)] [.inl q105.1] q105.2 _
    obtain rfl := Option.some.inj hf
    exact y_ret (v := some (.inl q105.1)) dX5_giveFixed_47 rfl
  rw [if_neg hc] at hf
  refine y_swc (fun hc => ?_) (fun hc => ?_)
  · rw [if_pos hc] at hf
    refine y_aload_n (i := 0) dX5_giveFixed_48 rfl rfl ?_
    refine y_iconst (v := 3) dX5_giveFixed_49 (by decide) ?_
    refine y_lconst (v := 0) dX5_giveFixed_50 (by decide) ?_
    replace hf := bnd hf
    obtain ⟨fs108, efs108, hf⟩ := hf
    replace hf := bnd hf
    obtain ⟨q107, eq107, hf⟩ := hf
    refine y_callV (mj := miX5_give) (args := [.inl 3, .inr (.inl 0)]) (st := []) dX5_giveFixed_51 (gd_of 587 rfl rfl) (gd_of 589 rfl rfl) (gd_of 20 rfl rfl) okX5_give (obO_spec efs108) rfl rfl (xX5_give (by omega) eq107) (Nat.le_of_ble_eq_true rfl) rfl ?_
    show Y l g miX5_giveFixed (d + 1) 54 [some (.inr (.inr (some a0))), some (.inl x1), some (.inl x2)] [.inl q107.1] q107.2 _
    obtain rfl := Option.some.inj hf
    exact y_ret (v := some (.inl q107.1)) dX5_giveFixed_54 rfl
  rw [if_neg hc] at hf
  refine y_swn ?_
  refine y_aload_n (i := 0) dX5_giveFixed_55 rfl rfl ?_
  refine y_iconst (v := 0) dX5_giveFixed_56 (by decide) ?_
  refine y_iload_n (i := 2) dX5_giveFixed_57 rfl rfl ?_
  refine y_i2l dX5_giveFixed_58 ?_
  replace hf := bnd hf
  obtain ⟨fs110, efs110, hf⟩ := hf
  replace hf := bnd hf
  obtain ⟨q109, eq109, hf⟩ := hf
  refine y_callV (mj := miX5_give) (args := [.inl 0, .inr (.inl (Int32.toInt64 x2))]) (st := []) dX5_giveFixed_59 (gd_of 587 rfl rfl) (gd_of 589 rfl rfl) (gd_of 20 rfl rfl) okX5_give (obO_spec efs110) rfl rfl (xX5_give (by omega) eq109) (Nat.le_of_ble_eq_true rfl) rfl ?_
  show Y l g miX5_giveFixed (d + 1) 62 [some (.inr (.inr (some a0))), some (.inl x1), some (.inl x2)] [.inl q109.1] q109.2 _
  obtain rfl := Option.some.inj hf
  exact y_ret (v := some (.inl q109.1)) dX5_giveFixed_62 rfl
set_option maxRecDepth 100000 in
theorem dX5_makeRow_0 : decode prog_7_method_12_code 0 = .ok (.iload_n 1, 1) := by decide +kernel
set_option maxRecDepth 100000 in
theorem dX5_makeRow_1 : decode prog_7_method_12_code 1 = .ok (.ifCond .ge 5, 3) := by decide +kernel
set_option maxRecDepth 100000 in
theorem dX5_makeRow_4 : decode prog_7_method_12_code 4 = .ok (.iconst 5, 1) := by decide +kernel
set_option maxRecDepth 100000 in
theorem dX5_makeRow_5 : decode prog_7_method_12_code 5 = .ok (.ireturn, 1) := by decide +kernel
set_option maxRecDepth 100000 in
theorem dX5_makeRow_6 : decode prog_7_method_12_code 6 = .ok (.iload_n 1, 1) := by decide +kernel
set_option maxRecDepth 100000 in
theorem dX5_makeRow_7 : decode prog_7_method_12_code 7 = .ok (.bipush 20, 2) := by decide +kernel
set_option maxRecDepth 100000 in
theorem dX5_makeRow_9 : decode prog_7_method_12_code 9 = .ok (.if_icmp .le 6, 3) := by decide +kernel
set_option maxRecDepth 100000 in
theorem dX5_makeRow_12 : decode prog_7_method_12_code 12 = .ok (.bipush 6, 2) := by decide +kernel
set_option maxRecDepth 100000 in
theorem dX5_makeRow_14 : decode prog_7_method_12_code 14 = .ok (.ireturn, 1) := by decide +kernel
set_option maxRecDepth 100000 in
theorem dX5_makeRow_15 : decode prog_7_method_12_code 15 = .ok (.aload_n 0, 1) := by decide +kernel
set_option maxRecDepth 100000 in
theorem dX5_makeRow_16 : decode prog_7_method_12_code 16 = .ok (.getfield 31, 3) := by decide +kernel
set_option maxRecDepth 100000 in
theorem dX5_makeRow_19 : decode prog_7_method_12_code 19 = .ok (.iload_n 1, 1) := by decide +kernel
set_option maxRecDepth 100000 in
theorem dX5_makeRow_20 : decode prog_7_method_12_code 20 = .ok (.invokevirtual 165, 3) := by decide +kernel
set_option maxRecDepth 100000 in
theorem dX5_makeRow_23 : decode prog_7_method_12_code 23 = .ok (.istore_n 2, 1) := by decide +kernel
set_option maxRecDepth 100000 in
theorem dX5_makeRow_24 : decode prog_7_method_12_code 24 = .ok (.iload_n 2, 1) := by decide +kernel
set_option maxRecDepth 100000 in
theorem dX5_makeRow_25 : decode prog_7_method_12_code 25 = .ok (.iconst (-1), 1) := by decide +kernel
set_option maxRecDepth 100000 in
theorem dX5_makeRow_26 : decode prog_7_method_12_code 26 = .ok (.if_icmp .ne 8, 3) := by decide +kernel
set_option maxRecDepth 100000 in
theorem dX5_makeRow_29 : decode prog_7_method_12_code 29 = .ok (.bipush 10, 2) := by decide +kernel
set_option maxRecDepth 100000 in
theorem dX5_makeRow_31 : decode prog_7_method_12_code 31 = .ok (.goto 10, 3) := by decide +kernel
set_option maxRecDepth 100000 in
theorem dX5_makeRow_34 : decode prog_7_method_12_code 34 = .ok (.aload_n 0, 1) := by decide +kernel
set_option maxRecDepth 100000 in
theorem dX5_makeRow_35 : decode prog_7_method_12_code 35 = .ok (.iconst 2, 1) := by decide +kernel
set_option maxRecDepth 100000 in
theorem dX5_makeRow_36 : decode prog_7_method_12_code 36 = .ok (.iload_n 2, 1) := by decide +kernel
set_option maxRecDepth 100000 in
theorem dX5_makeRow_37 : decode prog_7_method_12_code 37 = .ok (.i2l, 1) := by decide +kernel
set_option maxRecDepth 100000 in
theorem dX5_makeRow_38 : decode prog_7_method_12_code 38 = .ok (.invokevirtual 130, 3) := by decide +kernel
set_option maxRecDepth 100000 in
theorem dX5_makeRow_41 : decode prog_7_method_12_code 41 = .ok (.ireturn, 1) := by decide +kernel
set_option maxRecDepth 100000 in
theorem okX4_make : mOk miX4_make 1 := ⟨(gd_of 444 rfl rfl), (gd_of 73 rfl rfl), by decide +kernel, ⟨by decide +kernel, by decide +kernel, by decide +kernel⟩, by decide⟩
def fX5_makeRow (z : Nat → Nat) (a0 : Nat) (x1 : Int32) (h : aH) : Option (Int32 × aH) :=
  (if 0 ≤ x1 then
  (if x1 ≤ 20 then
  (rdR h a0 [4] 0).bind fun r101 =>
  (r101).bind fun a103 =>
  (obO h a103 3).bind fun fs104 =>
  (fX4_make z a103 x1 h).bind fun q102 =>
  (if q102.1 = (-1) then
  some (10, q102.2)
  else
  (obO q102.2 a0 4).bind fun fs106 =>
  (fX5_give z a0 2 (Int32.toInt64 q102.1) q102.2).bind fun q105 =>
  some (q105.1, q105.2))
  else
  some (6, h))
  else
  some (5, h))
set_option maxHeartbeats 4000000 in
set_option maxRecDepth 100000 in
theorem xX5_makeRow {l : Launch} {g : aG} {d : Nat} (hK : 1 ≤ d) {a0 : Nat} {x1 : Int32} {h : aH} {q : Int32 × aH} (hf : fX5_makeRow g.2.2 a0 x1 h = some q) : Ev l g miX5_makeRow d [.inr (.inr (some a0)), .inl x1] h (some (.inl q.1), q.2) := by
  obtain ⟨d, rfl⟩ : ∃ e, d = e + 1 := ⟨d - 1, by omega⟩
  refine ⟨?_, Or.inl rfl, Nat.le_of_ble_eq_true rfl⟩
  unfold fX5_makeRow at hf
  show Y l g miX5_makeRow (d + 1) 0 [some (.inr (.inr (some a0))), some (.inl x1), none] [] h _
  refine y_iload_n (i := 1) dX5_makeRow_0 rfl rfl ?_
  refine y_if_ge (tgt := 6) dX5_makeRow_1 (by decide) (fun hc => ?_) (fun hc => ?_)
  · rw [if_pos hc] at hf
    refine y_iload_n (i := 1) dX5_makeRow_6 rfl rfl ?_
    refine y_bipush (v := 20) dX5_makeRow_7 (by decide) ?_
    refine y_icmp_le (tgt := 15) dX5_makeRow_9 (by decide) (fun hc => ?_) (fun hc => ?_)
    · rw [if_pos hc] at hf
      refine y_aload_n (i := 0) dX5_makeRow_15 rfl rfl ?_
      replace hf := bnd hf
      obtain ⟨r101, er101, hf⟩ := hf
      refine y_getR er101 fl5_31 dX5_makeRow_16 ?_
      refine y_iload_n (i := 1) dX5_makeRow_19 rfl rfl ?_
      replace hf := bnd hf
      obtain ⟨a103, rfl, hf⟩ := hf
      replace hf := bnd hf
      obtain ⟨fs104, efs104, hf⟩ := hf
      replace hf := bnd hf
      obtain ⟨q102, eq102, hf⟩ := hf
      refine y_callV (mj := miX4_make) (args := [.inl x1]) (st := []) dX5_makeRow_20 (gd_of 615 rfl rfl) (gd_of 442 rfl rfl) (gd_of 443 rfl rfl) okX4_make (obO_spec efs104) rfl rfl (xX4_make (by omega) eq102) (Nat.le_of_ble_eq_true rfl) rfl ?_
      show Y l g miX5_makeRow (d + 1) 23 [some (.inr (.inr (some a0))), some (.inl x1), none] [.inl q102.1] q102.2 _
      refine y_istore_n (i := 2) (lv2 := [some (.inr (.inr (some a0))), some (.inl x1), some (.inl q102.1)]) dX5_makeRow_23 rfl (by decide) rfl ?_
      refine y_iload_n (i := 2) dX5_makeRow_24 rfl rfl ?_
      refine y_iconst (v := (-1)) dX5_makeRow_25 (by decide) ?_
      refine y_icmp_ne (tgt := 34) dX5_makeRow_26 (by decide) (fun hc => ?_) (fun hc => ?_)
      · rw [if_neg hc] at hf
        refine y_aload_n (i := 0) dX5_makeRow_34 rfl rfl ?_
        refine y_iconst (v := 2) dX5_makeRow_35 (by decide) ?_
        refine y_iload_n (i := 2) dX5_makeRow_36 rfl rfl ?_
        refine y_i2l dX5_makeRow_37 ?_
        replace hf := bnd hf
        obtain ⟨fs106, efs106, hf⟩ := hf
        replace hf := bnd hf
        obtain ⟨q105, eq105, hf⟩ := hf
        refine y_callV (mj := miX5_give) (args := [.inl 2, .inr (.inl (Int32.toInt64 q102.1))]) (st := []) dX5_makeRow_38 (gd_of 587 rfl rfl) (gd_of 589 rfl rfl) (gd_of 20 rfl rfl) okX5_give (obO_spec efs106) rfl rfl (xX5_give (by omega) eq105) (Nat.le_of_ble_eq_true rfl) rfl ?_
        show Y l g miX5_makeRow (d + 1) 41 [some (.inr (.inr (some a0))), some (.inl x1), some (.inl q102.1)] [.inl q105.1] q105.2 _
        obtain rfl := Option.some.inj hf
        exact y_ret (v := some (.inl q105.1)) dX5_makeRow_41 rfl
      · rw [if_pos hc] at hf
        refine y_bipush (v := 10) dX5_makeRow_29 (by decide) ?_
        refine y_goto (tgt := 41) dX5_makeRow_31 (by decide) ?_
        obtain rfl := Option.some.inj hf
        exact y_ret (v := some (.inl 10)) dX5_makeRow_41 rfl
    · rw [if_neg hc] at hf
      refine y_bipush (v := 6) dX5_makeRow_12 (by decide) ?_
      obtain rfl := Option.some.inj hf
      exact y_ret (v := some (.inl 6)) dX5_makeRow_14 rfl
  · rw [if_neg hc] at hf
    refine y_iconst (v := 5) dX5_makeRow_4 (by decide) ?_
    obtain rfl := Option.some.inj hf
    exact y_ret (v := some (.inl 5)) dX5_makeRow_5 rfl
