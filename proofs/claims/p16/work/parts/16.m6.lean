set_option maxRecDepth 100000 in
theorem dX6_isOrder_0 : decode prog_8_method_17_code 0 = .ok (.iconst 0, 1) := by decide +kernel
set_option maxRecDepth 100000 in
theorem dX6_isOrder_1 : decode prog_8_method_17_code 1 = .ok (.istore_n 2, 1) := by decide +kernel
set_option maxRecDepth 100000 in
theorem dX6_isOrder_2 : decode prog_8_method_17_code 2 = .ok (.iload_n 0, 1) := by decide +kernel
set_option maxRecDepth 100000 in
theorem dX6_isOrder_3 : decode prog_8_method_17_code 3 = .ok (.istore_n 3, 1) := by decide +kernel
set_option maxRecDepth 100000 in
theorem dX6_isOrder_4 : decode prog_8_method_17_code 4 = .ok (.iconst 0, 1) := by decide +kernel
set_option maxRecDepth 100000 in
theorem dX6_isOrder_5 : decode prog_8_method_17_code 5 = .ok (.istore 4, 2) := by decide +kernel
set_option maxRecDepth 100000 in
theorem dX6_isOrder_7 : decode prog_8_method_17_code 7 = .ok (.iload 4, 2) := by decide +kernel
set_option maxRecDepth 100000 in
theorem dX6_isOrder_9 : decode prog_8_method_17_code 9 = .ok (.iload_n 1, 1) := by decide +kernel
set_option maxRecDepth 100000 in
theorem dX6_isOrder_10 : decode prog_8_method_17_code 10 = .ok (.if_icmp .ge 50, 3) := by decide +kernel
set_option maxRecDepth 100000 in
theorem dX6_isOrder_13 : decode prog_8_method_17_code 13 = .ok (.iload_n 3, 1) := by decide +kernel
set_option maxRecDepth 100000 in
theorem dX6_isOrder_14 : decode prog_8_method_17_code 14 = .ok (.bipush 10, 2) := by decide +kernel
set_option maxRecDepth 100000 in
theorem dX6_isOrder_16 : decode prog_8_method_17_code 16 = .ok (.irem, 1) := by decide +kernel
set_option maxRecDepth 100000 in
theorem dX6_isOrder_17 : decode prog_8_method_17_code 17 = .ok (.istore 5, 2) := by decide +kernel
set_option maxRecDepth 100000 in
theorem dX6_isOrder_19 : decode prog_8_method_17_code 19 = .ok (.iload 5, 2) := by decide +kernel
set_option maxRecDepth 100000 in
theorem dX6_isOrder_21 : decode prog_8_method_17_code 21 = .ok (.ifCond .lt 19, 3) := by decide +kernel
set_option maxRecDepth 100000 in
theorem dX6_isOrder_24 : decode prog_8_method_17_code 24 = .ok (.iload 5, 2) := by decide +kernel
set_option maxRecDepth 100000 in
theorem dX6_isOrder_26 : decode prog_8_method_17_code 26 = .ok (.iload_n 1, 1) := by decide +kernel
set_option maxRecDepth 100000 in
theorem dX6_isOrder_27 : decode prog_8_method_17_code 27 = .ok (.if_icmp .ge 13, 3) := by decide +kernel
set_option maxRecDepth 100000 in
theorem dX6_isOrder_30 : decode prog_8_method_17_code 30 = .ok (.iload_n 2, 1) := by decide +kernel
set_option maxRecDepth 100000 in
theorem dX6_isOrder_31 : decode prog_8_method_17_code 31 = .ok (.iload 5, 2) := by decide +kernel
set_option maxRecDepth 100000 in
theorem dX6_isOrder_33 : decode prog_8_method_17_code 33 = .ok (.ishr, 1) := by decide +kernel
set_option maxRecDepth 100000 in
theorem dX6_isOrder_34 : decode prog_8_method_17_code 34 = .ok (.iconst 1, 1) := by decide +kernel
set_option maxRecDepth 100000 in
theorem dX6_isOrder_35 : decode prog_8_method_17_code 35 = .ok (.iand, 1) := by decide +kernel
set_option maxRecDepth 100000 in
theorem dX6_isOrder_36 : decode prog_8_method_17_code 36 = .ok (.iconst 1, 1) := by decide +kernel
set_option maxRecDepth 100000 in
theorem dX6_isOrder_37 : decode prog_8_method_17_code 37 = .ok (.if_icmp .ne 5, 3) := by decide +kernel
set_option maxRecDepth 100000 in
theorem dX6_isOrder_40 : decode prog_8_method_17_code 40 = .ok (.iconst 0, 1) := by decide +kernel
set_option maxRecDepth 100000 in
theorem dX6_isOrder_41 : decode prog_8_method_17_code 41 = .ok (.ireturn, 1) := by decide +kernel
set_option maxRecDepth 100000 in
theorem dX6_isOrder_42 : decode prog_8_method_17_code 42 = .ok (.iload_n 2, 1) := by decide +kernel
set_option maxRecDepth 100000 in
theorem dX6_isOrder_43 : decode prog_8_method_17_code 43 = .ok (.iconst 1, 1) := by decide +kernel
set_option maxRecDepth 100000 in
theorem dX6_isOrder_44 : decode prog_8_method_17_code 44 = .ok (.iload 5, 2) := by decide +kernel
set_option maxRecDepth 100000 in
theorem dX6_isOrder_46 : decode prog_8_method_17_code 46 = .ok (.ishl, 1) := by decide +kernel
set_option maxRecDepth 100000 in
theorem dX6_isOrder_47 : decode prog_8_method_17_code 47 = .ok (.ior, 1) := by decide +kernel
set_option maxRecDepth 100000 in
theorem dX6_isOrder_48 : decode prog_8_method_17_code 48 = .ok (.istore_n 2, 1) := by decide +kernel
set_option maxRecDepth 100000 in
theorem dX6_isOrder_49 : decode prog_8_method_17_code 49 = .ok (.iload_n 3, 1) := by decide +kernel
set_option maxRecDepth 100000 in
theorem dX6_isOrder_50 : decode prog_8_method_17_code 50 = .ok (.bipush 10, 2) := by decide +kernel
set_option maxRecDepth 100000 in
theorem dX6_isOrder_52 : decode prog_8_method_17_code 52 = .ok (.idiv, 1) := by decide +kernel
set_option maxRecDepth 100000 in
theorem dX6_isOrder_53 : decode prog_8_method_17_code 53 = .ok (.istore_n 3, 1) := by decide +kernel
set_option maxRecDepth 100000 in
theorem dX6_isOrder_54 : decode prog_8_method_17_code 54 = .ok (.iinc 4 1, 3) := by decide +kernel
set_option maxRecDepth 100000 in
theorem dX6_isOrder_57 : decode prog_8_method_17_code 57 = .ok (.goto (-50), 3) := by decide +kernel
set_option maxRecDepth 100000 in
theorem dX6_isOrder_60 : decode prog_8_method_17_code 60 = .ok (.iload_n 3, 1) := by decide +kernel
set_option maxRecDepth 100000 in
theorem dX6_isOrder_61 : decode prog_8_method_17_code 61 = .ok (.ifCond .ne 7, 3) := by decide +kernel
set_option maxRecDepth 100000 in
theorem dX6_isOrder_64 : decode prog_8_method_17_code 64 = .ok (.iconst 1, 1) := by decide +kernel
set_option maxRecDepth 100000 in
theorem dX6_isOrder_65 : decode prog_8_method_17_code 65 = .ok (.goto 4, 3) := by decide +kernel
set_option maxRecDepth 100000 in
theorem dX6_isOrder_68 : decode prog_8_method_17_code 68 = .ok (.iconst 0, 1) := by decide +kernel
set_option maxRecDepth 100000 in
theorem dX6_isOrder_69 : decode prog_8_method_17_code 69 = .ok (.ireturn, 1) := by decide +kernel

def fX6_isOrder_7 (z : Nat → Nat) : Nat → Int32 → Int32 → Int32 → Int32 → aH → Option (Int32 × aH)
  | 0, _, _, _, _, _ => none
  | n + 1, x1, x2, x3, x4, h => (if x1 ≤ x4 then
  (if x3 = 0 then
  some (1, h)
  else
  some (0, h))
  else
  (if (x3 - x3 / 10 * 10) < 0 then
  some (0, h)
  else
  (if x1 ≤ (x3 - x3 / 10 * 10) then
  some (0, h)
  else
  (if ((x2 >>> ((x3 - x3 / 10 * 10) &&& 31)) &&& 1) = 1 then
  some (0, h)
  else
  fX6_isOrder_7 z n x1 (x2 ||| (1 <<< ((x3 - x3 / 10 * 10) &&& 31))) (x3 / 10) (x4 + 1) h))))
set_option maxHeartbeats 4000000 in
set_option maxRecDepth 100000 in
theorem xX6_isOrder_7 {l : Launch} {g : aG} {d : Nat} (hK : 0 ≤ d) : ∀ (n : Nat) (x1 : Int32) (x2 : Int32) (x3 : Int32) (x4 : Int32) (h : aH) (q : Int32 × aH), fX6_isOrder_7 g.2.2 n x1 x2 x3 x4 h = some q → Y l g miX6_isOrder d 7 [none, some (.inl x1), some (.inl x2), some (.inl x3), some (.inl x4), none] [] h (some (.inl q.1), q.2) := by
  intro n
  induction n with
  | zero => intro x1 x2 x3 x4 h q hf; simp [fX6_isOrder_7] at hf
  | succ n ih =>
    intro x1 x2 x3 x4 h q hf
    rw [fX6_isOrder_7] at hf
    refine y_iload (i := 4) dX6_isOrder_7 rfl ?_
    refine y_iload_n (i := 1) dX6_isOrder_9 rfl rfl ?_
    refine y_icmp_ge (tgt := 60) dX6_isOrder_10 (by decide) (fun hc => ?_) (fun hc => ?_)
    · rw [if_pos hc] at hf
      refine y_iload_n (i := 3) dX6_isOrder_60 rfl rfl ?_
      refine y_if_ne (tgt := 68) dX6_isOrder_61 (by decide) (fun hc => ?_) (fun hc => ?_)
      · rw [if_neg hc] at hf
        refine y_iconst (v := 0) dX6_isOrder_68 (by decide) ?_
        obtain rfl := Option.some.inj hf
        exact y_ret (v := some (.inl 0)) dX6_isOrder_69 rfl
      · rw [if_pos hc] at hf
        refine y_iconst (v := 1) dX6_isOrder_64 (by decide) ?_
        refine y_goto (tgt := 69) dX6_isOrder_65 (by decide) ?_
        obtain rfl := Option.some.inj hf
        exact y_ret (v := some (.inl 1)) dX6_isOrder_69 rfl
    · rw [if_neg hc] at hf
      refine y_iload_n (i := 3) dX6_isOrder_13 rfl rfl ?_
      refine y_bipush (v := 10) dX6_isOrder_14 (by decide) ?_
      refine y_irem dX6_isOrder_16 (by decide) ?_
      refine y_istore (i := 5) (lv2 := [none, some (.inl x1), some (.inl x2), some (.inl x3), some (.inl x4), some (.inl (x3 - x3 / 10 * 10))]) dX6_isOrder_17 (by decide) rfl ?_
      refine y_iload (i := 5) dX6_isOrder_19 rfl ?_
      refine y_if_lt (tgt := 40) dX6_isOrder_21 (by decide) (fun hc => ?_) (fun hc => ?_)
      · rw [if_pos hc] at hf
        refine y_iconst (v := 0) dX6_isOrder_40 (by decide) ?_
        obtain rfl := Option.some.inj hf
        exact y_ret (v := some (.inl 0)) dX6_isOrder_41 rfl
      · rw [if_neg hc] at hf
        refine y_iload (i := 5) dX6_isOrder_24 rfl ?_
        refine y_iload_n (i := 1) dX6_isOrder_26 rfl rfl ?_
        refine y_icmp_ge (tgt := 40) dX6_isOrder_27 (by decide) (fun hc => ?_) (fun hc => ?_)
        · rw [if_pos hc] at hf
          refine y_iconst (v := 0) dX6_isOrder_40 (by decide) ?_
          obtain rfl := Option.some.inj hf
          exact y_ret (v := some (.inl 0)) dX6_isOrder_41 rfl
        · rw [if_neg hc] at hf
          refine y_iload_n (i := 2) dX6_isOrder_30 rfl rfl ?_
          refine y_iload (i := 5) dX6_isOrder_31 rfl ?_
          refine y_ishr dX6_isOrder_33 ?_
          refine y_iconst (v := 1) dX6_isOrder_34 (by decide) ?_
          refine y_iand dX6_isOrder_35 ?_
          refine y_iconst (v := 1) dX6_isOrder_36 (by decide) ?_
          refine y_icmp_ne (tgt := 42) dX6_isOrder_37 (by decide) (fun hc => ?_) (fun hc => ?_)
          · rw [if_neg hc] at hf
            refine y_iload_n (i := 2) dX6_isOrder_42 rfl rfl ?_
            refine y_iconst (v := 1) dX6_isOrder_43 (by decide) ?_
            refine y_iload (i := 5) dX6_isOrder_44 rfl ?_
            refine y_ishl dX6_isOrder_46 ?_
            refine y_ior dX6_isOrder_47 ?_
            refine y_istore_n (i := 2) (lv2 := [none, some (.inl x1), some (.inl (x2 ||| (1 <<< ((x3 - x3 / 10 * 10) &&& 31)))), some (.inl x3), some (.inl x4), some (.inl (x3 - x3 / 10 * 10))]) dX6_isOrder_48 rfl (by decide) rfl ?_
            refine y_iload_n (i := 3) dX6_isOrder_49 rfl rfl ?_
            refine y_bipush (v := 10) dX6_isOrder_50 (by decide) ?_
            refine y_idiv dX6_isOrder_52 (by decide) ?_
            refine y_istore_n (i := 3) (lv2 := [none, some (.inl x1), some (.inl (x2 ||| (1 <<< ((x3 - x3 / 10 * 10) &&& 31)))), some (.inl (x3 / 10)), some (.inl x4), some (.inl (x3 - x3 / 10 * 10))]) dX6_isOrder_53 rfl (by decide) rfl ?_
            refine y_iinc (i := 4) (y := 1) (lv2 := [none, some (.inl x1), some (.inl (x2 ||| (1 <<< ((x3 - x3 / 10 * 10) &&& 31)))), some (.inl (x3 / 10)), some (.inl (x4 + 1)), some (.inl (x3 - x3 / 10 * 10))]) dX6_isOrder_54 rfl (by decide) (by decide) rfl ?_
            refine y_goto (tgt := 7) dX6_isOrder_57 (by decide) ?_
            refine Y.weak (lv2 := [none, some (.inl x1), some (.inl (x2 ||| (1 <<< ((x3 - x3 / 10 * 10) &&& 31)))), some (.inl (x3 / 10)), some (.inl (x4 + 1)), none]) [false, true, true, true, true, false] rfl ?_
            exact ih _ _ _ _ _ _ hf
          · rw [if_pos hc] at hf
            refine y_iconst (v := 0) dX6_isOrder_40 (by decide) ?_
            obtain rfl := Option.some.inj hf
            exact y_ret (v := some (.inl 0)) dX6_isOrder_41 rfl
def fX6_isOrder_e (z : Nat → Nat) (x0 : Int32) (x1 : Int32) (h : aH) : Option (Int32 × aH) :=
  fX6_isOrder_7 z 4000 x1 0 x0 0 h
def fX6_isOrder (z : Nat → Nat) (x0 : Int32) (x1 : Int32) (h : aH) : Option (Int32 × aH) := chkB (fX6_isOrder_e z x0 x1 h)
set_option maxHeartbeats 4000000 in
set_option maxRecDepth 100000 in
theorem xX6_isOrder {l : Launch} {g : aG} {d : Nat} (hK : 0 ≤ d) {x0 : Int32} {x1 : Int32} {h : aH} {q : Int32 × aH} (hf : fX6_isOrder g.2.2 x0 x1 h = some q) : Ev l g miX6_isOrder d [.inl x0, .inl x1] h (some (.inl q.1), q.2) := by
  replace hf := chkB_spec hf
  obtain ⟨hf, hb⟩ := hf
  refine ⟨?_, Or.inr ⟨rfl, hb⟩, Nat.le_of_ble_eq_true rfl⟩
  unfold fX6_isOrder_e at hf
  show Y l g miX6_isOrder d 0 [some (.inl x0), some (.inl x1), none, none, none, none] [] h _
  refine y_iconst (v := 0) dX6_isOrder_0 (by decide) ?_
  refine y_istore_n (i := 2) (lv2 := [some (.inl x0), some (.inl x1), some (.inl 0), none, none, none]) dX6_isOrder_1 rfl (by decide) rfl ?_
  refine y_iload_n (i := 0) dX6_isOrder_2 rfl rfl ?_
  refine y_istore_n (i := 3) (lv2 := [some (.inl x0), some (.inl x1), some (.inl 0), some (.inl x0), none, none]) dX6_isOrder_3 rfl (by decide) rfl ?_
  refine y_iconst (v := 0) dX6_isOrder_4 (by decide) ?_
  refine y_istore (i := 4) (lv2 := [some (.inl x0), some (.inl x1), some (.inl 0), some (.inl x0), some (.inl 0), none]) dX6_isOrder_5 (by decide) rfl ?_
  refine Y.weak (lv2 := [none, some (.inl x1), some (.inl 0), some (.inl x0), some (.inl 0), none]) [false, true, true, true, true, false] rfl ?_
  exact xX6_isOrder_7 hK 4000 _ _ _ _ _ _ hf
set_option maxRecDepth 100000 in
theorem dX6_otherFits_0 : decode prog_8_method_6_code 0 = .ok (.aload_n 0, 1) := by decide +kernel
set_option maxRecDepth 100000 in
theorem dX6_otherFits_1 : decode prog_8_method_6_code 1 = .ok (.getfield 24, 3) := by decide +kernel
set_option maxRecDepth 100000 in
theorem dX6_otherFits_4 : decode prog_8_method_6_code 4 = .ok (.getfield 30, 3) := by decide +kernel
set_option maxRecDepth 100000 in
theorem dX6_otherFits_7 : decode prog_8_method_6_code 7 = .ok (.invokevirtual 36, 3) := by decide +kernel
set_option maxRecDepth 100000 in
theorem dX6_otherFits_10 : decode prog_8_method_6_code 10 = .ok (.istore_n 1, 1) := by decide +kernel
set_option maxRecDepth 100000 in
theorem dX6_otherFits_11 : decode prog_8_method_6_code 11 = .ok (.aload_n 0, 1) := by decide +kernel
set_option maxRecDepth 100000 in
theorem dX6_otherFits_12 : decode prog_8_method_6_code 12 = .ok (.getfield 40, 3) := by decide +kernel
set_option maxRecDepth 100000 in
theorem dX6_otherFits_15 : decode prog_8_method_6_code 15 = .ok (.istore_n 2, 1) := by decide +kernel
set_option maxRecDepth 100000 in
theorem dX6_otherFits_16 : decode prog_8_method_6_code 16 = .ok (.aload_n 0, 1) := by decide +kernel
set_option maxRecDepth 100000 in
theorem dX6_otherFits_17 : decode prog_8_method_6_code 17 = .ok (.getfield 44, 3) := by decide +kernel
set_option maxRecDepth 100000 in
theorem dX6_otherFits_20 : decode prog_8_method_6_code 20 = .ok (.tableswitch 149 0 11 #[64, 73, 100, 149, 64, 149, 149, 106, 149, 149, 134, 142], 64) := by decide +kernel
set_option maxRecDepth 100000 in
theorem dX6_otherFits_84 : decode prog_8_method_6_code 84 = .ok (.iload_n 2, 1) := by decide +kernel
set_option maxRecDepth 100000 in
theorem dX6_otherFits_85 : decode prog_8_method_6_code 85 = .ok (.iconst 0, 1) := by decide +kernel
set_option maxRecDepth 100000 in
theorem dX6_otherFits_86 : decode prog_8_method_6_code 86 = .ok (.iload_n 1, 1) := by decide +kernel
set_option maxRecDepth 100000 in
theorem dX6_otherFits_87 : decode prog_8_method_6_code 87 = .ok (.iconst 1, 1) := by decide +kernel
set_option maxRecDepth 100000 in
theorem dX6_otherFits_88 : decode prog_8_method_6_code 88 = .ok (.isub, 1) := by decide +kernel
set_option maxRecDepth 100000 in
theorem dX6_otherFits_89 : decode prog_8_method_6_code 89 = .ok (.invokestatic 9, 3) := by decide +kernel
set_option maxRecDepth 100000 in
theorem dX6_otherFits_92 : decode prog_8_method_6_code 92 = .ok (.ireturn, 1) := by decide +kernel
set_option maxRecDepth 100000 in
theorem dX6_otherFits_93 : decode prog_8_method_6_code 93 = .ok (.iload_n 2, 1) := by decide +kernel
set_option maxRecDepth 100000 in
theorem dX6_otherFits_94 : decode prog_8_method_6_code 94 = .ok (.iconst 0, 1) := by decide +kernel
set_option maxRecDepth 100000 in
theorem dX6_otherFits_95 : decode prog_8_method_6_code 95 = .ok (.iload_n 1, 1) := by decide +kernel
set_option maxRecDepth 100000 in
theorem dX6_otherFits_96 : decode prog_8_method_6_code 96 = .ok (.invokestatic 9, 3) := by decide +kernel
set_option maxRecDepth 100000 in
theorem dX6_otherFits_99 : decode prog_8_method_6_code 99 = .ok (.ifCond .eq 19, 3) := by decide +kernel
set_option maxRecDepth 100000 in
theorem dX6_otherFits_102 : decode prog_8_method_6_code 102 = .ok (.aload_n 0, 1) := by decide +kernel
set_option maxRecDepth 100000 in
theorem dX6_otherFits_103 : decode prog_8_method_6_code 103 = .ok (.getfield 47, 3) := by decide +kernel
set_option maxRecDepth 100000 in
theorem dX6_otherFits_106 : decode prog_8_method_6_code 106 = .ok (.iconst 0, 1) := by decide +kernel
set_option maxRecDepth 100000 in
theorem dX6_otherFits_107 : decode prog_8_method_6_code 107 = .ok (.iconst 3, 1) := by decide +kernel
set_option maxRecDepth 100000 in
theorem dX6_otherFits_108 : decode prog_8_method_6_code 108 = .ok (.invokestatic 9, 3) := by decide +kernel
set_option maxRecDepth 100000 in
theorem dX6_otherFits_111 : decode prog_8_method_6_code 111 = .ok (.ifCond .eq 7, 3) := by decide +kernel
set_option maxRecDepth 100000 in
theorem dX6_otherFits_114 : decode prog_8_method_6_code 114 = .ok (.iconst 1, 1) := by decide +kernel
set_option maxRecDepth 100000 in
theorem dX6_otherFits_115 : decode prog_8_method_6_code 115 = .ok (.goto 4, 3) := by decide +kernel
set_option maxRecDepth 100000 in
theorem dX6_otherFits_118 : decode prog_8_method_6_code 118 = .ok (.iconst 0, 1) := by decide +kernel
set_option maxRecDepth 100000 in
theorem dX6_otherFits_119 : decode prog_8_method_6_code 119 = .ok (.ireturn, 1) := by decide +kernel
set_option maxRecDepth 100000 in
theorem dX6_otherFits_120 : decode prog_8_method_6_code 120 = .ok (.iload_n 2, 1) := by decide +kernel
set_option maxRecDepth 100000 in
theorem dX6_otherFits_121 : decode prog_8_method_6_code 121 = .ok (.iload_n 1, 1) := by decide +kernel
set_option maxRecDepth 100000 in
theorem dX6_otherFits_122 : decode prog_8_method_6_code 122 = .ok (.invokestatic 50, 3) := by decide +kernel
set_option maxRecDepth 100000 in
theorem dX6_otherFits_125 : decode prog_8_method_6_code 125 = .ok (.ireturn, 1) := by decide +kernel
set_option maxRecDepth 100000 in
theorem dX6_otherFits_126 : decode prog_8_method_6_code 126 = .ok (.iload_n 2, 1) := by decide +kernel
set_option maxRecDepth 100000 in
theorem dX6_otherFits_127 : decode prog_8_method_6_code 127 = .ok (.iconst 0, 1) := by decide +kernel
set_option maxRecDepth 100000 in
theorem dX6_otherFits_128 : decode prog_8_method_6_code 128 = .ok (.bipush 6, 2) := by decide +kernel
set_option maxRecDepth 100000 in
theorem dX6_otherFits_130 : decode prog_8_method_6_code 130 = .ok (.invokestatic 9, 3) := by decide +kernel
set_option maxRecDepth 100000 in
theorem dX6_otherFits_133 : decode prog_8_method_6_code 133 = .ok (.ifCond .ne 15, 3) := by decide +kernel
set_option maxRecDepth 100000 in
theorem dX6_otherFits_136 : decode prog_8_method_6_code 136 = .ok (.iload_n 2, 1) := by decide +kernel
set_option maxRecDepth 100000 in
theorem dX6_otherFits_137 : decode prog_8_method_6_code 137 = .ok (.bipush 100, 2) := by decide +kernel
set_option maxRecDepth 100000 in
theorem dX6_otherFits_139 : decode prog_8_method_6_code 139 = .ok (.sipush 199, 3) := by decide +kernel
set_option maxRecDepth 100000 in
theorem dX6_otherFits_142 : decode prog_8_method_6_code 142 = .ok (.invokestatic 9, 3) := by decide +kernel
set_option maxRecDepth 100000 in
theorem dX6_otherFits_145 : decode prog_8_method_6_code 145 = .ok (.ifCond .eq 7, 3) := by decide +kernel
set_option maxRecDepth 100000 in
theorem dX6_otherFits_148 : decode prog_8_method_6_code 148 = .ok (.iconst 1, 1) := by decide +kernel
set_option maxRecDepth 100000 in
theorem dX6_otherFits_149 : decode prog_8_method_6_code 149 = .ok (.goto 4, 3) := by decide +kernel
set_option maxRecDepth 100000 in
theorem dX6_otherFits_152 : decode prog_8_method_6_code 152 = .ok (.iconst 0, 1) := by decide +kernel
set_option maxRecDepth 100000 in
theorem dX6_otherFits_153 : decode prog_8_method_6_code 153 = .ok (.ireturn, 1) := by decide +kernel
set_option maxRecDepth 100000 in
theorem dX6_otherFits_154 : decode prog_8_method_6_code 154 = .ok (.iload_n 2, 1) := by decide +kernel
set_option maxRecDepth 100000 in
theorem dX6_otherFits_155 : decode prog_8_method_6_code 155 = .ok (.iconst 1, 1) := by decide +kernel
set_option maxRecDepth 100000 in
theorem dX6_otherFits_156 : decode prog_8_method_6_code 156 = .ok (.bipush 6, 2) := by decide +kernel
set_option maxRecDepth 100000 in
theorem dX6_otherFits_158 : decode prog_8_method_6_code 158 = .ok (.invokestatic 9, 3) := by decide +kernel
set_option maxRecDepth 100000 in
theorem dX6_otherFits_161 : decode prog_8_method_6_code 161 = .ok (.ireturn, 1) := by decide +kernel
set_option maxRecDepth 100000 in
theorem dX6_otherFits_162 : decode prog_8_method_6_code 162 = .ok (.iload_n 2, 1) := by decide +kernel
set_option maxRecDepth 100000 in
theorem dX6_otherFits_163 : decode prog_8_method_6_code 163 = .ok (.iconst 0, 1) := by decide +kernel
set_option maxRecDepth 100000 in
theorem dX6_otherFits_164 : decode prog_8_method_6_code 164 = .ok (.iconst 5, 1) := by decide +kernel
set_option maxRecDepth 100000 in
theorem dX6_otherFits_165 : decode prog_8_method_6_code 165 = .ok (.invokestatic 9, 3) := by decide +kernel
set_option maxRecDepth 100000 in
theorem dX6_otherFits_168 : decode prog_8_method_6_code 168 = .ok (.ireturn, 1) := by decide +kernel
set_option maxRecDepth 100000 in
theorem dX6_otherFits_169 : decode prog_8_method_6_code 169 = .ok (.aload_n 0, 1) := by decide +kernel
set_option maxRecDepth 100000 in
theorem dX6_otherFits_170 : decode prog_8_method_6_code 170 = .ok (.getfield 44, 3) := by decide +kernel
set_option maxRecDepth 100000 in
theorem dX6_otherFits_173 : decode prog_8_method_6_code 173 = .ok (.iconst 0, 1) := by decide +kernel
set_option maxRecDepth 100000 in
theorem dX6_otherFits_174 : decode prog_8_method_6_code 174 = .ok (.bipush 12, 2) := by decide +kernel
set_option maxRecDepth 100000 in
theorem dX6_otherFits_176 : decode prog_8_method_6_code 176 = .ok (.invokestatic 9, 3) := by decide +kernel
set_option maxRecDepth 100000 in
theorem dX6_otherFits_179 : decode prog_8_method_6_code 179 = .ok (.ireturn, 1) := by decide +kernel
set_option maxRecDepth 100000 in
theorem okX6_isOrder : mOk miX6_isOrder 2 := ⟨(gd_of 319 rfl rfl), (gd_of 77 rfl rfl), by decide +kernel, ⟨by decide +kernel, by decide +kernel, by decide +kernel⟩, by decide⟩
def fX6_otherFits_e (z : Nat → Nat) (r0 : Option Nat) (h : aH) : Option (Int32 × aH) :=
  (r0).bind fun a101 =>
  (rdR h a101 [2] 1).bind fun r102 =>
  (r102).bind fun a103 =>
  (rdR h a103 [0, 1] 1).bind fun r104 =>
  (r104).bind fun a106 =>
  (obO h a106 6).bind fun fs107 =>
  (fX8_count z a106 h).bind fun q105 =>
  (rdI q105.2 a101 [2] 4).bind fun x108 =>
  (rdI q105.2 a101 [2] 0).bind fun x109 =>
  (if x109 = 0 then
  (fX6_isWithin z x108 0 (q105.1 - 1) q105.2).bind fun q110 =>
  some (q110.1, q110.2)
  else
  (if x109 = 1 then
  (fX6_isWithin z x108 0 q105.1 q105.2).bind fun q111 =>
  (if q111.1 = 0 then
  some (0, q111.2)
  else
  (rdI q111.2 a101 [2] 5).bind fun x112 =>
  (fX6_isWithin z x112 0 3 q111.2).bind fun q113 =>
  (if q113.1 = 0 then
  some (0, q113.2)
  else
  some (1, q113.2)))
  else
  (if x109 = 2 then
  (fX6_isOrder z x108 q105.1 q105.2).bind fun q114 =>
  some (q114.1, q114.2)
  else
  (if x109 = 3 then
  (rdI q105.2 a101 [2] 0).bind fun x115 =>
  (fX6_isWithin z x115 0 12 q105.2).bind fun q116 =>
  some (q116.1, q116.2)
  else
  (if x109 = 4 then
  (fX6_isWithin z x108 0 (q105.1 - 1) q105.2).bind fun q117 =>
  some (q117.1, q117.2)
  else
  (if x109 = 5 then
  (rdI q105.2 a101 [2] 0).bind fun x118 =>
  (fX6_isWithin z x118 0 12 q105.2).bind fun q119 =>
  some (q119.1, q119.2)
  else
  (if x109 = 6 then
  (rdI q105.2 a101 [2] 0).bind fun x120 =>
  (fX6_isWithin z x120 0 12 q105.2).bind fun q121 =>
  some (q121.1, q121.2)
  else
  (if x109 = 7 then
  (fX6_isWithin z x108 0 6 q105.2).bind fun q122 =>
  (if q122.1 = 0 then
  (fX6_isWithin z x108 100 199 q122.2).bind fun q123 =>
  (if q123.1 = 0 then
  some (0, q123.2)
  else
  some (1, q123.2))
  else
  some (1, q122.2))
  else
  (if x109 = 8 then
  (rdI q105.2 a101 [2] 0).bind fun x124 =>
  (fX6_isWithin z x124 0 12 q105.2).bind fun q125 =>
  some (q125.1, q125.2)
  else
  (if x109 = 9 then
  (rdI q105.2 a101 [2] 0).bind fun x126 =>
  (fX6_isWithin z x126 0 12 q105.2).bind fun q127 =>
  some (q127.1, q127.2)
  else
  (if x109 = 10 then
  (fX6_isWithin z x108 1 6 q105.2).bind fun q128 =>
  some (q128.1, q128.2)
  else
  (if x109 = 11 then
  (fX6_isWithin z x108 0 5 q105.2).bind fun q129 =>
  some (q129.1, q129.2)
  else
  (rdI q105.2 a101 [2] 0).bind fun x130 =>
  (fX6_isWithin z x130 0 12 q105.2).bind fun q131 =>
  some (q131.1, q131.2)))))))))))))
def fX6_otherFits (z : Nat → Nat) (r0 : Option Nat) (h : aH) : Option (Int32 × aH) := chkB (fX6_otherFits_e z r0 h)
set_option maxHeartbeats 4000000 in
set_option maxRecDepth 100000 in
theorem xX6_otherFits {l : Launch} {g : aG} {d : Nat} (hK : 1 ≤ d) {r0 : Option Nat} {h : aH} {q : Int32 × aH} (hf : fX6_otherFits g.2.2 r0 h = some q) : Ev l g miX6_otherFits d [.inr (.inr r0)] h (some (.inl q.1), q.2) := by
  obtain ⟨d, rfl⟩ : ∃ e, d = e + 1 := ⟨d - 1, by omega⟩
  replace hf := chkB_spec hf
  obtain ⟨hf, hb⟩ := hf
  refine ⟨?_, Or.inr ⟨rfl, hb⟩, Nat.le_of_ble_eq_true rfl⟩
  unfold fX6_otherFits_e at hf
  show Y l g miX6_otherFits (d + 1) 0 [some (.inr (.inr r0)), none, none] [] h _
  refine y_aload_n (i := 0) dX6_otherFits_0 rfl rfl ?_
  replace hf := bnd hf
  obtain ⟨a101, rfl, hf⟩ := hf
  replace hf := bnd hf
  obtain ⟨r102, er102, hf⟩ := hf
  refine y_getR er102 fl6_24 dX6_otherFits_1 ?_
  replace hf := bnd hf
  obtain ⟨a103, rfl, hf⟩ := hf
  replace hf := bnd hf
  obtain ⟨r104, er104, hf⟩ := hf
  refine y_getR er104 fl6_30 dX6_otherFits_4 ?_
  replace hf := bnd hf
  obtain ⟨a106, rfl, hf⟩ := hf
  replace hf := bnd hf
  obtain ⟨fs107, efs107, hf⟩ := hf
  replace hf := bnd hf
  obtain ⟨q105, eq105, hf⟩ := hf
  refine y_callV (mj := miX8_count) (args := []) (st := []) dX6_otherFits_7 (gd_of 313 rfl rfl) (gd_of 314 rfl rfl) (gd_of 315 rfl rfl) okX8_count (obO_spec efs107) rfl rfl (xX8_count (by omega) eq105) (Nat.le_of_ble_eq_true rfl) rfl ?_
  show Y l g miX6_otherFits (d + 1) 10 [some (.inr (.inr (some a101))), none, none] [.inl q105.1] q105.2 _
  refine y_istore_n (i := 1) (lv2 := [some (.inr (.inr (some a101))), some (.inl q105.1), none]) dX6_otherFits_10 rfl (by decide) rfl ?_
  refine y_aload_n (i := 0) dX6_otherFits_11 rfl rfl ?_
  replace hf := bnd hf
  obtain ⟨x108, ex108, hf⟩ := hf
  refine y_getI ex108 fl6_40 dX6_otherFits_12 ?_
  refine y_istore_n (i := 2) (lv2 := [some (.inr (.inr (some a101))), some (.inl q105.1), some (.inl x108)]) dX6_otherFits_15 rfl (by decide) rfl ?_
  refine y_aload_n (i := 0) dX6_otherFits_16 rfl rfl ?_
  replace hf := bnd hf
  obtain ⟨x109, ex109, hf⟩ := hf
  refine y_getI ex109 fl6_44 dX6_otherFits_17 ?_
  refine y_table dX6_otherFits_20 [(0, 84), (1, 93), (2, 120), (3, 169), (4, 84), (5, 169), (6, 169), (7, 126), (8, 169), (9, 169), (10, 154), (11, 162)] 169 (by decide) (by decide) (by decide) (by decide) ?_
  refine y_swc (fun hc => ?_) (fun hc => ?_)
  · rw [if_pos hc] at hf
    refine y_iload_n (i := 2) dX6_otherFits_84 rfl rfl ?_
    refine y_iconst (v := 0) dX6_otherFits_85 (by decide) ?_
    refine y_iload_n (i := 1) dX6_otherFits_86 rfl rfl ?_
    refine y_iconst (v := 1) dX6_otherFits_87 (by decide) ?_
    refine y_isub dX6_otherFits_88 ?_
    replace hf := bnd hf
    obtain ⟨q110, eq110, hf⟩ := hf
    refine y_callS (mj := miX6_isWithin) (args := [.inl x108, .inl 0, .inl (q105.1 - 1)]) (st := []) dX6_otherFits_89 (gd_of 206 rfl rfl) (gd_of 207 rfl rfl) okX6_isWithin (xX6_isWithin (by omega) eq110) (Nat.le_of_ble_eq_true rfl) rfl ?_
    show Y l g miX6_otherFits (d + 1) 92 [some (.inr (.inr (some a101))), some (.inl q105.1), some (.inl x108)] [.inl q110.1] q110.2 _
    obtain rfl := Option.some.inj hf
    exact y_ret (v := some (.inl q110.1)) dX6_otherFits_92 rfl
  rw [if_neg hc] at hf
  refine y_swc (fun hc => ?_) (fun hc => ?_)
  · rw [if_pos hc] at hf
    refine y_iload_n (i := 2) dX6_otherFits_93 rfl rfl ?_
    refine y_iconst (v := 0) dX6_otherFits_94 (by decide) ?_
    refine y_iload_n (i := 1) dX6_otherFits_95 rfl rfl ?_
    replace hf := bnd hf
    obtain ⟨q111, eq111, hf⟩ := hf
    refine y_callS (mj := miX6_isWithin) (args := [.inl x108, .inl 0, .inl q105.1]) (st := []) dX6_otherFits_96 (gd_of 206 rfl rfl) (gd_of 207 rfl rfl) okX6_isWithin (xX6_isWithin (by omega) eq111) (Nat.le_of_ble_eq_true rfl) rfl ?_
    show Y l g miX6_otherFits (d + 1) 99 [some (.inr (.inr (some a101))), some (.inl q105.1), some (.inl x108)] [.inl q111.1] q111.2 _
    refine y_if_eq (tgt := 118) dX6_otherFits_99 (by decide) (fun hc => ?_) (fun hc => ?_)
    · rw [if_pos hc] at hf
      refine y_iconst (v := 0) dX6_otherFits_118 (by decide) ?_
      obtain rfl := Option.some.inj hf
      exact y_ret (v := some (.inl 0)) dX6_otherFits_119 rfl
    · rw [if_neg hc] at hf
      refine y_aload_n (i := 0) dX6_otherFits_102 rfl rfl ?_
      replace hf := bnd hf
      obtain ⟨x112, ex112, hf⟩ := hf
      refine y_getI ex112 fl6_47 dX6_otherFits_103 ?_
      refine y_iconst (v := 0) dX6_otherFits_106 (by decide) ?_
      refine y_iconst (v := 3) dX6_otherFits_107 (by decide) ?_
      replace hf := bnd hf
      obtain ⟨q113, eq113, hf⟩ := hf
      refine y_callS (mj := miX6_isWithin) (args := [.inl x112, .inl 0, .inl 3]) (st := []) dX6_otherFits_108 (gd_of 206 rfl rfl) (gd_of 207 rfl rfl) okX6_isWithin (xX6_isWithin (by omega) eq113) (Nat.le_of_ble_eq_true rfl) rfl ?_
      show Y l g miX6_otherFits (d + 1) 111 [some (.inr (.inr (some a101))), some (.inl q105.1), some (.inl x108)] [.inl q113.1] q113.2 _
      refine y_if_eq (tgt := 118) dX6_otherFits_111 (by decide) (fun hc => ?_) (fun hc => ?_)
      · rw [if_pos hc] at hf
        refine y_iconst (v := 0) dX6_otherFits_118 (by decide) ?_
        obtain rfl := Option.some.inj hf
        exact y_ret (v := some (.inl 0)) dX6_otherFits_119 rfl
      · rw [if_neg hc] at hf
        refine y_iconst (v := 1) dX6_otherFits_114 (by decide) ?_
        refine y_goto (tgt := 119) dX6_otherFits_115 (by decide) ?_
        obtain rfl := Option.some.inj hf
        exact y_ret (v := some (.inl 1)) dX6_otherFits_119 rfl
  rw [if_neg hc] at hf
  refine y_swc (fun hc => ?_) (fun hc => ?_)
  · rw [if_pos hc] at hf
    refine y_iload_n (i := 2) dX6_otherFits_120 rfl rfl ?_
    refine y_iload_n (i := 1) dX6_otherFits_121 rfl rfl ?_
    replace hf := bnd hf
    obtain ⟨q114, eq114, hf⟩ := hf
    refine y_callS (mj := miX6_isOrder) (args := [.inl x108, .inl q105.1]) (st := []) dX6_otherFits_122 (gd_of 317 rfl rfl) (gd_of 318 rfl rfl) okX6_isOrder (xX6_isOrder (by omega) eq114) (Nat.le_of_ble_eq_true rfl) rfl ?_
    show Y l g miX6_otherFits (d + 1) 125 [some (.inr (.inr (some a101))), some (.inl q105.1), some (.inl x108)] [.inl q114.1] q114.2 _
    obtain rfl := Option.some.inj hf
    exact y_ret (v := some (.inl q114.1)) dX6_otherFits_125 rfl
  rw [if_neg hc] at hf
  refine y_swc (fun hc => ?_) (fun hc => ?_)
  · rw [if_pos hc] at hf
    refine y_aload_n (i := 0) dX6_otherFits_169 rfl rfl ?_
    replace hf := bnd hf
    obtain ⟨x115, ex115, hf⟩ := hf
    refine y_getI ex115 fl6_44 dX6_otherFits_170 ?_
    refine y_iconst (v := 0) dX6_otherFits_173 (by decide) ?_
    refine y_bipush (v := 12) dX6_otherFits_174 (by decide) ?_
    replace hf := bnd hf
    obtain ⟨q116, eq116, hf⟩ := hf
    refine y_callS (mj := miX6_isWithin) (args := [.inl x115, .inl 0, .inl 12]) (st := []) dX6_otherFits_176 (gd_of 206 rfl rfl) (gd_of 207 rfl rfl) okX6_isWithin (xX6_isWithin (by omega) eq116) (Nat.le_of_ble_eq_true rfl) rfl ?_
    show Y l g miX6_otherFits (d + 1) 179 [some (.inr (.inr (some a101))), some (.inl q105.1), some (.inl x108)] [.inl q116.1] q116.2 _
    obtain rfl := Option.some.inj hf
    exact y_ret (v := some (.inl q116.1)) dX6_otherFits_179 rfl
  rw [if_neg hc] at hf
  refine y_swc (fun hc => ?_) (fun hc => ?_)
  · rw [if_pos hc] at hf
    refine y_iload_n (i := 2) dX6_otherFits_84 rfl rfl ?_
    refine y_iconst (v := 0) dX6_otherFits_85 (by decide) ?_
    refine y_iload_n (i := 1) dX6_otherFits_86 rfl rfl ?_
    refine y_iconst (v := 1) dX6_otherFits_87 (by decide) ?_
    refine y_isub dX6_otherFits_88 ?_
    replace hf := bnd hf
    obtain ⟨q117, eq117, hf⟩ := hf
    refine y_callS (mj := miX6_isWithin) (args := [.inl x108, .inl 0, .inl (q105.1 - 1)]) (st := []) dX6_otherFits_89 (gd_of 206 rfl rfl) (gd_of 207 rfl rfl) okX6_isWithin (xX6_isWithin (by omega) eq117) (Nat.le_of_ble_eq_true rfl) rfl ?_
    show Y l g miX6_otherFits (d + 1) 92 [some (.inr (.inr (some a101))), some (.inl q105.1), some (.inl x108)] [.inl q117.1] q117.2 _
    obtain rfl := Option.some.inj hf
    exact y_ret (v := some (.inl q117.1)) dX6_otherFits_92 rfl
  rw [if_neg hc] at hf
  refine y_swc (fun hc => ?_) (fun hc => ?_)
  · rw [if_pos hc] at hf
    refine y_aload_n (i := 0) dX6_otherFits_169 rfl rfl ?_
    replace hf := bnd hf
    obtain ⟨x118, ex118, hf⟩ := hf
    refine y_getI ex118 fl6_44 dX6_otherFits_170 ?_
    refine y_iconst (v := 0) dX6_otherFits_173 (by decide) ?_
    refine y_bipush (v := 12) dX6_otherFits_174 (by decide) ?_
    replace hf := bnd hf
    obtain ⟨q119, eq119, hf⟩ := hf
    refine y_callS (mj := miX6_isWithin) (args := [.inl x118, .inl 0, .inl 12]) (st := []) dX6_otherFits_176 (gd_of 206 rfl rfl) (gd_of 207 rfl rfl) okX6_isWithin (xX6_isWithin (by omega) eq119) (Nat.le_of_ble_eq_true rfl) rfl ?_
    show Y l g miX6_otherFits (d + 1) 179 [some (.inr (.inr (some a101))), some (.inl q105.1), some (.inl x108)] [.inl q119.1] q119.2 _
    obtain rfl := Option.some.inj hf
    exact y_ret (v := some (.inl q119.1)) dX6_otherFits_179 rfl
  rw [if_neg hc] at hf
  refine y_swc (fun hc => ?_) (fun hc => ?_)
  · rw [if_pos hc] at hf
    refine y_aload_n (i := 0) dX6_otherFits_169 rfl rfl ?_
    replace hf := bnd hf
    obtain ⟨x120, ex120, hf⟩ := hf
    refine y_getI ex120 fl6_44 dX6_otherFits_170 ?_
    refine y_iconst (v := 0) dX6_otherFits_173 (by decide) ?_
    refine y_bipush (v := 12) dX6_otherFits_174 (by decide) ?_
    replace hf := bnd hf
    obtain ⟨q121, eq121, hf⟩ := hf
    refine y_callS (mj := miX6_isWithin) (args := [.inl x120, .inl 0, .inl 12]) (st := []) dX6_otherFits_176 (gd_of 206 rfl rfl) (gd_of 207 rfl rfl) okX6_isWithin (xX6_isWithin (by omega) eq121) (Nat.le_of_ble_eq_true rfl) rfl ?_
    show Y l g miX6_otherFits (d + 1) 179 [some (.inr (.inr (some a101))), some (.inl q105.1), some (.inl x108)] [.inl q121.1] q121.2 _
    obtain rfl := Option.some.inj hf
    exact y_ret (v := some (.inl q121.1)) dX6_otherFits_179 rfl
  rw [if_neg hc] at hf
  refine y_swc (fun hc => ?_) (fun hc => ?_)
  · rw [if_pos hc] at hf
    refine y_iload_n (i := 2) dX6_otherFits_126 rfl rfl ?_
    refine y_iconst (v := 0) dX6_otherFits_127 (by decide) ?_
    refine y_bipush (v := 6) dX6_otherFits_128 (by decide) ?_
    replace hf := bnd hf
    obtain ⟨q122, eq122, hf⟩ := hf
    refine y_callS (mj := miX6_isWithin) (args := [.inl x108, .inl 0, .inl 6]) (st := []) dX6_otherFits_130 (gd_of 206 rfl rfl) (gd_of 207 rfl rfl) okX6_isWithin (xX6_isWithin (by omega) eq122) (Nat.le_of_ble_eq_true rfl) rfl ?_
    show Y l g miX6_otherFits (d + 1) 133 [some (.inr (.inr (some a101))), some (.inl q105.1), some (.inl x108)] [.inl q122.1] q122.2 _
    refine y_if_ne (tgt := 148) dX6_otherFits_133 (by decide) (fun hc => ?_) (fun hc => ?_)
    · rw [if_neg hc] at hf
      refine y_iconst (v := 1) dX6_otherFits_148 (by decide) ?_
      refine y_goto (tgt := 153) dX6_otherFits_149 (by decide) ?_
      obtain rfl := Option.some.inj hf
      exact y_ret (v := some (.inl 1)) dX6_otherFits_153 rfl
    · rw [if_pos hc] at hf
      refine y_iload_n (i := 2) dX6_otherFits_136 rfl rfl ?_
      refine y_bipush (v := 100) dX6_otherFits_137 (by decide) ?_
      refine y_sipush (v := 199) dX6_otherFits_139 (by decide) ?_
      replace hf := bnd hf
      obtain ⟨q123, eq123, hf⟩ := hf
      refine y_callS (mj := miX6_isWithin) (args := [.inl x108, .inl 100, .inl 199]) (st := []) dX6_otherFits_142 (gd_of 206 rfl rfl) (gd_of 207 rfl rfl) okX6_isWithin (xX6_isWithin (by omega) eq123) (Nat.le_of_ble_eq_true rfl) rfl ?_
      show Y l g miX6_otherFits (d + 1) 145 [some (.inr (.inr (some a101))), some (.inl q105.1), some (.inl x108)] [.inl q123.1] q123.2 _
      refine y_if_eq (tgt := 152) dX6_otherFits_145 (by decide) (fun hc => ?_) (fun hc => ?_)
      · rw [if_pos hc] at hf
        refine y_iconst (v := 0) dX6_otherFits_152 (by decide) ?_
        obtain rfl := Option.some.inj hf
        exact y_ret (v := some (.inl 0)) dX6_otherFits_153 rfl
      · rw [if_neg hc] at hf
        refine y_iconst (v := 1) dX6_otherFits_148 (by decide) ?_
        refine y_goto (tgt := 153) dX6_otherFits_149 (by decide) ?_
        obtain rfl := Option.some.inj hf
        exact y_ret (v := some (.inl 1)) dX6_otherFits_153 rfl
  rw [if_neg hc] at hf
  refine y_swc (fun hc => ?_) (fun hc => ?_)
  · rw [if_pos hc] at hf
    refine y_aload_n (i := 0) dX6_otherFits_169 rfl rfl ?_
    replace hf := bnd hf
    obtain ⟨x124, ex124, hf⟩ := hf
    refine y_getI ex124 fl6_44 dX6_otherFits_170 ?_
    refine y_iconst (v := 0) dX6_otherFits_173 (by decide) ?_
    refine y_bipush (v := 12) dX6_otherFits_174 (by decide) ?_
    replace hf := bnd hf
    obtain ⟨q125, eq125, hf⟩ := hf
    refine y_callS (mj := miX6_isWithin) (args := [.inl x124, .inl 0, .inl 12]) (st := []) dX6_otherFits_176 (gd_of 206 rfl rfl) (gd_of 207 rfl rfl) okX6_isWithin (xX6_isWithin (by omega) eq125) (Nat.le_of_ble_eq_true rfl) rfl ?_
    show Y l g miX6_otherFits (d + 1) 179 [some (.inr (.inr (some a101))), some (.inl q105.1), some (.inl x108)] [.inl q125.1] q125.2 _
    obtain rfl := Option.some.inj hf
    exact y_ret (v := some (.inl q125.1)) dX6_otherFits_179 rfl
  rw [if_neg hc] at hf
  refine y_swc (fun hc => ?_) (fun hc => ?_)
  · rw [if_pos hc] at hf
    refine y_aload_n (i := 0) dX6_otherFits_169 rfl rfl ?_
    replace hf := bnd hf
    obtain ⟨x126, ex126, hf⟩ := hf
    refine y_getI ex126 fl6_44 dX6_otherFits_170 ?_
    refine y_iconst (v := 0) dX6_otherFits_173 (by decide) ?_
    refine y_bipush (v := 12) dX6_otherFits_174 (by decide) ?_
    replace hf := bnd hf
    obtain ⟨q127, eq127, hf⟩ := hf
    refine y_callS (mj := miX6_isWithin) (args := [.inl x126, .inl 0, .inl 12]) (st := []) dX6_otherFits_176 (gd_of 206 rfl rfl) (gd_of 207 rfl rfl) okX6_isWithin (xX6_isWithin (by omega) eq127) (Nat.le_of_ble_eq_true rfl) rfl ?_
    show Y l g miX6_otherFits (d + 1) 179 [some (.inr (.inr (some a101))), some (.inl q105.1), some (.inl x108)] [.inl q127.1] q127.2 _
    obtain rfl := Option.some.inj hf
    exact y_ret (v := some (.inl q127.1)) dX6_otherFits_179 rfl
  rw [if_neg hc] at hf
  refine y_swc (fun hc => ?_) (fun hc => ?_)
  · rw [if_pos hc] at hf
    refine y_iload_n (i := 2) dX6_otherFits_154 rfl rfl ?_
    refine y_iconst (v := 1) dX6_otherFits_155 (by decide) ?_
    refine y_bipush (v := 6) dX6_otherFits_156 (by decide) ?_
    replace hf := bnd hf
    obtain ⟨q128, eq128, hf⟩ := hf
    refine y_callS (mj := miX6_isWithin) (args := [.inl x108, .inl 1, .inl 6]) (st := []) dX6_otherFits_158 (gd_of 206 rfl rfl) (gd_of 207 rfl rfl) okX6_isWithin (xX6_isWithin (by omega) eq128) (Nat.le_of_ble_eq_true rfl) rfl ?_
    show Y l g miX6_otherFits (d + 1) 161 [some (.inr (.inr (some a101))), some (.inl q105.1), some (.inl x108)] [.inl q128.1] q128.2 _
    obtain rfl := Option.some.inj hf
    exact y_ret (v := some (.inl q128.1)) dX6_otherFits_161 rfl
  rw [if_neg hc] at hf
  refine y_swc (fun hc => ?_) (fun hc => ?_)
  · rw [if_pos hc] at hf
    refine y_iload_n (i := 2) dX6_otherFits_162 rfl rfl ?_
    refine y_iconst (v := 0) dX6_otherFits_163 (by decide) ?_
    refine y_iconst (v := 5) dX6_otherFits_164 (by decide) ?_
    replace hf := bnd hf
    obtain ⟨q129, eq129, hf⟩ := hf
    refine y_callS (mj := miX6_isWithin) (args := [.inl x108, .inl 0, .inl 5]) (st := []) dX6_otherFits_165 (gd_of 206 rfl rfl) (gd_of 207 rfl rfl) okX6_isWithin (xX6_isWithin (by omega) eq129) (Nat.le_of_ble_eq_true rfl) rfl ?_
    show Y l g miX6_otherFits (d + 1) 168 [some (.inr (.inr (some a101))), some (.inl q105.1), some (.inl x108)] [.inl q129.1] q129.2 _
    obtain rfl := Option.some.inj hf
    exact y_ret (v := some (.inl q129.1)) dX6_otherFits_168 rfl
  rw [if_neg hc] at hf
  refine y_swn ?_
  refine y_aload_n (i := 0) dX6_otherFits_169 rfl rfl ?_
  replace hf := bnd hf
  obtain ⟨x130, ex130, hf⟩ := hf
  refine y_getI ex130 fl6_44 dX6_otherFits_170 ?_
  refine y_iconst (v := 0) dX6_otherFits_173 (by decide) ?_
  refine y_bipush (v := 12) dX6_otherFits_174 (by decide) ?_
  replace hf := bnd hf
  obtain ⟨q131, eq131, hf⟩ := hf
  refine y_callS (mj := miX6_isWithin) (args := [.inl x130, .inl 0, .inl 12]) (st := []) dX6_otherFits_176 (gd_of 206 rfl rfl) (gd_of 207 rfl rfl) okX6_isWithin (xX6_isWithin (by omega) eq131) (Nat.le_of_ble_eq_true rfl) rfl ?_
  show Y l g miX6_otherFits (d + 1) 179 [some (.inr (.inr (some a101))), some (.inl q105.1), some (.inl x108)] [.inl q131.1] q131.2 _
  obtain rfl := Option.some.inj hf
  exact y_ret (v := some (.inl q131.1)) dX6_otherFits_179 rfl
set_option maxRecDepth 100000 in
theorem dX10_other_0 : decode prog_1_method_3_code 0 = .ok (.aload_n 0, 1) := by decide +kernel
set_option maxRecDepth 100000 in
theorem dX10_other_1 : decode prog_1_method_3_code 1 = .ok (.iload_n 2, 1) := by decide +kernel
set_option maxRecDepth 100000 in
theorem dX10_other_2 : decode prog_1_method_3_code 2 = .ok (.invokevirtual 82, 3) := by decide +kernel
set_option maxRecDepth 100000 in
theorem dX10_other_5 : decode prog_1_method_3_code 5 = .ok (.astore 7, 2) := by decide +kernel
set_option maxRecDepth 100000 in
theorem dX10_other_7 : decode prog_1_method_3_code 7 = .ok (.iload_n 1, 1) := by decide +kernel
set_option maxRecDepth 100000 in
theorem dX10_other_8 : decode prog_1_method_3_code 8 = .ok (.invokestatic 86, 3) := by decide +kernel
set_option maxRecDepth 100000 in
theorem dX10_other_11 : decode prog_1_method_3_code 11 = .ok (.ifCond .eq 11, 3) := by decide +kernel
set_option maxRecDepth 100000 in
theorem dX10_other_14 : decode prog_1_method_3_code 14 = .ok (.aload_n 0, 1) := by decide +kernel
set_option maxRecDepth 100000 in
theorem dX10_other_15 : decode prog_1_method_3_code 15 = .ok (.iload_n 3, 1) := by decide +kernel
set_option maxRecDepth 100000 in
theorem dX10_other_16 : decode prog_1_method_3_code 16 = .ok (.invokevirtual 82, 3) := by decide +kernel
set_option maxRecDepth 100000 in
theorem dX10_other_19 : decode prog_1_method_3_code 19 = .ok (.goto 5, 3) := by decide +kernel
set_option maxRecDepth 100000 in
theorem dX10_other_22 : decode prog_1_method_3_code 22 = .ok (.aload 7, 2) := by decide +kernel
set_option maxRecDepth 100000 in
theorem dX10_other_24 : decode prog_1_method_3_code 24 = .ok (.astore 8, 2) := by decide +kernel
set_option maxRecDepth 100000 in
theorem dX10_other_26 : decode prog_1_method_3_code 26 = .ok (.iload_n 1, 1) := by decide +kernel
set_option maxRecDepth 100000 in
theorem dX10_other_27 : decode prog_1_method_3_code 27 = .ok (.invokestatic 90, 3) := by decide +kernel
set_option maxRecDepth 100000 in
theorem dX10_other_30 : decode prog_1_method_3_code 30 = .ok (.ifCond .eq 12, 3) := by decide +kernel
set_option maxRecDepth 100000 in
theorem dX10_other_33 : decode prog_1_method_3_code 33 = .ok (.aload_n 0, 1) := by decide +kernel
set_option maxRecDepth 100000 in
theorem dX10_other_34 : decode prog_1_method_3_code 34 = .ok (.iload 4, 2) := by decide +kernel
set_option maxRecDepth 100000 in
theorem dX10_other_36 : decode prog_1_method_3_code 36 = .ok (.invokevirtual 82, 3) := by decide +kernel
set_option maxRecDepth 100000 in
theorem dX10_other_39 : decode prog_1_method_3_code 39 = .ok (.goto 5, 3) := by decide +kernel
set_option maxRecDepth 100000 in
theorem dX10_other_42 : decode prog_1_method_3_code 42 = .ok (.aload 7, 2) := by decide +kernel
set_option maxRecDepth 100000 in
theorem dX10_other_44 : decode prog_1_method_3_code 44 = .ok (.astore 9, 2) := by decide +kernel
set_option maxRecDepth 100000 in
theorem dX10_other_46 : decode prog_1_method_3_code 46 = .ok (.aload 7, 2) := by decide +kernel
set_option maxRecDepth 100000 in
theorem dX10_other_48 : decode prog_1_method_3_code 48 = .ok (.ifnull 13, 3) := by decide +kernel
set_option maxRecDepth 100000 in
theorem dX10_other_51 : decode prog_1_method_3_code 51 = .ok (.aload 8, 2) := by decide +kernel
set_option maxRecDepth 100000 in
theorem dX10_other_53 : decode prog_1_method_3_code 53 = .ok (.ifnull 8, 3) := by decide +kernel
set_option maxRecDepth 100000 in
theorem dX10_other_56 : decode prog_1_method_3_code 56 = .ok (.aload 9, 2) := by decide +kernel
set_option maxRecDepth 100000 in
theorem dX10_other_58 : decode prog_1_method_3_code 58 = .ok (.ifnonnull 6, 3) := by decide +kernel
set_option maxRecDepth 100000 in
theorem dX10_other_61 : decode prog_1_method_3_code 61 = .ok (.bipush (-2), 2) := by decide +kernel
set_option maxRecDepth 100000 in
theorem dX10_other_63 : decode prog_1_method_3_code 63 = .ok (.ireturn, 1) := by decide +kernel
set_option maxRecDepth 100000 in
theorem dX10_other_64 : decode prog_1_method_3_code 64 = .ok (.new 93, 3) := by decide +kernel
set_option maxRecDepth 100000 in
theorem dX10_other_67 : decode prog_1_method_3_code 67 = .ok (.dup, 1) := by decide +kernel
set_option maxRecDepth 100000 in
theorem dX10_other_68 : decode prog_1_method_3_code 68 = .ok (.iload_n 1, 1) := by decide +kernel
set_option maxRecDepth 100000 in
theorem dX10_other_69 : decode prog_1_method_3_code 69 = .ok (.aload 7, 2) := by decide +kernel
set_option maxRecDepth 100000 in
theorem dX10_other_71 : decode prog_1_method_3_code 71 = .ok (.aload 8, 2) := by decide +kernel
set_option maxRecDepth 100000 in
theorem dX10_other_73 : decode prog_1_method_3_code 73 = .ok (.aload 9, 2) := by decide +kernel
set_option maxRecDepth 100000 in
theorem dX10_other_75 : decode prog_1_method_3_code 75 = .ok (.iload 5, 2) := by decide +kernel
set_option maxRecDepth 100000 in
theorem dX10_other_77 : decode prog_1_method_3_code 77 = .ok (.iload 6, 2) := by decide +kernel
set_option maxRecDepth 100000 in
theorem dX10_other_79 : decode prog_1_method_3_code 79 = .ok (.invokespecial 95, 3) := by decide +kernel
set_option maxRecDepth 100000 in
theorem dX10_other_82 : decode prog_1_method_3_code 82 = .ok (.astore 10, 2) := by decide +kernel
set_option maxRecDepth 100000 in
theorem dX10_other_84 : decode prog_1_method_3_code 84 = .ok (.aload 10, 2) := by decide +kernel
set_option maxRecDepth 100000 in
theorem dX10_other_86 : decode prog_1_method_3_code 86 = .ok (.invokestatic 98, 3) := by decide +kernel
set_option maxRecDepth 100000 in
theorem dX10_other_89 : decode prog_1_method_3_code 89 = .ok (.ifCond .ne 6, 3) := by decide +kernel
set_option maxRecDepth 100000 in
theorem dX10_other_92 : decode prog_1_method_3_code 92 = .ok (.bipush (-3), 2) := by decide +kernel
set_option maxRecDepth 100000 in
theorem dX10_other_94 : decode prog_1_method_3_code 94 = .ok (.ireturn, 1) := by decide +kernel
set_option maxRecDepth 100000 in
theorem dX10_other_95 : decode prog_1_method_3_code 95 = .ok (.aload 10, 2) := by decide +kernel
set_option maxRecDepth 100000 in
theorem dX10_other_97 : decode prog_1_method_3_code 97 = .ok (.invokestatic 102, 3) := by decide +kernel
set_option maxRecDepth 100000 in
theorem dX10_other_100 : decode prog_1_method_3_code 100 = .ok (.astore 11, 2) := by decide +kernel
set_option maxRecDepth 100000 in
theorem dX10_other_102 : decode prog_1_method_3_code 102 = .ok (.aload 11, 2) := by decide +kernel
set_option maxRecDepth 100000 in
theorem dX10_other_104 : decode prog_1_method_3_code 104 = .ok (.ifnull 24, 3) := by decide +kernel
set_option maxRecDepth 100000 in
theorem dX10_other_107 : decode prog_1_method_3_code 107 = .ok (.iload_n 1, 1) := by decide +kernel
set_option maxRecDepth 100000 in
theorem dX10_other_108 : decode prog_1_method_3_code 108 = .ok (.ifCond .ne 23, 3) := by decide +kernel
set_option maxRecDepth 100000 in
theorem dX10_other_111 : decode prog_1_method_3_code 111 = .ok (.aload_n 0, 1) := by decide +kernel
set_option maxRecDepth 100000 in
theorem dX10_other_112 : decode prog_1_method_3_code 112 = .ok (.aload 7, 2) := by decide +kernel
set_option maxRecDepth 100000 in
theorem dX10_other_114 : decode prog_1_method_3_code 114 = .ok (.getfield 106, 3) := by decide +kernel
set_option maxRecDepth 100000 in
theorem dX10_other_117 : decode prog_1_method_3_code 117 = .ok (.iload 5, 2) := by decide +kernel
set_option maxRecDepth 100000 in
theorem dX10_other_119 : decode prog_1_method_3_code 119 = .ok (.invokevirtual 110, 3) := by decide +kernel
set_option maxRecDepth 100000 in
theorem dX10_other_122 : decode prog_1_method_3_code 122 = .ok (.invokevirtual 116, 3) := by decide +kernel
set_option maxRecDepth 100000 in
theorem dX10_other_125 : decode prog_1_method_3_code 125 = .ok (.ifCond .ne 6, 3) := by decide +kernel
set_option maxRecDepth 100000 in
theorem dX10_other_128 : decode prog_1_method_3_code 128 = .ok (.bipush (-4), 2) := by decide +kernel
set_option maxRecDepth 100000 in
theorem dX10_other_130 : decode prog_1_method_3_code 130 = .ok (.ireturn, 1) := by decide +kernel
set_option maxRecDepth 100000 in
theorem dX10_other_131 : decode prog_1_method_3_code 131 = .ok (.aload_n 0, 1) := by decide +kernel
set_option maxRecDepth 100000 in
theorem dX10_other_132 : decode prog_1_method_3_code 132 = .ok (.getfield 15, 3) := by decide +kernel
set_option maxRecDepth 100000 in
theorem dX10_other_135 : decode prog_1_method_3_code 135 = .ok (.bipush 60, 2) := by decide +kernel
set_option maxRecDepth 100000 in
theorem dX10_other_137 : decode prog_1_method_3_code 137 = .ok (.if_icmp .lt 6, 3) := by decide +kernel
set_option maxRecDepth 100000 in
theorem dX10_other_140 : decode prog_1_method_3_code 140 = .ok (.bipush (-5), 2) := by decide +kernel
set_option maxRecDepth 100000 in
theorem dX10_other_142 : decode prog_1_method_3_code 142 = .ok (.ireturn, 1) := by decide +kernel
set_option maxRecDepth 100000 in
theorem dX10_other_143 : decode prog_1_method_3_code 143 = .ok (.new 119, 3) := by decide +kernel
set_option maxRecDepth 100000 in
theorem dX10_other_146 : decode prog_1_method_3_code 146 = .ok (.dup, 1) := by decide +kernel
set_option maxRecDepth 100000 in
theorem dX10_other_147 : decode prog_1_method_3_code 147 = .ok (.aload 10, 2) := by decide +kernel
set_option maxRecDepth 100000 in
theorem dX10_other_149 : decode prog_1_method_3_code 149 = .ok (.aload 11, 2) := by decide +kernel
set_option maxRecDepth 100000 in
theorem dX10_other_151 : decode prog_1_method_3_code 151 = .ok (.invokespecial 121, 3) := by decide +kernel
set_option maxRecDepth 100000 in
theorem dX10_other_154 : decode prog_1_method_3_code 154 = .ok (.astore 12, 2) := by decide +kernel
set_option maxRecDepth 100000 in
theorem dX10_other_156 : decode prog_1_method_3_code 156 = .ok (.iload_n 1, 1) := by decide +kernel
set_option maxRecDepth 100000 in
theorem dX10_other_157 : decode prog_1_method_3_code 157 = .ok (.ifCond .ne 19, 3) := by decide +kernel
set_option maxRecDepth 100000 in
theorem dX10_other_160 : decode prog_1_method_3_code 160 = .ok (.aload_n 0, 1) := by decide +kernel
set_option maxRecDepth 100000 in
theorem dX10_other_161 : decode prog_1_method_3_code 161 = .ok (.aload 12, 2) := by decide +kernel
set_option maxRecDepth 100000 in
theorem dX10_other_163 : decode prog_1_method_3_code 163 = .ok (.aload 7, 2) := by decide +kernel
set_option maxRecDepth 100000 in
theorem dX10_other_165 : decode prog_1_method_3_code 165 = .ok (.getfield 106, 3) := by decide +kernel
set_option maxRecDepth 100000 in
theorem dX10_other_168 : decode prog_1_method_3_code 168 = .ok (.iload 5, 2) := by decide +kernel
set_option maxRecDepth 100000 in
theorem dX10_other_170 : decode prog_1_method_3_code 170 = .ok (.invokevirtual 110, 3) := by decide +kernel
set_option maxRecDepth 100000 in
theorem dX10_other_173 : decode prog_1_method_3_code 173 = .ok (.invokevirtual 124, 3) := by decide +kernel
set_option maxRecDepth 100000 in
theorem dX10_other_176 : decode prog_1_method_3_code 176 = .ok (.aload_n 0, 1) := by decide +kernel
set_option maxRecDepth 100000 in
theorem dX10_other_177 : decode prog_1_method_3_code 177 = .ok (.aload 12, 2) := by decide +kernel
set_option maxRecDepth 100000 in
theorem dX10_other_179 : decode prog_1_method_3_code 179 = .ok (.invokevirtual 78, 3) := by decide +kernel
set_option maxRecDepth 100000 in
theorem dX10_other_182 : decode prog_1_method_3_code 182 = .ok (.ireturn, 1) := by decide +kernel
abbrev dz1 : List aV := [.inl 0, .inr (.inr none), .inl 0, .inr (.inr none), .inl 0, .inr (.inl 0)]
set_option maxRecDepth 100000 in
theorem dz1_ok : ∀ j, j < 6 → defaultValue (tyX2 j) = vp_V (dz1.map tv) j := by decide +kernel
set_option maxRecDepth 100000 in
theorem okX2_init : mOk miX2_init 2 := ⟨(gd_of 401 rfl rfl), (gd_of 83 rfl rfl), by decide +kernel, ⟨by decide +kernel, by decide +kernel, by decide +kernel⟩, by decide⟩
set_option maxRecDepth 100000 in
theorem okX10_keepHandle : mOk miX10_keepHandle 1 := ⟨(gd_of 258 rfl rfl), (gd_of 72 rfl rfl), by decide +kernel, ⟨by decide +kernel, by decide +kernel, by decide +kernel⟩, by decide⟩
set_option maxRecDepth 100000 in
theorem okX10_bind : mOk miX10_bind 2 := ⟨(gd_of 422 rfl rfl), (gd_of 72 rfl rfl), by decide +kernel, ⟨by decide +kernel, by decide +kernel, by decide +kernel⟩, by decide⟩
abbrev dz2 : List aV := [.inl 0, .inr (.inr none), .inr (.inr none), .inr (.inr none), .inl 0, .inl 0]
set_option maxRecDepth 100000 in
theorem dz2_ok : ∀ j, j < 6 → defaultValue (tyX3 j) = vp_V (dz2.map tv) j := by decide +kernel
set_option maxRecDepth 100000 in
theorem okX3_init : mOk miX3_init 6 := ⟨(gd_of 277 rfl rfl), (gd_of 80 rfl rfl), by decide +kernel, ⟨by decide +kernel, by decide +kernel, by decide +kernel⟩, by decide⟩
set_option maxRecDepth 100000 in
theorem okX6_otherFits : mOk miX6_otherFits 1 := ⟨(gd_of 312 rfl rfl), (gd_of 77 rfl rfl), by decide +kernel, ⟨by decide +kernel, by decide +kernel, by decide +kernel⟩, by decide⟩
set_option maxRecDepth 100000 in
theorem okX6_ofOther : mOk miX6_ofOther 1 := ⟨(gd_of 322 rfl rfl), (gd_of 77 rfl rfl), by decide +kernel, ⟨by decide +kernel, by decide +kernel, by decide +kernel⟩, by decide⟩
set_option maxRecDepth 100000 in
theorem okX10_canBind : mOk miX10_canBind 1 := ⟨(gd_of 381 rfl rfl), (gd_of 72 rfl rfl), by decide +kernel, ⟨by decide +kernel, by decide +kernel, by decide +kernel⟩, by decide⟩
set_option maxRecDepth 100000 in
theorem okX6_looksAtY : mOk miX6_looksAtY 1 := ⟨(gd_of 272 rfl rfl), (gd_of 77 rfl rfl), by decide +kernel, ⟨by decide +kernel, by decide +kernel, by decide +kernel⟩, by decide⟩
set_option maxRecDepth 100000 in
theorem okX6_looksAtX : mOk miX6_looksAtX 1 := ⟨(gd_of 269 rfl rfl), (gd_of 77 rfl rfl), by decide +kernel, ⟨by decide +kernel, by decide +kernel, by decide +kernel⟩, by decide⟩
def fX10_other_131 (z : Nat → Nat) (a0 : Nat) (x1 : Int32) (x5 : Int32) (r7 : Option Nat) (r10 : Option Nat) (r11 : Option Nat) (h : aH) : Option (Int32 × aH) :=
  (rdI h a0 [8] 1).bind fun x101 =>
  (if x101 < 60 then
  (fX2_init z h.1 r10 r11 (hnew h 6 (.inr (1, dz1)))).bind fun q102 =>
  (if x1 = 0 then
  (r7).bind fun a105 =>
  (rdR q102 a105 [0, 1] 1).bind fun r106 =>
  (r106).bind fun a108 =>
  (obO q102 a108 6).bind fun fs109 =>
  (fX8_at z a108 x5 q102).bind fun q107 =>
  (obO q107.2 a0 8).bind fun fs111 =>
  (fX10_bind z a0 (some h.1) q107.1 q107.2).bind fun q110 =>
  (obO q110 a0 8).bind fun fs113 =>
  (fX10_keepHandle z a0 (some h.1) q110).bind fun q112 =>
  some (q112.1, q112.2)
  else
  (obO q102 a0 8).bind fun fs104 =>
  (fX10_keepHandle z a0 (some h.1) q102).bind fun q103 =>
  some (q103.1, q103.2))
  else
  some ((-5), h))
set_option maxHeartbeats 4000000 in
set_option maxRecDepth 100000 in
theorem xX10_other_131 {l : Launch} {g : aG} {d : Nat} (hK : 5 ≤ d + 1) {a0 : Nat} {x1 : Int32} {x5 : Int32} {r7 : Option Nat} {r10 : Option Nat} {r11 : Option Nat} {h : aH} {q : Int32 × aH} (hf : fX10_other_131 g.2.2 a0 x1 x5 r7 r10 r11 h = some q) : Y l g miX10_other (d + 1) 131 [some (.inr (.inr (some a0))), some (.inl x1), none, none, none, some (.inl x5), none, some (.inr (.inr r7)), none, none, some (.inr (.inr r10)), some (.inr (.inr r11)), none] [] h (some (.inl q.1), q.2) := by
  unfold fX10_other_131 at hf
  refine y_aload_n (i := 0) dX10_other_131 rfl rfl ?_
  replace hf := bnd hf
  obtain ⟨x101, ex101, hf⟩ := hf
  refine y_getI ex101 fl10_15 dX10_other_132 ?_
  refine y_bipush (v := 60) dX10_other_135 (by decide) ?_
  refine y_icmp_lt (tgt := 143) dX10_other_137 (by decide) (fun hc => ?_) (fun hc => ?_)
  · rw [if_pos hc] at hf
    refine y_new (c := 1) (fs := dz1) rfl tyX2 tyX2_ok rfl dz1_ok (gd_of 397 rfl rfl) (gd_of 398 rfl rfl) (gd_of 83 rfl rfl) dX10_other_143 ?_
    refine y_dup dX10_other_146 rfl ?_
    refine y_aload (i := 10) dX10_other_147 rfl ?_
    refine y_aload (i := 11) dX10_other_149 rfl ?_
    replace hf := bnd hf
    obtain ⟨q102, eq102, hf⟩ := hf
    refine y_callI (mj := miX2_init) (args := [.inr (.inr r10), .inr (.inr r11)]) (st := [.inr (.inr (some h.1))]) dX10_other_151 (Or.inl (gd_of 399 rfl rfl)) (gd_of 400 rfl rfl) rfl rfl okX2_init (xX2_init (by omega) eq102) (Nat.le_of_ble_eq_true rfl) rfl ?_
    show Y l g miX10_other (d + 1) 154 [some (.inr (.inr (some a0))), some (.inl x1), none, none, none, some (.inl x5), none, some (.inr (.inr r7)), none, none, some (.inr (.inr r10)), some (.inr (.inr r11)), none] [.inr (.inr (some h.1))] q102 _
    refine y_astore (i := 12) (lv2 := [some (.inr (.inr (some a0))), some (.inl x1), none, none, none, some (.inl x5), none, some (.inr (.inr r7)), none, none, some (.inr (.inr r10)), some (.inr (.inr r11)), some (.inr (.inr (some h.1)))]) dX10_other_154 (by decide) rfl ?_
    refine y_iload_n (i := 1) dX10_other_156 rfl rfl ?_
    refine y_if_ne (tgt := 176) dX10_other_157 (by decide) (fun hc => ?_) (fun hc => ?_)
    · rw [if_neg hc] at hf
      refine y_aload_n (i := 0) dX10_other_176 rfl rfl ?_
      refine y_aload (i := 12) dX10_other_177 rfl ?_
      replace hf := bnd hf
      obtain ⟨fs104, efs104, hf⟩ := hf
      replace hf := bnd hf
      obtain ⟨q103, eq103, hf⟩ := hf
      refine y_callV (mj := miX10_keepHandle) (args := [.inr (.inr (some h.1))]) (st := []) dX10_other_179 (gd_of 255 rfl rfl) (gd_of 257 rfl rfl) (gd_of 0 rfl rfl) okX10_keepHandle (obO_spec efs104) rfl rfl (xX10_keepHandle (by omega) eq103) (Nat.le_of_ble_eq_true rfl) rfl ?_
      show Y l g miX10_other (d + 1) 182 [some (.inr (.inr (some a0))), some (.inl x1), none, none, none, some (.inl x5), none, some (.inr (.inr r7)), none, none, some (.inr (.inr r10)), some (.inr (.inr r11)), some (.inr (.inr (some h.1)))] [.inl q103.1] q103.2 _
      obtain rfl := Option.some.inj hf
      exact y_ret (v := some (.inl q103.1)) dX10_other_182 rfl
    · rw [if_pos hc] at hf
      refine y_aload_n (i := 0) dX10_other_160 rfl rfl ?_
      refine y_aload (i := 12) dX10_other_161 rfl ?_
      refine y_aload (i := 7) dX10_other_163 rfl ?_
      replace hf := bnd hf
      obtain ⟨a105, rfl, hf⟩ := hf
      replace hf := bnd hf
      obtain ⟨r106, er106, hf⟩ := hf
      refine y_getR er106 fl10_106 dX10_other_165 ?_
      refine y_iload (i := 5) dX10_other_168 rfl ?_
      replace hf := bnd hf
      obtain ⟨a108, rfl, hf⟩ := hf
      replace hf := bnd hf
      obtain ⟨fs109, efs109, hf⟩ := hf
      replace hf := bnd hf
      obtain ⟨q107, eq107, hf⟩ := hf
      refine y_callV (mj := miX8_at) (args := [.inl x5]) (st := [.inr (.inr (some h.1)), .inr (.inr (some a0))]) dX10_other_170 (gd_of 377 rfl rfl) (gd_of 340 rfl rfl) (gd_of 341 rfl rfl) okX8_at (obO_spec efs109) rfl rfl (xX8_at (by omega) eq107) (Nat.le_of_ble_eq_true rfl) rfl ?_
      show Y l g miX10_other (d + 1) 173 [some (.inr (.inr (some a0))), some (.inl x1), none, none, none, some (.inl x5), none, some (.inr (.inr (some a105))), none, none, some (.inr (.inr r10)), some (.inr (.inr r11)), some (.inr (.inr (some h.1)))] [.inl q107.1, .inr (.inr (some h.1)), .inr (.inr (some a0))] q107.2 _
      replace hf := bnd hf
      obtain ⟨fs111, efs111, hf⟩ := hf
      replace hf := bnd hf
      obtain ⟨q110, eq110, hf⟩ := hf
      refine y_callV (mj := miX10_bind) (args := [.inr (.inr (some h.1)), .inl q107.1]) (st := []) dX10_other_173 (gd_of 419 rfl rfl) (gd_of 421 rfl rfl) (gd_of 3 rfl rfl) okX10_bind (obO_spec efs111) rfl rfl (xX10_bind (by omega) eq110) (Nat.le_of_ble_eq_true rfl) rfl ?_
      show Y l g miX10_other (d + 1) 176 [some (.inr (.inr (some a0))), some (.inl x1), none, none, none, some (.inl x5), none, some (.inr (.inr (some a105))), none, none, some (.inr (.inr r10)), some (.inr (.inr r11)), some (.inr (.inr (some h.1)))] [] q110 _
      refine y_aload_n (i := 0) dX10_other_176 rfl rfl ?_
      refine y_aload (i := 12) dX10_other_177 rfl ?_
      replace hf := bnd hf
      obtain ⟨fs113, efs113, hf⟩ := hf
      replace hf := bnd hf
      obtain ⟨q112, eq112, hf⟩ := hf
      refine y_callV (mj := miX10_keepHandle) (args := [.inr (.inr (some h.1))]) (st := []) dX10_other_179 (gd_of 255 rfl rfl) (gd_of 257 rfl rfl) (gd_of 0 rfl rfl) okX10_keepHandle (obO_spec efs113) rfl rfl (xX10_keepHandle (by omega) eq112) (Nat.le_of_ble_eq_true rfl) rfl ?_
      show Y l g miX10_other (d + 1) 182 [some (.inr (.inr (some a0))), some (.inl x1), none, none, none, some (.inl x5), none, some (.inr (.inr (some a105))), none, none, some (.inr (.inr r10)), some (.inr (.inr r11)), some (.inr (.inr (some h.1)))] [.inl q112.1] q112.2 _
      obtain rfl := Option.some.inj hf
      exact y_ret (v := some (.inl q112.1)) dX10_other_182 rfl
  · rw [if_neg hc] at hf
    refine y_bipush (v := (-5)) dX10_other_140 (by decide) ?_
    obtain rfl := Option.some.inj hf
    exact y_ret (v := some (.inl (-5))) dX10_other_142 rfl
def fX10_other_44 (z : Nat → Nat) (a0 : Nat) (x1 : Int32) (x5 : Int32) (x6 : Int32) (r7 : Option Nat) (r8 : Option Nat) (sr0 : Option Nat) (h : aH) : Option (Int32 × aH) :=
  (Option.elim r7
  (some ((-2), h))
  fun a101 =>
  (Option.elim r8
  (some ((-2), h))
  fun a102 =>
  (Option.elim sr0
  (some ((-2), h))
  fun a103 =>
  (fX3_init z h.1 x1 (some a101) (some a102) (some a103) x5 x6 (hnew h 6 (.inr (2, dz2)))).bind fun q104 =>
  (fX6_otherFits z (some h.1) q104).bind fun q105 =>
  (if q105.1 = 0 then
  some ((-3), q105.2)
  else
  (fX6_ofOther z (some h.1) q105.2).bind fun q106 =>
  (Option.elim q106.1
  (some ((-4), q106.2))
  fun a107 =>
  (if x1 = 0 then
  (rdR q106.2 a101 [0, 1] 1).bind fun r108 =>
  (r108).bind fun a110 =>
  (obO q106.2 a110 6).bind fun fs111 =>
  (fX8_at z a110 x5 q106.2).bind fun q109 =>
  (obO q109.2 a0 8).bind fun fs113 =>
  (fX10_canBind z a0 q109.1 q109.2).bind fun q112 =>
  (if q112.1 = 0 then
  some ((-4), q112.2)
  else
  fX10_other_131 z a0 x1 x5 (some a101) (some h.1) (some a107) q112.2)
  else
  fX10_other_131 z a0 x1 x5 (some a101) (some h.1) (some a107) q106.2))))))
set_option maxHeartbeats 4000000 in
set_option maxRecDepth 100000 in
theorem xX10_other_44 {l : Launch} {g : aG} {d : Nat} (hK : 5 ≤ d + 1) {a0 : Nat} {x1 : Int32} {x5 : Int32} {x6 : Int32} {r7 : Option Nat} {r8 : Option Nat} {sr0 : Option Nat} {h : aH} {q : Int32 × aH} (hf : fX10_other_44 g.2.2 a0 x1 x5 x6 r7 r8 sr0 h = some q) : Y l g miX10_other (d + 1) 44 [some (.inr (.inr (some a0))), some (.inl x1), none, none, none, some (.inl x5), some (.inl x6), some (.inr (.inr r7)), some (.inr (.inr r8)), none, none, none, none] [.inr (.inr sr0)] h (some (.inl q.1), q.2) := by
  unfold fX10_other_44 at hf
  refine y_astore (i := 9) (lv2 := [some (.inr (.inr (some a0))), some (.inl x1), none, none, none, some (.inl x5), some (.inl x6), some (.inr (.inr r7)), some (.inr (.inr r8)), some (.inr (.inr sr0)), none, none, none]) dX10_other_44 (by decide) rfl ?_
  refine y_aload (i := 7) dX10_other_46 rfl ?_
  refine y_ifnull (tgt := 61) dX10_other_48 (by decide) (fun hc => ?_) (fun a101 hc => ?_)
  · subst hc; rw [Option.elim_none] at hf
    refine y_bipush (v := (-2)) dX10_other_61 (by decide) ?_
    obtain rfl := Option.some.inj hf
    exact y_ret (v := some (.inl (-2))) dX10_other_63 rfl
  · subst hc; rw [Option.elim_some] at hf
    refine y_aload (i := 8) dX10_other_51 rfl ?_
    refine y_ifnull (tgt := 61) dX10_other_53 (by decide) (fun hc => ?_) (fun a102 hc => ?_)
    · subst hc; rw [Option.elim_none] at hf
      refine y_bipush (v := (-2)) dX10_other_61 (by decide) ?_
      obtain rfl := Option.some.inj hf
      exact y_ret (v := some (.inl (-2))) dX10_other_63 rfl
    · subst hc; rw [Option.elim_some] at hf
      refine y_aload (i := 9) dX10_other_56 rfl ?_
      refine y_ifnonnull (tgt := 64) dX10_other_58 (by decide) (fun hc => ?_) (fun a103 hc => ?_)
      · subst hc; rw [Option.elim_none] at hf
        refine y_bipush (v := (-2)) dX10_other_61 (by decide) ?_
        obtain rfl := Option.some.inj hf
        exact y_ret (v := some (.inl (-2))) dX10_other_63 rfl
      · subst hc; rw [Option.elim_some] at hf
        refine y_new (c := 2) (fs := dz2) rfl tyX3 tyX3_ok rfl dz2_ok (gd_of 273 rfl rfl) (gd_of 274 rfl rfl) (gd_of 80 rfl rfl) dX10_other_64 ?_
        refine y_dup dX10_other_67 rfl ?_
        refine y_iload_n (i := 1) dX10_other_68 rfl rfl ?_
        refine y_aload (i := 7) dX10_other_69 rfl ?_
        refine y_aload (i := 8) dX10_other_71 rfl ?_
        refine y_aload (i := 9) dX10_other_73 rfl ?_
        refine y_iload (i := 5) dX10_other_75 rfl ?_
        refine y_iload (i := 6) dX10_other_77 rfl ?_
        replace hf := bnd hf
        obtain ⟨q104, eq104, hf⟩ := hf
        refine y_callI (mj := miX3_init) (args := [.inl x1, .inr (.inr (some a101)), .inr (.inr (some a102)), .inr (.inr (some a103)), .inl x5, .inl x6]) (st := [.inr (.inr (some h.1))]) dX10_other_79 (Or.inl (gd_of 275 rfl rfl)) (gd_of 276 rfl rfl) rfl rfl okX3_init (xX3_init (by omega) eq104) (Nat.le_of_ble_eq_true rfl) rfl ?_
        show Y l g miX10_other (d + 1) 82 [some (.inr (.inr (some a0))), some (.inl x1), none, none, none, some (.inl x5), some (.inl x6), some (.inr (.inr (some a101))), some (.inr (.inr (some a102))), some (.inr (.inr (some a103))), none, none, none] [.inr (.inr (some h.1))] q104 _
        refine y_astore (i := 10) (lv2 := [some (.inr (.inr (some a0))), some (.inl x1), none, none, none, some (.inl x5), some (.inl x6), some (.inr (.inr (some a101))), some (.inr (.inr (some a102))), some (.inr (.inr (some a103))), some (.inr (.inr (some h.1))), none, none]) dX10_other_82 (by decide) rfl ?_
        refine y_aload (i := 10) dX10_other_84 rfl ?_
        replace hf := bnd hf
        obtain ⟨q105, eq105, hf⟩ := hf
        refine y_callS (mj := miX6_otherFits) (args := [.inr (.inr (some h.1))]) (st := []) dX10_other_86 (gd_of 310 rfl rfl) (gd_of 311 rfl rfl) okX6_otherFits (xX6_otherFits (by omega) eq105) (Nat.le_of_ble_eq_true rfl) rfl ?_
        show Y l g miX10_other (d + 1) 89 [some (.inr (.inr (some a0))), some (.inl x1), none, none, none, some (.inl x5), some (.inl x6), some (.inr (.inr (some a101))), some (.inr (.inr (some a102))), some (.inr (.inr (some a103))), some (.inr (.inr (some h.1))), none, none] [.inl q105.1] q105.2 _
        refine y_if_ne (tgt := 95) dX10_other_89 (by decide) (fun hc => ?_) (fun hc => ?_)
        · rw [if_neg hc] at hf
          refine y_aload (i := 10) dX10_other_95 rfl ?_
          replace hf := bnd hf
          obtain ⟨q106, eq106, hf⟩ := hf
          refine y_callS (mj := miX6_ofOther) (args := [.inr (.inr (some h.1))]) (st := []) dX10_other_97 (gd_of 320 rfl rfl) (gd_of 321 rfl rfl) okX6_ofOther (xX6_ofOther (by omega) eq106) (Nat.le_of_ble_eq_true rfl) rfl ?_
          show Y l g miX10_other (d + 1) 100 [some (.inr (.inr (some a0))), some (.inl x1), none, none, none, some (.inl x5), some (.inl x6), some (.inr (.inr (some a101))), some (.inr (.inr (some a102))), some (.inr (.inr (some a103))), some (.inr (.inr (some h.1))), none, none] [.inr (.inr q106.1)] q106.2 _
          refine y_astore (i := 11) (lv2 := [some (.inr (.inr (some a0))), some (.inl x1), none, none, none, some (.inl x5), some (.inl x6), some (.inr (.inr (some a101))), some (.inr (.inr (some a102))), some (.inr (.inr (some a103))), some (.inr (.inr (some h.1))), some (.inr (.inr q106.1)), none]) dX10_other_100 (by decide) rfl ?_
          refine y_aload (i := 11) dX10_other_102 rfl ?_
          refine y_ifnull (tgt := 128) dX10_other_104 (by decide) (fun hc => ?_) (fun a107 hc => ?_)
          · rw [hc] at hf; rw [hc]; rw [Option.elim_none] at hf
            refine y_bipush (v := (-4)) dX10_other_128 (by decide) ?_
            obtain rfl := Option.some.inj hf
            exact y_ret (v := some (.inl (-4))) dX10_other_130 rfl
          · rw [hc] at hf; rw [hc]; rw [Option.elim_some] at hf
            refine y_iload_n (i := 1) dX10_other_107 rfl rfl ?_
            refine y_if_ne (tgt := 131) dX10_other_108 (by decide) (fun hc => ?_) (fun hc => ?_)
            · rw [if_neg hc] at hf
              refine Y.weak (lv2 := [some (.inr (.inr (some a0))), some (.inl x1), none, none, none, some (.inl x5), none, some (.inr (.inr (some a101))), none, none, some (.inr (.inr (some h.1))), some (.inr (.inr (some a107))), none]) [true, true, false, false, false, true, false, true, false, false, true, true, false] rfl ?_
              exact xX10_other_131 hK hf
            · rw [if_pos hc] at hf
              refine y_aload_n (i := 0) dX10_other_111 rfl rfl ?_
              refine y_aload (i := 7) dX10_other_112 rfl ?_
              replace hf := bnd hf
              obtain ⟨r108, er108, hf⟩ := hf
              refine y_getR er108 fl10_106 dX10_other_114 ?_
              refine y_iload (i := 5) dX10_other_117 rfl ?_
              replace hf := bnd hf
              obtain ⟨a110, rfl, hf⟩ := hf
              replace hf := bnd hf
              obtain ⟨fs111, efs111, hf⟩ := hf
              replace hf := bnd hf
              obtain ⟨q109, eq109, hf⟩ := hf
              refine y_callV (mj := miX8_at) (args := [.inl x5]) (st := [.inr (.inr (some a0))]) dX10_other_119 (gd_of 377 rfl rfl) (gd_of 340 rfl rfl) (gd_of 341 rfl rfl) okX8_at (obO_spec efs111) rfl rfl (xX8_at (by omega) eq109) (Nat.le_of_ble_eq_true rfl) rfl ?_
              show Y l g miX10_other (d + 1) 122 [some (.inr (.inr (some a0))), some (.inl x1), none, none, none, some (.inl x5), some (.inl x6), some (.inr (.inr (some a101))), some (.inr (.inr (some a102))), some (.inr (.inr (some a103))), some (.inr (.inr (some h.1))), some (.inr (.inr (some a107))), none] [.inl q109.1, .inr (.inr (some a0))] q109.2 _
              replace hf := bnd hf
              obtain ⟨fs113, efs113, hf⟩ := hf
              replace hf := bnd hf
              obtain ⟨q112, eq112, hf⟩ := hf
              refine y_callV (mj := miX10_canBind) (args := [.inl q109.1]) (st := []) dX10_other_122 (gd_of 378 rfl rfl) (gd_of 380 rfl rfl) (gd_of 2 rfl rfl) okX10_canBind (obO_spec efs113) rfl rfl (xX10_canBind (by omega) eq112) (Nat.le_of_ble_eq_true rfl) rfl ?_
              show Y l g miX10_other (d + 1) 125 [some (.inr (.inr (some a0))), some (.inl x1), none, none, none, some (.inl x5), some (.inl x6), some (.inr (.inr (some a101))), some (.inr (.inr (some a102))), some (.inr (.inr (some a103))), some (.inr (.inr (some h.1))), some (.inr (.inr (some a107))), none] [.inl q112.1] q112.2 _
              refine y_if_ne (tgt := 131) dX10_other_125 (by decide) (fun hc => ?_) (fun hc => ?_)
              · rw [if_neg hc] at hf
                refine Y.weak (lv2 := [some (.inr (.inr (some a0))), some (.inl x1), none, none, none, some (.inl x5), none, some (.inr (.inr (some a101))), none, none, some (.inr (.inr (some h.1))), some (.inr (.inr (some a107))), none]) [true, true, false, false, false, true, false, true, false, false, true, true, false] rfl ?_
                exact xX10_other_131 hK hf
              · rw [if_pos hc] at hf
                refine y_bipush (v := (-4)) dX10_other_128 (by decide) ?_
                obtain rfl := Option.some.inj hf
                exact y_ret (v := some (.inl (-4))) dX10_other_130 rfl
        · rw [if_pos hc] at hf
          refine y_bipush (v := (-3)) dX10_other_92 (by decide) ?_
          obtain rfl := Option.some.inj hf
          exact y_ret (v := some (.inl (-3))) dX10_other_94 rfl
def fX10_other_24 (z : Nat → Nat) (a0 : Nat) (x1 : Int32) (x4 : Int32) (x5 : Int32) (x6 : Int32) (r7 : Option Nat) (sr0 : Option Nat) (h : aH) : Option (Int32 × aH) :=
  (fX6_looksAtY z x1 h).bind fun q101 =>
  (if q101.1 = 0 then
  fX10_other_44 z a0 x1 x5 x6 r7 sr0 r7 q101.2
  else
  (obO q101.2 a0 8).bind fun fs103 =>
  (fX10_handleAt z a0 x4 q101.2).bind fun q102 =>
  fX10_other_44 z a0 x1 x5 x6 r7 sr0 q102.1 q102.2)
set_option maxHeartbeats 4000000 in
set_option maxRecDepth 100000 in
theorem xX10_other_24 {l : Launch} {g : aG} {d : Nat} (hK : 5 ≤ d + 1) {a0 : Nat} {x1 : Int32} {x4 : Int32} {x5 : Int32} {x6 : Int32} {r7 : Option Nat} {sr0 : Option Nat} {h : aH} {q : Int32 × aH} (hf : fX10_other_24 g.2.2 a0 x1 x4 x5 x6 r7 sr0 h = some q) : Y l g miX10_other (d + 1) 24 [some (.inr (.inr (some a0))), some (.inl x1), none, none, some (.inl x4), some (.inl x5), some (.inl x6), some (.inr (.inr r7)), none, none, none, none, none] [.inr (.inr sr0)] h (some (.inl q.1), q.2) := by
  unfold fX10_other_24 at hf
  refine y_astore (i := 8) (lv2 := [some (.inr (.inr (some a0))), some (.inl x1), none, none, some (.inl x4), some (.inl x5), some (.inl x6), some (.inr (.inr r7)), some (.inr (.inr sr0)), none, none, none, none]) dX10_other_24 (by decide) rfl ?_
  refine y_iload_n (i := 1) dX10_other_26 rfl rfl ?_
  replace hf := bnd hf
  obtain ⟨q101, eq101, hf⟩ := hf
  refine y_callS (mj := miX6_looksAtY) (args := [.inl x1]) (st := []) dX10_other_27 (gd_of 270 rfl rfl) (gd_of 271 rfl rfl) okX6_looksAtY (xX6_looksAtY (by omega) eq101) (Nat.le_of_ble_eq_true rfl) rfl ?_
  show Y l g miX10_other (d + 1) 30 [some (.inr (.inr (some a0))), some (.inl x1), none, none, some (.inl x4), some (.inl x5), some (.inl x6), some (.inr (.inr r7)), some (.inr (.inr sr0)), none, none, none, none] [.inl q101.1] q101.2 _
  refine y_if_eq (tgt := 42) dX10_other_30 (by decide) (fun hc => ?_) (fun hc => ?_)
  · rw [if_pos hc] at hf
    refine y_aload (i := 7) dX10_other_42 rfl ?_
    refine Y.weak (lv2 := [some (.inr (.inr (some a0))), some (.inl x1), none, none, none, some (.inl x5), some (.inl x6), some (.inr (.inr r7)), some (.inr (.inr sr0)), none, none, none, none]) [true, true, false, false, false, true, true, true, true, false, false, false, false] rfl ?_
    exact xX10_other_44 hK hf
  · rw [if_neg hc] at hf
    refine y_aload_n (i := 0) dX10_other_33 rfl rfl ?_
    refine y_iload (i := 4) dX10_other_34 rfl ?_
    replace hf := bnd hf
    obtain ⟨fs103, efs103, hf⟩ := hf
    replace hf := bnd hf
    obtain ⟨q102, eq102, hf⟩ := hf
    refine y_callV (mj := miX10_handleAt) (args := [.inl x4]) (st := []) dX10_other_36 (gd_of 263 rfl rfl) (gd_of 265 rfl rfl) (gd_of 1 rfl rfl) okX10_handleAt (obO_spec efs103) rfl rfl (xX10_handleAt (by omega) eq102) (Nat.le_of_ble_eq_true rfl) rfl ?_
    show Y l g miX10_other (d + 1) 39 [some (.inr (.inr (some a0))), some (.inl x1), none, none, some (.inl x4), some (.inl x5), some (.inl x6), some (.inr (.inr r7)), some (.inr (.inr sr0)), none, none, none, none] [.inr (.inr q102.1)] q102.2 _
    refine y_goto (tgt := 44) dX10_other_39 (by decide) ?_
    refine Y.weak (lv2 := [some (.inr (.inr (some a0))), some (.inl x1), none, none, none, some (.inl x5), some (.inl x6), some (.inr (.inr r7)), some (.inr (.inr sr0)), none, none, none, none]) [true, true, false, false, false, true, true, true, true, false, false, false, false] rfl ?_
    exact xX10_other_44 hK hf
def fX10_other (z : Nat → Nat) (a0 : Nat) (x1 : Int32) (x2 : Int32) (x3 : Int32) (x4 : Int32) (x5 : Int32) (x6 : Int32) (h : aH) : Option (Int32 × aH) :=
  (obO h a0 8).bind fun fs102 =>
  (fX10_handleAt z a0 x2 h).bind fun q101 =>
  (fX6_looksAtX z x1 q101.2).bind fun q103 =>
  (if q103.1 = 0 then
  fX10_other_24 z a0 x1 x4 x5 x6 q101.1 q101.1 q103.2
  else
  (obO q103.2 a0 8).bind fun fs105 =>
  (fX10_handleAt z a0 x3 q103.2).bind fun q104 =>
  fX10_other_24 z a0 x1 x4 x5 x6 q101.1 q104.1 q104.2)
set_option maxHeartbeats 4000000 in
set_option maxRecDepth 100000 in
theorem xX10_other {l : Launch} {g : aG} {d : Nat} (hK : 5 ≤ d) {a0 : Nat} {x1 : Int32} {x2 : Int32} {x3 : Int32} {x4 : Int32} {x5 : Int32} {x6 : Int32} {h : aH} {q : Int32 × aH} (hf : fX10_other g.2.2 a0 x1 x2 x3 x4 x5 x6 h = some q) : Ev l g miX10_other d [.inr (.inr (some a0)), .inl x1, .inl x2, .inl x3, .inl x4, .inl x5, .inl x6] h (some (.inl q.1), q.2) := by
  obtain ⟨d, rfl⟩ : ∃ e, d = e + 1 := ⟨d - 1, by omega⟩
  refine ⟨?_, Or.inl rfl, Nat.le_of_ble_eq_true rfl⟩
  unfold fX10_other at hf
  show Y l g miX10_other (d + 1) 0 [some (.inr (.inr (some a0))), some (.inl x1), some (.inl x2), some (.inl x3), some (.inl x4), some (.inl x5), some (.inl x6), none, none, none, none, none, none] [] h _
  refine y_aload_n (i := 0) dX10_other_0 rfl rfl ?_
  refine y_iload_n (i := 2) dX10_other_1 rfl rfl ?_
  replace hf := bnd hf
  obtain ⟨fs102, efs102, hf⟩ := hf
  replace hf := bnd hf
  obtain ⟨q101, eq101, hf⟩ := hf
  refine y_callV (mj := miX10_handleAt) (args := [.inl x2]) (st := []) dX10_other_2 (gd_of 263 rfl rfl) (gd_of 265 rfl rfl) (gd_of 1 rfl rfl) okX10_handleAt (obO_spec efs102) rfl rfl (xX10_handleAt (by omega) eq101) (Nat.le_of_ble_eq_true rfl) rfl ?_
  show Y l g miX10_other (d + 1) 5 [some (.inr (.inr (some a0))), some (.inl x1), some (.inl x2), some (.inl x3), some (.inl x4), some (.inl x5), some (.inl x6), none, none, none, none, none, none] [.inr (.inr q101.1)] q101.2 _
  refine y_astore (i := 7) (lv2 := [some (.inr (.inr (some a0))), some (.inl x1), some (.inl x2), some (.inl x3), some (.inl x4), some (.inl x5), some (.inl x6), some (.inr (.inr q101.1)), none, none, none, none, none]) dX10_other_5 (by decide) rfl ?_
  refine y_iload_n (i := 1) dX10_other_7 rfl rfl ?_
  replace hf := bnd hf
  obtain ⟨q103, eq103, hf⟩ := hf
  refine y_callS (mj := miX6_looksAtX) (args := [.inl x1]) (st := []) dX10_other_8 (gd_of 267 rfl rfl) (gd_of 268 rfl rfl) okX6_looksAtX (xX6_looksAtX (by omega) eq103) (Nat.le_of_ble_eq_true rfl) rfl ?_
  show Y l g miX10_other (d + 1) 11 [some (.inr (.inr (some a0))), some (.inl x1), some (.inl x2), some (.inl x3), some (.inl x4), some (.inl x5), some (.inl x6), some (.inr (.inr q101.1)), none, none, none, none, none] [.inl q103.1] q103.2 _
  refine y_if_eq (tgt := 22) dX10_other_11 (by decide) (fun hc => ?_) (fun hc => ?_)
  · rw [if_pos hc] at hf
    refine y_aload (i := 7) dX10_other_22 rfl ?_
    refine Y.weak (lv2 := [some (.inr (.inr (some a0))), some (.inl x1), none, none, some (.inl x4), some (.inl x5), some (.inl x6), some (.inr (.inr q101.1)), none, none, none, none, none]) [true, true, false, false, true, true, true, true, false, false, false, false, false] rfl ?_
    exact xX10_other_24 hK hf
  · rw [if_neg hc] at hf
    refine y_aload_n (i := 0) dX10_other_14 rfl rfl ?_
    refine y_iload_n (i := 3) dX10_other_15 rfl rfl ?_
    replace hf := bnd hf
    obtain ⟨fs105, efs105, hf⟩ := hf
    replace hf := bnd hf
    obtain ⟨q104, eq104, hf⟩ := hf
    refine y_callV (mj := miX10_handleAt) (args := [.inl x3]) (st := []) dX10_other_16 (gd_of 263 rfl rfl) (gd_of 265 rfl rfl) (gd_of 1 rfl rfl) okX10_handleAt (obO_spec efs105) rfl rfl (xX10_handleAt (by omega) eq104) (Nat.le_of_ble_eq_true rfl) rfl ?_
    show Y l g miX10_other (d + 1) 19 [some (.inr (.inr (some a0))), some (.inl x1), some (.inl x2), some (.inl x3), some (.inl x4), some (.inl x5), some (.inl x6), some (.inr (.inr q101.1)), none, none, none, none, none] [.inr (.inr q104.1)] q104.2 _
    refine y_goto (tgt := 24) dX10_other_19 (by decide) ?_
    refine Y.weak (lv2 := [some (.inr (.inr (some a0))), some (.inl x1), none, none, some (.inl x4), some (.inl x5), some (.inl x6), some (.inr (.inr q101.1)), none, none, none, none, none]) [true, true, false, false, true, true, true, true, false, false, false, false, false] rfl ?_
    exact xX10_other_24 hK hf
set_option maxRecDepth 100000 in
theorem dX6_ofPlain_0 : decode prog_8_method_3_code 0 = .ok (.iload_n 0, 1) := by decide +kernel
set_option maxRecDepth 100000 in
theorem dX6_ofPlain_1 : decode prog_8_method_3_code 1 = .ok (.tableswitch 207 0 13 #[71, 83, 207, 207, 207, 207, 207, 99, 119, 139, 163, 179, 71, 195], 71) := by decide +kernel
set_option maxRecDepth 100000 in
theorem dX6_ofPlain_72 : decode prog_8_method_3_code 72 = .ok (.new 15, 3) := by decide +kernel
set_option maxRecDepth 100000 in
theorem dX6_ofPlain_75 : decode prog_8_method_3_code 75 = .ok (.dup, 1) := by decide +kernel
set_option maxRecDepth 100000 in
theorem dX6_ofPlain_76 : decode prog_8_method_3_code 76 = .ok (.getstatic 17, 3) := by decide +kernel
set_option maxRecDepth 100000 in
theorem dX6_ofPlain_79 : decode prog_8_method_3_code 79 = .ok (.iload_n 1, 1) := by decide +kernel
set_option maxRecDepth 100000 in
theorem dX6_ofPlain_80 : decode prog_8_method_3_code 80 = .ok (.invokespecial 21, 3) := by decide +kernel
set_option maxRecDepth 100000 in
theorem dX6_ofPlain_83 : decode prog_8_method_3_code 83 = .ok (.areturn, 1) := by decide +kernel
set_option maxRecDepth 100000 in
theorem dX6_ofPlain_84 : decode prog_8_method_3_code 84 = .ok (.new 15, 3) := by decide +kernel
set_option maxRecDepth 100000 in
theorem dX6_ofPlain_87 : decode prog_8_method_3_code 87 = .ok (.dup, 1) := by decide +kernel
set_option maxRecDepth 100000 in
theorem dX6_ofPlain_88 : decode prog_8_method_3_code 88 = .ok (.iconst 1, 1) := by decide +kernel
set_option maxRecDepth 100000 in
theorem dX6_ofPlain_89 : decode prog_8_method_3_code 89 = .ok (.newarray .int, 2) := by decide +kernel
set_option maxRecDepth 100000 in
theorem dX6_ofPlain_91 : decode prog_8_method_3_code 91 = .ok (.dup, 1) := by decide +kernel
set_option maxRecDepth 100000 in
theorem dX6_ofPlain_92 : decode prog_8_method_3_code 92 = .ok (.iconst 0, 1) := by decide +kernel
set_option maxRecDepth 100000 in
theorem dX6_ofPlain_93 : decode prog_8_method_3_code 93 = .ok (.iload_n 1, 1) := by decide +kernel
set_option maxRecDepth 100000 in
theorem dX6_ofPlain_94 : decode prog_8_method_3_code 94 = .ok (.iastore, 1) := by decide +kernel
set_option maxRecDepth 100000 in
theorem dX6_ofPlain_95 : decode prog_8_method_3_code 95 = .ok (.iload_n 1, 1) := by decide +kernel
set_option maxRecDepth 100000 in
theorem dX6_ofPlain_96 : decode prog_8_method_3_code 96 = .ok (.invokespecial 21, 3) := by decide +kernel
set_option maxRecDepth 100000 in
theorem dX6_ofPlain_99 : decode prog_8_method_3_code 99 = .ok (.areturn, 1) := by decide +kernel
set_option maxRecDepth 100000 in
theorem dX6_ofPlain_100 : decode prog_8_method_3_code 100 = .ok (.new 15, 3) := by decide +kernel
set_option maxRecDepth 100000 in
theorem dX6_ofPlain_103 : decode prog_8_method_3_code 103 = .ok (.dup, 1) := by decide +kernel
set_option maxRecDepth 100000 in
theorem dX6_ofPlain_104 : decode prog_8_method_3_code 104 = .ok (.iconst 2, 1) := by decide +kernel
set_option maxRecDepth 100000 in
theorem dX6_ofPlain_105 : decode prog_8_method_3_code 105 = .ok (.newarray .int, 2) := by decide +kernel
set_option maxRecDepth 100000 in
theorem dX6_ofPlain_107 : decode prog_8_method_3_code 107 = .ok (.dup, 1) := by decide +kernel
set_option maxRecDepth 100000 in
theorem dX6_ofPlain_108 : decode prog_8_method_3_code 108 = .ok (.iconst 0, 1) := by decide +kernel
set_option maxRecDepth 100000 in
theorem dX6_ofPlain_109 : decode prog_8_method_3_code 109 = .ok (.iconst 1, 1) := by decide +kernel
set_option maxRecDepth 100000 in
theorem dX6_ofPlain_110 : decode prog_8_method_3_code 110 = .ok (.iastore, 1) := by decide +kernel
set_option maxRecDepth 100000 in
theorem dX6_ofPlain_111 : decode prog_8_method_3_code 111 = .ok (.dup, 1) := by decide +kernel
set_option maxRecDepth 100000 in
theorem dX6_ofPlain_112 : decode prog_8_method_3_code 112 = .ok (.iconst 1, 1) := by decide +kernel
set_option maxRecDepth 100000 in
theorem dX6_ofPlain_113 : decode prog_8_method_3_code 113 = .ok (.iconst 1, 1) := by decide +kernel
set_option maxRecDepth 100000 in
theorem dX6_ofPlain_114 : decode prog_8_method_3_code 114 = .ok (.iastore, 1) := by decide +kernel
set_option maxRecDepth 100000 in
theorem dX6_ofPlain_115 : decode prog_8_method_3_code 115 = .ok (.iconst 1, 1) := by decide +kernel
set_option maxRecDepth 100000 in
theorem dX6_ofPlain_116 : decode prog_8_method_3_code 116 = .ok (.invokespecial 21, 3) := by decide +kernel
set_option maxRecDepth 100000 in
theorem dX6_ofPlain_119 : decode prog_8_method_3_code 119 = .ok (.areturn, 1) := by decide +kernel
set_option maxRecDepth 100000 in
theorem dX6_ofPlain_120 : decode prog_8_method_3_code 120 = .ok (.new 15, 3) := by decide +kernel
set_option maxRecDepth 100000 in
theorem dX6_ofPlain_123 : decode prog_8_method_3_code 123 = .ok (.dup, 1) := by decide +kernel
set_option maxRecDepth 100000 in
theorem dX6_ofPlain_124 : decode prog_8_method_3_code 124 = .ok (.iconst 2, 1) := by decide +kernel
set_option maxRecDepth 100000 in
theorem dX6_ofPlain_125 : decode prog_8_method_3_code 125 = .ok (.newarray .int, 2) := by decide +kernel
set_option maxRecDepth 100000 in
theorem dX6_ofPlain_127 : decode prog_8_method_3_code 127 = .ok (.dup, 1) := by decide +kernel
set_option maxRecDepth 100000 in
theorem dX6_ofPlain_128 : decode prog_8_method_3_code 128 = .ok (.iconst 0, 1) := by decide +kernel
set_option maxRecDepth 100000 in
theorem dX6_ofPlain_129 : decode prog_8_method_3_code 129 = .ok (.iconst 3, 1) := by decide +kernel
set_option maxRecDepth 100000 in
theorem dX6_ofPlain_130 : decode prog_8_method_3_code 130 = .ok (.iastore, 1) := by decide +kernel
set_option maxRecDepth 100000 in
theorem dX6_ofPlain_131 : decode prog_8_method_3_code 131 = .ok (.dup, 1) := by decide +kernel
set_option maxRecDepth 100000 in
theorem dX6_ofPlain_132 : decode prog_8_method_3_code 132 = .ok (.iconst 1, 1) := by decide +kernel
set_option maxRecDepth 100000 in
theorem dX6_ofPlain_133 : decode prog_8_method_3_code 133 = .ok (.iconst 0, 1) := by decide +kernel
set_option maxRecDepth 100000 in
theorem dX6_ofPlain_134 : decode prog_8_method_3_code 134 = .ok (.iastore, 1) := by decide +kernel
set_option maxRecDepth 100000 in
theorem dX6_ofPlain_135 : decode prog_8_method_3_code 135 = .ok (.iconst 0, 1) := by decide +kernel
set_option maxRecDepth 100000 in
theorem dX6_ofPlain_136 : decode prog_8_method_3_code 136 = .ok (.invokespecial 21, 3) := by decide +kernel
set_option maxRecDepth 100000 in
theorem dX6_ofPlain_139 : decode prog_8_method_3_code 139 = .ok (.areturn, 1) := by decide +kernel
set_option maxRecDepth 100000 in
theorem dX6_ofPlain_140 : decode prog_8_method_3_code 140 = .ok (.new 15, 3) := by decide +kernel
set_option maxRecDepth 100000 in
theorem dX6_ofPlain_143 : decode prog_8_method_3_code 143 = .ok (.dup, 1) := by decide +kernel
set_option maxRecDepth 100000 in
theorem dX6_ofPlain_144 : decode prog_8_method_3_code 144 = .ok (.iconst 3, 1) := by decide +kernel
set_option maxRecDepth 100000 in
theorem dX6_ofPlain_145 : decode prog_8_method_3_code 145 = .ok (.newarray .int, 2) := by decide +kernel
set_option maxRecDepth 100000 in
theorem dX6_ofPlain_147 : decode prog_8_method_3_code 147 = .ok (.dup, 1) := by decide +kernel
set_option maxRecDepth 100000 in
theorem dX6_ofPlain_148 : decode prog_8_method_3_code 148 = .ok (.iconst 0, 1) := by decide +kernel
set_option maxRecDepth 100000 in
theorem dX6_ofPlain_149 : decode prog_8_method_3_code 149 = .ok (.iconst 3, 1) := by decide +kernel
set_option maxRecDepth 100000 in
theorem dX6_ofPlain_150 : decode prog_8_method_3_code 150 = .ok (.iastore, 1) := by decide +kernel
set_option maxRecDepth 100000 in
theorem dX6_ofPlain_151 : decode prog_8_method_3_code 151 = .ok (.dup, 1) := by decide +kernel
set_option maxRecDepth 100000 in
theorem dX6_ofPlain_152 : decode prog_8_method_3_code 152 = .ok (.iconst 1, 1) := by decide +kernel
set_option maxRecDepth 100000 in
theorem dX6_ofPlain_153 : decode prog_8_method_3_code 153 = .ok (.iconst 0, 1) := by decide +kernel
set_option maxRecDepth 100000 in
theorem dX6_ofPlain_154 : decode prog_8_method_3_code 154 = .ok (.iastore, 1) := by decide +kernel
set_option maxRecDepth 100000 in
theorem dX6_ofPlain_155 : decode prog_8_method_3_code 155 = .ok (.dup, 1) := by decide +kernel
set_option maxRecDepth 100000 in
theorem dX6_ofPlain_156 : decode prog_8_method_3_code 156 = .ok (.iconst 2, 1) := by decide +kernel
set_option maxRecDepth 100000 in
theorem dX6_ofPlain_157 : decode prog_8_method_3_code 157 = .ok (.iconst 0, 1) := by decide +kernel
set_option maxRecDepth 100000 in
theorem dX6_ofPlain_158 : decode prog_8_method_3_code 158 = .ok (.iastore, 1) := by decide +kernel
set_option maxRecDepth 100000 in
theorem dX6_ofPlain_159 : decode prog_8_method_3_code 159 = .ok (.iconst 4, 1) := by decide +kernel
set_option maxRecDepth 100000 in
theorem dX6_ofPlain_160 : decode prog_8_method_3_code 160 = .ok (.invokespecial 21, 3) := by decide +kernel
set_option maxRecDepth 100000 in
theorem dX6_ofPlain_163 : decode prog_8_method_3_code 163 = .ok (.areturn, 1) := by decide +kernel
set_option maxRecDepth 100000 in
theorem dX6_ofPlain_164 : decode prog_8_method_3_code 164 = .ok (.new 15, 3) := by decide +kernel
set_option maxRecDepth 100000 in
theorem dX6_ofPlain_167 : decode prog_8_method_3_code 167 = .ok (.dup, 1) := by decide +kernel
set_option maxRecDepth 100000 in
theorem dX6_ofPlain_168 : decode prog_8_method_3_code 168 = .ok (.iconst 1, 1) := by decide +kernel
set_option maxRecDepth 100000 in
theorem dX6_ofPlain_169 : decode prog_8_method_3_code 169 = .ok (.newarray .int, 2) := by decide +kernel
set_option maxRecDepth 100000 in
theorem dX6_ofPlain_171 : decode prog_8_method_3_code 171 = .ok (.dup, 1) := by decide +kernel
set_option maxRecDepth 100000 in
theorem dX6_ofPlain_172 : decode prog_8_method_3_code 172 = .ok (.iconst 0, 1) := by decide +kernel
set_option maxRecDepth 100000 in
theorem dX6_ofPlain_173 : decode prog_8_method_3_code 173 = .ok (.iconst 3, 1) := by decide +kernel
set_option maxRecDepth 100000 in
theorem dX6_ofPlain_174 : decode prog_8_method_3_code 174 = .ok (.iastore, 1) := by decide +kernel
set_option maxRecDepth 100000 in
theorem dX6_ofPlain_175 : decode prog_8_method_3_code 175 = .ok (.iconst 0, 1) := by decide +kernel
set_option maxRecDepth 100000 in
theorem dX6_ofPlain_176 : decode prog_8_method_3_code 176 = .ok (.invokespecial 21, 3) := by decide +kernel
set_option maxRecDepth 100000 in
theorem dX6_ofPlain_179 : decode prog_8_method_3_code 179 = .ok (.areturn, 1) := by decide +kernel
set_option maxRecDepth 100000 in
theorem dX6_ofPlain_180 : decode prog_8_method_3_code 180 = .ok (.new 15, 3) := by decide +kernel
set_option maxRecDepth 100000 in
theorem dX6_ofPlain_183 : decode prog_8_method_3_code 183 = .ok (.dup, 1) := by decide +kernel
set_option maxRecDepth 100000 in
theorem dX6_ofPlain_184 : decode prog_8_method_3_code 184 = .ok (.iconst 1, 1) := by decide +kernel
set_option maxRecDepth 100000 in
theorem dX6_ofPlain_185 : decode prog_8_method_3_code 185 = .ok (.newarray .int, 2) := by decide +kernel
set_option maxRecDepth 100000 in
theorem dX6_ofPlain_187 : decode prog_8_method_3_code 187 = .ok (.dup, 1) := by decide +kernel
set_option maxRecDepth 100000 in
theorem dX6_ofPlain_188 : decode prog_8_method_3_code 188 = .ok (.iconst 0, 1) := by decide +kernel
set_option maxRecDepth 100000 in
theorem dX6_ofPlain_189 : decode prog_8_method_3_code 189 = .ok (.iconst 0, 1) := by decide +kernel
set_option maxRecDepth 100000 in
theorem dX6_ofPlain_190 : decode prog_8_method_3_code 190 = .ok (.iastore, 1) := by decide +kernel
set_option maxRecDepth 100000 in
theorem dX6_ofPlain_191 : decode prog_8_method_3_code 191 = .ok (.iconst 3, 1) := by decide +kernel
set_option maxRecDepth 100000 in
theorem dX6_ofPlain_192 : decode prog_8_method_3_code 192 = .ok (.invokespecial 21, 3) := by decide +kernel
set_option maxRecDepth 100000 in
theorem dX6_ofPlain_195 : decode prog_8_method_3_code 195 = .ok (.areturn, 1) := by decide +kernel
set_option maxRecDepth 100000 in
theorem dX6_ofPlain_196 : decode prog_8_method_3_code 196 = .ok (.new 15, 3) := by decide +kernel
set_option maxRecDepth 100000 in
theorem dX6_ofPlain_199 : decode prog_8_method_3_code 199 = .ok (.dup, 1) := by decide +kernel
set_option maxRecDepth 100000 in
theorem dX6_ofPlain_200 : decode prog_8_method_3_code 200 = .ok (.getstatic 17, 3) := by decide +kernel
set_option maxRecDepth 100000 in
theorem dX6_ofPlain_203 : decode prog_8_method_3_code 203 = .ok (.iconst 0, 1) := by decide +kernel
set_option maxRecDepth 100000 in
theorem dX6_ofPlain_204 : decode prog_8_method_3_code 204 = .ok (.invokespecial 21, 3) := by decide +kernel
set_option maxRecDepth 100000 in
theorem dX6_ofPlain_207 : decode prog_8_method_3_code 207 = .ok (.areturn, 1) := by decide +kernel
set_option maxRecDepth 100000 in
theorem dX6_ofPlain_208 : decode prog_8_method_3_code 208 = .ok (.new 15, 3) := by decide +kernel
set_option maxRecDepth 100000 in
theorem dX6_ofPlain_211 : decode prog_8_method_3_code 211 = .ok (.dup, 1) := by decide +kernel
set_option maxRecDepth 100000 in
theorem dX6_ofPlain_212 : decode prog_8_method_3_code 212 = .ok (.iconst 2, 1) := by decide +kernel
set_option maxRecDepth 100000 in
theorem dX6_ofPlain_213 : decode prog_8_method_3_code 213 = .ok (.newarray .int, 2) := by decide +kernel
set_option maxRecDepth 100000 in
theorem dX6_ofPlain_215 : decode prog_8_method_3_code 215 = .ok (.dup, 1) := by decide +kernel
set_option maxRecDepth 100000 in
theorem dX6_ofPlain_216 : decode prog_8_method_3_code 216 = .ok (.iconst 0, 1) := by decide +kernel
set_option maxRecDepth 100000 in
theorem dX6_ofPlain_217 : decode prog_8_method_3_code 217 = .ok (.iconst 0, 1) := by decide +kernel
set_option maxRecDepth 100000 in
theorem dX6_ofPlain_218 : decode prog_8_method_3_code 218 = .ok (.iastore, 1) := by decide +kernel
set_option maxRecDepth 100000 in
theorem dX6_ofPlain_219 : decode prog_8_method_3_code 219 = .ok (.dup, 1) := by decide +kernel
set_option maxRecDepth 100000 in
theorem dX6_ofPlain_220 : decode prog_8_method_3_code 220 = .ok (.iconst 1, 1) := by decide +kernel
set_option maxRecDepth 100000 in
theorem dX6_ofPlain_221 : decode prog_8_method_3_code 221 = .ok (.iconst 0, 1) := by decide +kernel
set_option maxRecDepth 100000 in
theorem dX6_ofPlain_222 : decode prog_8_method_3_code 222 = .ok (.iastore, 1) := by decide +kernel
set_option maxRecDepth 100000 in
theorem dX6_ofPlain_223 : decode prog_8_method_3_code 223 = .ok (.iconst 0, 1) := by decide +kernel
set_option maxRecDepth 100000 in
theorem dX6_ofPlain_224 : decode prog_8_method_3_code 224 = .ok (.invokespecial 21, 3) := by decide +kernel
set_option maxRecDepth 100000 in
theorem dX6_ofPlain_227 : decode prog_8_method_3_code 227 = .ok (.areturn, 1) := by decide +kernel

def fX6_ofPlain_208 (z : Nat → Nat)  (h : aH) : Option (Option Nat × aH) :=
  (nwI (hnew h 2 (.inr (6, dz6))) 2).bind fun h101 =>
  (awI h101 ((hnew h 2 (.inr (6, dz6))).1) 0 0).bind fun h102 =>
  (awI h102 ((hnew h 2 (.inr (6, dz6))).1) 1 0).bind fun h103 =>
  (fX8_init z h.1 (some ((hnew h 2 (.inr (6, dz6))).1)) 0 h103).bind fun q104 =>
  some ((some h.1), q104)
set_option maxHeartbeats 4000000 in
set_option maxRecDepth 100000 in
theorem xX6_ofPlain_208 {l : Launch} {g : aG} {d : Nat} (hK : 2 ≤ d + 1) {h : aH} {q : Option Nat × aH} (hf : fX6_ofPlain_208 g.2.2  h = some q) : Y l g miX6_ofPlain (d + 1) 208 [none, none] [] h (some (.inr (.inr q.1)), q.2) := by
  unfold fX6_ofPlain_208 at hf
  refine y_new (c := 6) (fs := dz6) rfl tyX8 tyX8_ok rfl dz6_ok (gd_of 213 rfl rfl) (gd_of 214 rfl rfl) (gd_of 79 rfl rfl) dX6_ofPlain_208 ?_
  refine y_dup dX6_ofPlain_211 rfl ?_
  refine y_iconst (v := 2) dX6_ofPlain_212 (by decide) ?_
  replace hf := bnd hf
  obtain ⟨h101, eh101, hf⟩ := hf
  refine y_newI eh101 (gd_of 114 rfl rfl) dX6_ofPlain_213 ?_
  refine y_dup dX6_ofPlain_215 rfl ?_
  refine y_iconst (v := 0) dX6_ofPlain_216 (by decide) ?_
  refine y_iconst (v := 0) dX6_ofPlain_217 (by decide) ?_
  replace hf := bnd hf
  obtain ⟨h102, eh102, hf⟩ := hf
  refine y_iastore eh102 dX6_ofPlain_218 ?_
  refine y_dup dX6_ofPlain_219 rfl ?_
  refine y_iconst (v := 1) dX6_ofPlain_220 (by decide) ?_
  refine y_iconst (v := 0) dX6_ofPlain_221 (by decide) ?_
  replace hf := bnd hf
  obtain ⟨h103, eh103, hf⟩ := hf
  refine y_iastore eh103 dX6_ofPlain_222 ?_
  refine y_iconst (v := 0) dX6_ofPlain_223 (by decide) ?_
  replace hf := bnd hf
  obtain ⟨q104, eq104, hf⟩ := hf
  refine y_callI (mj := miX8_init) (args := [.inr (.inr (some ((hnew h 2 (.inr (6, dz6))).1))), .inl 0]) (st := [.inr (.inr (some h.1))]) dX6_ofPlain_224 (Or.inl (gd_of 217 rfl rfl)) (gd_of 218 rfl rfl) rfl rfl okX8_init (xX8_init (by omega) eq104) (Nat.le_of_ble_eq_true rfl) rfl ?_
  show Y l g miX6_ofPlain (d + 1) 227 [none, none] [.inr (.inr (some h.1))] q104 _
  obtain rfl := Option.some.inj hf
  exact y_ret (v := some (.inr (.inr (some h.1)))) dX6_ofPlain_227 rfl
def fX6_ofPlain (z : Nat → Nat) (x0 : Int32) (x1 : Int32) (h : aH) : Option (Option Nat × aH) :=
  (if x0 = 0 then
  (fX8_init z h.1 (some (z 0)) x1 (hnew h 2 (.inr (6, dz6)))).bind fun q101 =>
  some ((some h.1), q101)
  else
  (if x0 = 1 then
  (nwI (hnew h 2 (.inr (6, dz6))) 1).bind fun h102 =>
  (awI h102 ((hnew h 2 (.inr (6, dz6))).1) 0 x1).bind fun h103 =>
  (fX8_init z h.1 (some ((hnew h 2 (.inr (6, dz6))).1)) x1 h103).bind fun q104 =>
  some ((some h.1), q104)
  else
  (if x0 = 2 then
  fX6_ofPlain_208 z  h
  else
  (if x0 = 3 then
  fX6_ofPlain_208 z  h
  else
  (if x0 = 4 then
  fX6_ofPlain_208 z  h
  else
  (if x0 = 5 then
  fX6_ofPlain_208 z  h
  else
  (if x0 = 6 then
  fX6_ofPlain_208 z  h
  else
  (if x0 = 7 then
  (nwI (hnew h 2 (.inr (6, dz6))) 2).bind fun h105 =>
  (awI h105 ((hnew h 2 (.inr (6, dz6))).1) 0 1).bind fun h106 =>
  (awI h106 ((hnew h 2 (.inr (6, dz6))).1) 1 1).bind fun h107 =>
  (fX8_init z h.1 (some ((hnew h 2 (.inr (6, dz6))).1)) 1 h107).bind fun q108 =>
  some ((some h.1), q108)
  else
  (if x0 = 8 then
  (nwI (hnew h 2 (.inr (6, dz6))) 2).bind fun h109 =>
  (awI h109 ((hnew h 2 (.inr (6, dz6))).1) 0 3).bind fun h110 =>
  (awI h110 ((hnew h 2 (.inr (6, dz6))).1) 1 0).bind fun h111 =>
  (fX8_init z h.1 (some ((hnew h 2 (.inr (6, dz6))).1)) 0 h111).bind fun q112 =>
  some ((some h.1), q112)
  else
  (if x0 = 9 then
  (nwI (hnew h 2 (.inr (6, dz6))) 3).bind fun h113 =>
  (awI h113 ((hnew h 2 (.inr (6, dz6))).1) 0 3).bind fun h114 =>
  (awI h114 ((hnew h 2 (.inr (6, dz6))).1) 1 0).bind fun h115 =>
  (awI h115 ((hnew h 2 (.inr (6, dz6))).1) 2 0).bind fun h116 =>
  (fX8_init z h.1 (some ((hnew h 2 (.inr (6, dz6))).1)) 4 h116).bind fun q117 =>
  some ((some h.1), q117)
  else
  (if x0 = 10 then
  (nwI (hnew h 2 (.inr (6, dz6))) 1).bind fun h118 =>
  (awI h118 ((hnew h 2 (.inr (6, dz6))).1) 0 3).bind fun h119 =>
  (fX8_init z h.1 (some ((hnew h 2 (.inr (6, dz6))).1)) 0 h119).bind fun q120 =>
  some ((some h.1), q120)
  else
  (if x0 = 11 then
  (nwI (hnew h 2 (.inr (6, dz6))) 1).bind fun h121 =>
  (awI h121 ((hnew h 2 (.inr (6, dz6))).1) 0 0).bind fun h122 =>
  (fX8_init z h.1 (some ((hnew h 2 (.inr (6, dz6))).1)) 3 h122).bind fun q123 =>
  some ((some h.1), q123)
  else
  (if x0 = 12 then
  (fX8_init z h.1 (some (z 0)) x1 (hnew h 2 (.inr (6, dz6)))).bind fun q124 =>
  some ((some h.1), q124)
  else
  (if x0 = 13 then
  (fX8_init z h.1 (some (z 0)) 0 (hnew h 2 (.inr (6, dz6)))).bind fun q125 =>
  some ((some h.1), q125)
  else
  fX6_ofPlain_208 z  h))))))))))))))
set_option maxHeartbeats 4000000 in
set_option maxRecDepth 100000 in
theorem xX6_ofPlain {l : Launch} {g : aG} {d : Nat} (hK : 2 ≤ d) {x0 : Int32} {x1 : Int32} {h : aH} {q : Option Nat × aH} (hf : fX6_ofPlain g.2.2 x0 x1 h = some q) : Ev l g miX6_ofPlain d [.inl x0, .inl x1] h (some (.inr (.inr q.1)), q.2) := by
  obtain ⟨d, rfl⟩ : ∃ e, d = e + 1 := ⟨d - 1, by omega⟩
  refine ⟨?_, Or.inl ⟨_, rfl⟩, Nat.le_of_ble_eq_true rfl⟩
  unfold fX6_ofPlain at hf
  show Y l g miX6_ofPlain (d + 1) 0 [some (.inl x0), some (.inl x1)] [] h _
  refine y_iload_n (i := 0) dX6_ofPlain_0 rfl rfl ?_
  refine y_table dX6_ofPlain_1 [(0, 72), (1, 84), (2, 208), (3, 208), (4, 208), (5, 208), (6, 208), (7, 100), (8, 120), (9, 140), (10, 164), (11, 180), (12, 72), (13, 196)] 208 (by decide) (by decide) (by decide) (by decide) ?_
  refine y_swc (fun hc => ?_) (fun hc => ?_)
  · rw [if_pos hc] at hf
    refine y_new (c := 6) (fs := dz6) rfl tyX8 tyX8_ok rfl dz6_ok (gd_of 213 rfl rfl) (gd_of 214 rfl rfl) (gd_of 79 rfl rfl) dX6_ofPlain_72 ?_
    refine y_dup dX6_ofPlain_75 rfl ?_
    refine y_gets (i := 0) rfl (Or.inr ⟨"HandleModels", by simp [nWs]⟩) dX6_ofPlain_76 ?_
    refine y_iload_n (i := 1) dX6_ofPlain_79 rfl rfl ?_
    replace hf := bnd hf
    obtain ⟨q101, eq101, hf⟩ := hf
    refine y_callI (mj := miX8_init) (args := [.inr (.inr (some (g.2.2 0))), .inl x1]) (st := [.inr (.inr (some h.1))]) dX6_ofPlain_80 (Or.inl (gd_of 217 rfl rfl)) (gd_of 218 rfl rfl) rfl rfl okX8_init (xX8_init (by omega) eq101) (Nat.le_of_ble_eq_true rfl) rfl ?_
    show Y l g miX6_ofPlain (d + 1) 83 [some (.inl x0), some (.inl x1)] [.inr (.inr (some h.1))] q101 _
    obtain rfl := Option.some.inj hf
    exact y_ret (v := some (.inr (.inr (some h.1)))) dX6_ofPlain_83 rfl
  rw [if_neg hc] at hf
  refine y_swc (fun hc => ?_) (fun hc => ?_)
  · rw [if_pos hc] at hf
    refine y_new (c := 6) (fs := dz6) rfl tyX8 tyX8_ok rfl dz6_ok (gd_of 213 rfl rfl) (gd_of 214 rfl rfl) (gd_of 79 rfl rfl) dX6_ofPlain_84 ?_
    refine y_dup dX6_ofPlain_87 rfl ?_
    refine y_iconst (v := 1) dX6_ofPlain_88 (by decide) ?_
    replace hf := bnd hf
    obtain ⟨h102, eh102, hf⟩ := hf
    refine y_newI eh102 (gd_of 114 rfl rfl) dX6_ofPlain_89 ?_
    refine y_dup dX6_ofPlain_91 rfl ?_
    refine y_iconst (v := 0) dX6_ofPlain_92 (by decide) ?_
    refine y_iload_n (i := 1) dX6_ofPlain_93 rfl rfl ?_
    replace hf := bnd hf
    obtain ⟨h103, eh103, hf⟩ := hf
    refine y_iastore eh103 dX6_ofPlain_94 ?_
    refine y_iload_n (i := 1) dX6_ofPlain_95 rfl rfl ?_
    replace hf := bnd hf
    obtain ⟨q104, eq104, hf⟩ := hf
    refine y_callI (mj := miX8_init) (args := [.inr (.inr (some ((hnew h 2 (.inr (6, dz6))).1))), .inl x1]) (st := [.inr (.inr (some h.1))]) dX6_ofPlain_96 (Or.inl (gd_of 217 rfl rfl)) (gd_of 218 rfl rfl) rfl rfl okX8_init (xX8_init (by omega) eq104) (Nat.le_of_ble_eq_true rfl) rfl ?_
    show Y l g miX6_ofPlain (d + 1) 99 [some (.inl x0), some (.inl x1)] [.inr (.inr (some h.1))] q104 _
    obtain rfl := Option.some.inj hf
    exact y_ret (v := some (.inr (.inr (some h.1)))) dX6_ofPlain_99 rfl
  rw [if_neg hc] at hf
  refine y_swc (fun hc => ?_) (fun hc => ?_)
  · rw [if_pos hc] at hf
    refine Y.weak (lv2 := [none, none]) [false, false] rfl ?_
    exact xX6_ofPlain_208 hK hf
  rw [if_neg hc] at hf
  refine y_swc (fun hc => ?_) (fun hc => ?_)
  · rw [if_pos hc] at hf
    refine Y.weak (lv2 := [none, none]) [false, false] rfl ?_
    exact xX6_ofPlain_208 hK hf
  rw [if_neg hc] at hf
  refine y_swc (fun hc => ?_) (fun hc => ?_)
  · rw [if_pos hc] at hf
    refine Y.weak (lv2 := [none, none]) [false, false] rfl ?_
    exact xX6_ofPlain_208 hK hf
  rw [if_neg hc] at hf
  refine y_swc (fun hc => ?_) (fun hc => ?_)
  · rw [if_pos hc] at hf
    refine Y.weak (lv2 := [none, none]) [false, false] rfl ?_
    exact xX6_ofPlain_208 hK hf
  rw [if_neg hc] at hf
  refine y_swc (fun hc => ?_) (fun hc => ?_)
  · rw [if_pos hc] at hf
    refine Y.weak (lv2 := [none, none]) [false, false] rfl ?_
    exact xX6_ofPlain_208 hK hf
  rw [if_neg hc] at hf
  refine y_swc (fun hc => ?_) (fun hc => ?_)
  · rw [if_pos hc] at hf
    refine y_new (c := 6) (fs := dz6) rfl tyX8 tyX8_ok rfl dz6_ok (gd_of 213 rfl rfl) (gd_of 214 rfl rfl) (gd_of 79 rfl rfl) dX6_ofPlain_100 ?_
    refine y_dup dX6_ofPlain_103 rfl ?_
    refine y_iconst (v := 2) dX6_ofPlain_104 (by decide) ?_
    replace hf := bnd hf
    obtain ⟨h105, eh105, hf⟩ := hf
    refine y_newI eh105 (gd_of 114 rfl rfl) dX6_ofPlain_105 ?_
    refine y_dup dX6_ofPlain_107 rfl ?_
    refine y_iconst (v := 0) dX6_ofPlain_108 (by decide) ?_
    refine y_iconst (v := 1) dX6_ofPlain_109 (by decide) ?_
    replace hf := bnd hf
    obtain ⟨h106, eh106, hf⟩ := hf
    refine y_iastore eh106 dX6_ofPlain_110 ?_
    refine y_dup dX6_ofPlain_111 rfl ?_
    refine y_iconst (v := 1) dX6_ofPlain_112 (by decide) ?_
    refine y_iconst (v := 1) dX6_ofPlain_113 (by decide) ?_
    replace hf := bnd hf
    obtain ⟨h107, eh107, hf⟩ := hf
    refine y_iastore eh107 dX6_ofPlain_114 ?_
    refine y_iconst (v := 1) dX6_ofPlain_115 (by decide) ?_
    replace hf := bnd hf
    obtain ⟨q108, eq108, hf⟩ := hf
    refine y_callI (mj := miX8_init) (args := [.inr (.inr (some ((hnew h 2 (.inr (6, dz6))).1))), .inl 1]) (st := [.inr (.inr (some h.1))]) dX6_ofPlain_116 (Or.inl (gd_of 217 rfl rfl)) (gd_of 218 rfl rfl) rfl rfl okX8_init (xX8_init (by omega) eq108) (Nat.le_of_ble_eq_true rfl) rfl ?_
    show Y l g miX6_ofPlain (d + 1) 119 [some (.inl x0), some (.inl x1)] [.inr (.inr (some h.1))] q108 _
    obtain rfl := Option.some.inj hf
    exact y_ret (v := some (.inr (.inr (some h.1)))) dX6_ofPlain_119 rfl
  rw [if_neg hc] at hf
  refine y_swc (fun hc => ?_) (fun hc => ?_)
  · rw [if_pos hc] at hf
    refine y_new (c := 6) (fs := dz6) rfl tyX8 tyX8_ok rfl dz6_ok (gd_of 213 rfl rfl) (gd_of 214 rfl rfl) (gd_of 79 rfl rfl) dX6_ofPlain_120 ?_
    refine y_dup dX6_ofPlain_123 rfl ?_
    refine y_iconst (v := 2) dX6_ofPlain_124 (by decide) ?_
    replace hf := bnd hf
    obtain ⟨h109, eh109, hf⟩ := hf
    refine y_newI eh109 (gd_of 114 rfl rfl) dX6_ofPlain_125 ?_
    refine y_dup dX6_ofPlain_127 rfl ?_
    refine y_iconst (v := 0) dX6_ofPlain_128 (by decide) ?_
    refine y_iconst (v := 3) dX6_ofPlain_129 (by decide) ?_
    replace hf := bnd hf
    obtain ⟨h110, eh110, hf⟩ := hf
    refine y_iastore eh110 dX6_ofPlain_130 ?_
    refine y_dup dX6_ofPlain_131 rfl ?_
    refine y_iconst (v := 1) dX6_ofPlain_132 (by decide) ?_
    refine y_iconst (v := 0) dX6_ofPlain_133 (by decide) ?_
    replace hf := bnd hf
    obtain ⟨h111, eh111, hf⟩ := hf
    refine y_iastore eh111 dX6_ofPlain_134 ?_
    refine y_iconst (v := 0) dX6_ofPlain_135 (by decide) ?_
    replace hf := bnd hf
    obtain ⟨q112, eq112, hf⟩ := hf
    refine y_callI (mj := miX8_init) (args := [.inr (.inr (some ((hnew h 2 (.inr (6, dz6))).1))), .inl 0]) (st := [.inr (.inr (some h.1))]) dX6_ofPlain_136 (Or.inl (gd_of 217 rfl rfl)) (gd_of 218 rfl rfl) rfl rfl okX8_init (xX8_init (by omega) eq112) (Nat.le_of_ble_eq_true rfl) rfl ?_
    show Y l g miX6_ofPlain (d + 1) 139 [some (.inl x0), some (.inl x1)] [.inr (.inr (some h.1))] q112 _
    obtain rfl := Option.some.inj hf
    exact y_ret (v := some (.inr (.inr (some h.1)))) dX6_ofPlain_139 rfl
  rw [if_neg hc] at hf
  refine y_swc (fun hc => ?_) (fun hc => ?_)
  · rw [if_pos hc] at hf
    refine y_new (c := 6) (fs := dz6) rfl tyX8 tyX8_ok rfl dz6_ok (gd_of 213 rfl rfl) (gd_of 214 rfl rfl) (gd_of 79 rfl rfl) dX6_ofPlain_140 ?_
    refine y_dup dX6_ofPlain_143 rfl ?_
    refine y_iconst (v := 3) dX6_ofPlain_144 (by decide) ?_
    replace hf := bnd hf
    obtain ⟨h113, eh113, hf⟩ := hf
    refine y_newI eh113 (gd_of 114 rfl rfl) dX6_ofPlain_145 ?_
    refine y_dup dX6_ofPlain_147 rfl ?_
    refine y_iconst (v := 0) dX6_ofPlain_148 (by decide) ?_
    refine y_iconst (v := 3) dX6_ofPlain_149 (by decide) ?_
    replace hf := bnd hf
    obtain ⟨h114, eh114, hf⟩ := hf
    refine y_iastore eh114 dX6_ofPlain_150 ?_
    refine y_dup dX6_ofPlain_151 rfl ?_
    refine y_iconst (v := 1) dX6_ofPlain_152 (by decide) ?_
    refine y_iconst (v := 0) dX6_ofPlain_153 (by decide) ?_
    replace hf := bnd hf
    obtain ⟨h115, eh115, hf⟩ := hf
    refine y_iastore eh115 dX6_ofPlain_154 ?_
    refine y_dup dX6_ofPlain_155 rfl ?_
    refine y_iconst (v := 2) dX6_ofPlain_156 (by decide) ?_
    refine y_iconst (v := 0) dX6_ofPlain_157 (by decide) ?_
    replace hf := bnd hf
    obtain ⟨h116, eh116, hf⟩ := hf
    refine y_iastore eh116 dX6_ofPlain_158 ?_
    refine y_iconst (v := 4) dX6_ofPlain_159 (by decide) ?_
    replace hf := bnd hf
    obtain ⟨q117, eq117, hf⟩ := hf
    refine y_callI (mj := miX8_init) (args := [.inr (.inr (some ((hnew h 2 (.inr (6, dz6))).1))), .inl 4]) (st := [.inr (.inr (some h.1))]) dX6_ofPlain_160 (Or.inl (gd_of 217 rfl rfl)) (gd_of 218 rfl rfl) rfl rfl okX8_init (xX8_init (by omega) eq117) (Nat.le_of_ble_eq_true rfl) rfl ?_
    show Y l g miX6_ofPlain (d + 1) 163 [some (.inl x0), some (.inl x1)] [.inr (.inr (some h.1))] q117 _
    obtain rfl := Option.some.inj hf
    exact y_ret (v := some (.inr (.inr (some h.1)))) dX6_ofPlain_163 rfl
  rw [if_neg hc] at hf
  refine y_swc (fun hc => ?_) (fun hc => ?_)
  · rw [if_pos hc] at hf
    refine y_new (c := 6) (fs := dz6) rfl tyX8 tyX8_ok rfl dz6_ok (gd_of 213 rfl rfl) (gd_of 214 rfl rfl) (gd_of 79 rfl rfl) dX6_ofPlain_164 ?_
    refine y_dup dX6_ofPlain_167 rfl ?_
    refine y_iconst (v := 1) dX6_ofPlain_168 (by decide) ?_
    replace hf := bnd hf
    obtain ⟨h118, eh118, hf⟩ := hf
    refine y_newI eh118 (gd_of 114 rfl rfl) dX6_ofPlain_169 ?_
    refine y_dup dX6_ofPlain_171 rfl ?_
    refine y_iconst (v := 0) dX6_ofPlain_172 (by decide) ?_
    refine y_iconst (v := 3) dX6_ofPlain_173 (by decide) ?_
    replace hf := bnd hf
    obtain ⟨h119, eh119, hf⟩ := hf
    refine y_iastore eh119 dX6_ofPlain_174 ?_
    refine y_iconst (v := 0) dX6_ofPlain_175 (by decide) ?_
    replace hf := bnd hf
    obtain ⟨q120, eq120, hf⟩ := hf
    refine y_callI (mj := miX8_init) (args := [.inr (.inr (some ((hnew h 2 (.inr (6, dz6))).1))), .inl 0]) (st := [.inr (.inr (some h.1))]) dX6_ofPlain_176 (Or.inl (gd_of 217 rfl rfl)) (gd_of 218 rfl rfl) rfl rfl okX8_init (xX8_init (by omega) eq120) (Nat.le_of_ble_eq_true rfl) rfl ?_
    show Y l g miX6_ofPlain (d + 1) 179 [some (.inl x0), some (.inl x1)] [.inr (.inr (some h.1))] q120 _
    obtain rfl := Option.some.inj hf
    exact y_ret (v := some (.inr (.inr (some h.1)))) dX6_ofPlain_179 rfl
  rw [if_neg hc] at hf
  refine y_swc (fun hc => ?_) (fun hc => ?_)
  · rw [if_pos hc] at hf
    refine y_new (c := 6) (fs := dz6) rfl tyX8 tyX8_ok rfl dz6_ok (gd_of 213 rfl rfl) (gd_of 214 rfl rfl) (gd_of 79 rfl rfl) dX6_ofPlain_180 ?_
    refine y_dup dX6_ofPlain_183 rfl ?_
    refine y_iconst (v := 1) dX6_ofPlain_184 (by decide) ?_
    replace hf := bnd hf
    obtain ⟨h121, eh121, hf⟩ := hf
    refine y_newI eh121 (gd_of 114 rfl rfl) dX6_ofPlain_185 ?_
    refine y_dup dX6_ofPlain_187 rfl ?_
    refine y_iconst (v := 0) dX6_ofPlain_188 (by decide) ?_
    refine y_iconst (v := 0) dX6_ofPlain_189 (by decide) ?_
    replace hf := bnd hf
    obtain ⟨h122, eh122, hf⟩ := hf
    refine y_iastore eh122 dX6_ofPlain_190 ?_
    refine y_iconst (v := 3) dX6_ofPlain_191 (by decide) ?_
    replace hf := bnd hf
    obtain ⟨q123, eq123, hf⟩ := hf
    refine y_callI (mj := miX8_init) (args := [.inr (.inr (some ((hnew h 2 (.inr (6, dz6))).1))), .inl 3]) (st := [.inr (.inr (some h.1))]) dX6_ofPlain_192 (Or.inl (gd_of 217 rfl rfl)) (gd_of 218 rfl rfl) rfl rfl okX8_init (xX8_init (by omega) eq123) (Nat.le_of_ble_eq_true rfl) rfl ?_
    show Y l g miX6_ofPlain (d + 1) 195 [some (.inl x0), some (.inl x1)] [.inr (.inr (some h.1))] q123 _
    obtain rfl := Option.some.inj hf
    exact y_ret (v := some (.inr (.inr (some h.1)))) dX6_ofPlain_195 rfl
  rw [if_neg hc] at hf
  refine y_swc (fun hc => ?_) (fun hc => ?_)
  · rw [if_pos hc] at hf
    refine y_new (c := 6) (fs := dz6) rfl tyX8 tyX8_ok rfl dz6_ok (gd_of 213 rfl rfl) (gd_of 214 rfl rfl) (gd_of 79 rfl rfl) dX6_ofPlain_72 ?_
    refine y_dup dX6_ofPlain_75 rfl ?_
    refine y_gets (i := 0) rfl (Or.inr ⟨"HandleModels", by simp [nWs]⟩) dX6_ofPlain_76 ?_
    refine y_iload_n (i := 1) dX6_ofPlain_79 rfl rfl ?_
    replace hf := bnd hf
    obtain ⟨q124, eq124, hf⟩ := hf
    refine y_callI (mj := miX8_init) (args := [.inr (.inr (some (g.2.2 0))), .inl x1]) (st := [.inr (.inr (some h.1))]) dX6_ofPlain_80 (Or.inl (gd_of 217 rfl rfl)) (gd_of 218 rfl rfl) rfl rfl okX8_init (xX8_init (by omega) eq124) (Nat.le_of_ble_eq_true rfl) rfl ?_
    show Y l g miX6_ofPlain (d + 1) 83 [some (.inl x0), some (.inl x1)] [.inr (.inr (some h.1))] q124 _
    obtain rfl := Option.some.inj hf
    exact y_ret (v := some (.inr (.inr (some h.1)))) dX6_ofPlain_83 rfl
  rw [if_neg hc] at hf
  refine y_swc (fun hc => ?_) (fun hc => ?_)
  · rw [if_pos hc] at hf
    refine y_new (c := 6) (fs := dz6) rfl tyX8 tyX8_ok rfl dz6_ok (gd_of 213 rfl rfl) (gd_of 214 rfl rfl) (gd_of 79 rfl rfl) dX6_ofPlain_196 ?_
    refine y_dup dX6_ofPlain_199 rfl ?_
    refine y_gets (i := 0) rfl (Or.inr ⟨"HandleModels", by simp [nWs]⟩) dX6_ofPlain_200 ?_
    refine y_iconst (v := 0) dX6_ofPlain_203 (by decide) ?_
    replace hf := bnd hf
    obtain ⟨q125, eq125, hf⟩ := hf
    refine y_callI (mj := miX8_init) (args := [.inr (.inr (some (g.2.2 0))), .inl 0]) (st := [.inr (.inr (some h.1))]) dX6_ofPlain_204 (Or.inl (gd_of 217 rfl rfl)) (gd_of 218 rfl rfl) rfl rfl okX8_init (xX8_init (by omega) eq125) (Nat.le_of_ble_eq_true rfl) rfl ?_
    show Y l g miX6_ofPlain (d + 1) 207 [some (.inl x0), some (.inl x1)] [.inr (.inr (some h.1))] q125 _
    obtain rfl := Option.some.inj hf
    exact y_ret (v := some (.inr (.inr (some h.1)))) dX6_ofPlain_207 rfl
  rw [if_neg hc] at hf
  refine y_swn ?_
  refine Y.weak (lv2 := [none, none]) [false, false] rfl ?_
  exact xX6_ofPlain_208 hK hf
set_option maxRecDepth 100000 in
theorem dX6_plainFits_0 : decode prog_8_method_2_code 0 = .ok (.iload_n 0, 1) := by decide +kernel
set_option maxRecDepth 100000 in
theorem dX6_plainFits_1 : decode prog_8_method_2_code 1 = .ok (.lookupswitch 74 #[(0, 35), (1, 42), (12, 49)], 35) := by decide +kernel
set_option maxRecDepth 100000 in
theorem dX6_plainFits_36 : decode prog_8_method_2_code 36 = .ok (.iload_n 1, 1) := by decide +kernel
set_option maxRecDepth 100000 in
theorem dX6_plainFits_37 : decode prog_8_method_2_code 37 = .ok (.iconst 0, 1) := by decide +kernel
set_option maxRecDepth 100000 in
theorem dX6_plainFits_38 : decode prog_8_method_2_code 38 = .ok (.iconst 4, 1) := by decide +kernel
set_option maxRecDepth 100000 in
theorem dX6_plainFits_39 : decode prog_8_method_2_code 39 = .ok (.invokestatic 9, 3) := by decide +kernel
set_option maxRecDepth 100000 in
theorem dX6_plainFits_42 : decode prog_8_method_2_code 42 = .ok (.ireturn, 1) := by decide +kernel
set_option maxRecDepth 100000 in
theorem dX6_plainFits_43 : decode prog_8_method_2_code 43 = .ok (.iload_n 1, 1) := by decide +kernel
set_option maxRecDepth 100000 in
theorem dX6_plainFits_44 : decode prog_8_method_2_code 44 = .ok (.iconst 0, 1) := by decide +kernel
set_option maxRecDepth 100000 in
theorem dX6_plainFits_45 : decode prog_8_method_2_code 45 = .ok (.iconst 3, 1) := by decide +kernel
set_option maxRecDepth 100000 in
theorem dX6_plainFits_46 : decode prog_8_method_2_code 46 = .ok (.invokestatic 9, 3) := by decide +kernel
set_option maxRecDepth 100000 in
theorem dX6_plainFits_49 : decode prog_8_method_2_code 49 = .ok (.ireturn, 1) := by decide +kernel
set_option maxRecDepth 100000 in
theorem dX6_plainFits_50 : decode prog_8_method_2_code 50 = .ok (.iload_n 1, 1) := by decide +kernel
set_option maxRecDepth 100000 in
theorem dX6_plainFits_51 : decode prog_8_method_2_code 51 = .ok (.iconst 0, 1) := by decide +kernel
set_option maxRecDepth 100000 in
theorem dX6_plainFits_52 : decode prog_8_method_2_code 52 = .ok (.iconst 4, 1) := by decide +kernel
set_option maxRecDepth 100000 in
theorem dX6_plainFits_53 : decode prog_8_method_2_code 53 = .ok (.invokestatic 9, 3) := by decide +kernel
set_option maxRecDepth 100000 in
theorem dX6_plainFits_56 : decode prog_8_method_2_code 56 = .ok (.ifCond .eq 17, 3) := by decide +kernel
set_option maxRecDepth 100000 in
theorem dX6_plainFits_59 : decode prog_8_method_2_code 59 = .ok (.iload_n 2, 1) := by decide +kernel
set_option maxRecDepth 100000 in
theorem dX6_plainFits_60 : decode prog_8_method_2_code 60 = .ok (.iconst 0, 1) := by decide +kernel
set_option maxRecDepth 100000 in
theorem dX6_plainFits_61 : decode prog_8_method_2_code 61 = .ok (.bipush 99, 2) := by decide +kernel
set_option maxRecDepth 100000 in
theorem dX6_plainFits_63 : decode prog_8_method_2_code 63 = .ok (.invokestatic 9, 3) := by decide +kernel
set_option maxRecDepth 100000 in
theorem dX6_plainFits_66 : decode prog_8_method_2_code 66 = .ok (.ifCond .eq 7, 3) := by decide +kernel
set_option maxRecDepth 100000 in
theorem dX6_plainFits_69 : decode prog_8_method_2_code 69 = .ok (.iconst 1, 1) := by decide +kernel
set_option maxRecDepth 100000 in
theorem dX6_plainFits_70 : decode prog_8_method_2_code 70 = .ok (.goto 4, 3) := by decide +kernel
set_option maxRecDepth 100000 in
theorem dX6_plainFits_73 : decode prog_8_method_2_code 73 = .ok (.iconst 0, 1) := by decide +kernel
set_option maxRecDepth 100000 in
theorem dX6_plainFits_74 : decode prog_8_method_2_code 74 = .ok (.ireturn, 1) := by decide +kernel
set_option maxRecDepth 100000 in
theorem dX6_plainFits_75 : decode prog_8_method_2_code 75 = .ok (.iload_n 0, 1) := by decide +kernel
set_option maxRecDepth 100000 in
theorem dX6_plainFits_76 : decode prog_8_method_2_code 76 = .ok (.iconst 0, 1) := by decide +kernel
set_option maxRecDepth 100000 in
theorem dX6_plainFits_77 : decode prog_8_method_2_code 77 = .ok (.bipush 13, 2) := by decide +kernel
set_option maxRecDepth 100000 in
theorem dX6_plainFits_79 : decode prog_8_method_2_code 79 = .ok (.invokestatic 9, 3) := by decide +kernel
set_option maxRecDepth 100000 in
theorem dX6_plainFits_82 : decode prog_8_method_2_code 82 = .ok (.ireturn, 1) := by decide +kernel

def fX6_plainFits_e (z : Nat → Nat) (x0 : Int32) (x1 : Int32) (x2 : Int32) (h : aH) : Option (Int32 × aH) :=
  (if x0 = 0 then
  (fX6_isWithin z x1 0 4 h).bind fun q101 =>
  some (q101.1, q101.2)
  else
  (if x0 = 1 then
  (fX6_isWithin z x1 0 3 h).bind fun q102 =>
  some (q102.1, q102.2)
  else
  (if x0 = 12 then
  (fX6_isWithin z x1 0 4 h).bind fun q103 =>
  (if q103.1 = 0 then
  some (0, q103.2)
  else
  (fX6_isWithin z x2 0 99 q103.2).bind fun q104 =>
  (if q104.1 = 0 then
  some (0, q104.2)
  else
  some (1, q104.2)))
  else
  (fX6_isWithin z x0 0 13 h).bind fun q105 =>
  some (q105.1, q105.2))))
def fX6_plainFits (z : Nat → Nat) (x0 : Int32) (x1 : Int32) (x2 : Int32) (h : aH) : Option (Int32 × aH) := chkB (fX6_plainFits_e z x0 x1 x2 h)
set_option maxHeartbeats 4000000 in
set_option maxRecDepth 100000 in
theorem xX6_plainFits {l : Launch} {g : aG} {d : Nat} (hK : 1 ≤ d) {x0 : Int32} {x1 : Int32} {x2 : Int32} {h : aH} {q : Int32 × aH} (hf : fX6_plainFits g.2.2 x0 x1 x2 h = some q) : Ev l g miX6_plainFits d [.inl x0, .inl x1, .inl x2] h (some (.inl q.1), q.2) := by
  obtain ⟨d, rfl⟩ : ∃ e, d = e + 1 := ⟨d - 1, by omega⟩
  replace hf := chkB_spec hf
  obtain ⟨hf, hb⟩ := hf
  refine ⟨?_, Or.inr ⟨rfl, hb⟩, Nat.le_of_ble_eq_true rfl⟩
  unfold fX6_plainFits_e at hf
  show Y l g miX6_plainFits (d + 1) 0 [some (.inl x0), some (.inl x1), some (.inl x2)] [] h _
  refine y_iload_n (i := 0) dX6_plainFits_0 rfl rfl ?_
  refine y_lookup dX6_plainFits_1 (by decide) [(0, 36), (1, 43), (12, 50)] 75 (by decide) (by decide) (by decide) ?_
  refine y_swc (fun hc => ?_) (fun hc => ?_)
  · rw [if_pos hc] at hf
    refine y_iload_n (i := 1) dX6_plainFits_36 rfl rfl ?_
    refine y_iconst (v := 0) dX6_plainFits_37 (by decide) ?_
    refine y_iconst (v := 4) dX6_plainFits_38 (by decide) ?_
    replace hf := bnd hf
    obtain ⟨q101, eq101, hf⟩ := hf
    refine y_callS (mj := miX6_isWithin) (args := [.inl x1, .inl 0, .inl 4]) (st := []) dX6_plainFits_39 (gd_of 206 rfl rfl) (gd_of 207 rfl rfl) okX6_isWithin (xX6_isWithin (by omega) eq101) (Nat.le_of_ble_eq_true rfl) rfl ?_
    show Y l g miX6_plainFits (d + 1) 42 [some (.inl x0), some (.inl x1), some (.inl x2)] [.inl q101.1] q101.2 _
    obtain rfl := Option.some.inj hf
    exact y_ret (v := some (.inl q101.1)) dX6_plainFits_42 rfl
  rw [if_neg hc] at hf
  refine y_swc (fun hc => ?_) (fun hc => ?_)
  · rw [if_pos hc] at hf
    refine y_iload_n (i := 1) dX6_plainFits_43 rfl rfl ?_
    refine y_iconst (v := 0) dX6_plainFits_44 (by decide) ?_
    refine y_iconst (v := 3) dX6_plainFits_45 (by decide) ?_
    replace hf := bnd hf
    obtain ⟨q102, eq102, hf⟩ := hf
    refine y_callS (mj := miX6_isWithin) (args := [.inl x1, .inl 0, .inl 3]) (st := []) dX6_plainFits_46 (gd_of 206 rfl rfl) (gd_of 207 rfl rfl) okX6_isWithin (xX6_isWithin (by omega) eq102) (Nat.le_of_ble_eq_true rfl) rfl ?_
    show Y l g miX6_plainFits (d + 1) 49 [some (.inl x0), some (.inl x1), some (.inl x2)] [.inl q102.1] q102.2 _
    obtain rfl := Option.some.inj hf
    exact y_ret (v := some (.inl q102.1)) dX6_plainFits_49 rfl
  rw [if_neg hc] at hf
  refine y_swc (fun hc => ?_) (fun hc => ?_)
  · rw [if_pos hc] at hf
    refine y_iload_n (i := 1) dX6_plainFits_50 rfl rfl ?_
    refine y_iconst (v := 0) dX6_plainFits_51 (by decide) ?_
    refine y_iconst (v := 4) dX6_plainFits_52 (by decide) ?_
    replace hf := bnd hf
    obtain ⟨q103, eq103, hf⟩ := hf
    refine y_callS (mj := miX6_isWithin) (args := [.inl x1, .inl 0, .inl 4]) (st := []) dX6_plainFits_53 (gd_of 206 rfl rfl) (gd_of 207 rfl rfl) okX6_isWithin (xX6_isWithin (by omega) eq103) (Nat.le_of_ble_eq_true rfl) rfl ?_
    show Y l g miX6_plainFits (d + 1) 56 [some (.inl x0), some (.inl x1), some (.inl x2)] [.inl q103.1] q103.2 _
    refine y_if_eq (tgt := 73) dX6_plainFits_56 (by decide) (fun hc => ?_) (fun hc => ?_)
    · rw [if_pos hc] at hf
      refine y_iconst (v := 0) dX6_plainFits_73 (by decide) ?_
      obtain rfl := Option.some.inj hf
      exact y_ret (v := some (.inl 0)) dX6_plainFits_74 rfl
    · rw [if_neg hc] at hf
      refine y_iload_n (i := 2) dX6_plainFits_59 rfl rfl ?_
      refine y_iconst (v := 0) dX6_plainFits_60 (by decide) ?_
      refine y_bipush (v := 99) dX6_plainFits_61 (by decide) ?_
      replace hf := bnd hf
      obtain ⟨q104, eq104, hf⟩ := hf
      refine y_callS (mj := miX6_isWithin) (args := [.inl x2, .inl 0, .inl 99]) (st := []) dX6_plainFits_63 (gd_of 206 rfl rfl) (gd_of 207 rfl rfl) okX6_isWithin (xX6_isWithin (by omega) eq104) (Nat.le_of_ble_eq_true rfl) rfl ?_
      show Y l g miX6_plainFits (d + 1) 66 [some (.inl x0), some (.inl x1), some (.inl x2)] [.inl q104.1] q104.2 _
      refine y_if_eq (tgt := 73) dX6_plainFits_66 (by decide) (fun hc => ?_) (fun hc => ?_)
      · rw [if_pos hc] at hf
        refine y_iconst (v := 0) dX6_plainFits_73 (by decide) ?_
        obtain rfl := Option.some.inj hf
        exact y_ret (v := some (.inl 0)) dX6_plainFits_74 rfl
      · rw [if_neg hc] at hf
        refine y_iconst (v := 1) dX6_plainFits_69 (by decide) ?_
        refine y_goto (tgt := 74) dX6_plainFits_70 (by decide) ?_
        obtain rfl := Option.some.inj hf
        exact y_ret (v := some (.inl 1)) dX6_plainFits_74 rfl
  rw [if_neg hc] at hf
  refine y_swn ?_
  refine y_iload_n (i := 0) dX6_plainFits_75 rfl rfl ?_
  refine y_iconst (v := 0) dX6_plainFits_76 (by decide) ?_
  refine y_bipush (v := 13) dX6_plainFits_77 (by decide) ?_
  replace hf := bnd hf
  obtain ⟨q105, eq105, hf⟩ := hf
  refine y_callS (mj := miX6_isWithin) (args := [.inl x0, .inl 0, .inl 13]) (st := []) dX6_plainFits_79 (gd_of 206 rfl rfl) (gd_of 207 rfl rfl) okX6_isWithin (xX6_isWithin (by omega) eq105) (Nat.le_of_ble_eq_true rfl) rfl ?_
  show Y l g miX6_plainFits (d + 1) 82 [some (.inl x0), some (.inl x1), some (.inl x2)] [.inl q105.1] q105.2 _
  obtain rfl := Option.some.inj hf
  exact y_ret (v := some (.inl q105.1)) dX6_plainFits_82 rfl
set_option maxRecDepth 100000 in
theorem dX10_plain_0 : decode prog_1_method_2_code 0 = .ok (.iload_n 1, 1) := by decide +kernel
set_option maxRecDepth 100000 in
theorem dX10_plain_1 : decode prog_1_method_2_code 1 = .ok (.ifCond .ne 23, 3) := by decide +kernel
set_option maxRecDepth 100000 in
theorem dX10_plain_4 : decode prog_1_method_2_code 4 = .ok (.iload_n 2, 1) := by decide +kernel
set_option maxRecDepth 100000 in
theorem dX10_plain_5 : decode prog_1_method_2_code 5 = .ok (.iconst 3, 1) := by decide +kernel
set_option maxRecDepth 100000 in
theorem dX10_plain_6 : decode prog_1_method_2_code 6 = .ok (.if_icmp .ne 18, 3) := by decide +kernel
set_option maxRecDepth 100000 in
theorem dX10_plain_9 : decode prog_1_method_2_code 9 = .ok (.aload_n 0, 1) := by decide +kernel
set_option maxRecDepth 100000 in
theorem dX10_plain_10 : decode prog_1_method_2_code 10 = .ok (.getfield 31, 3) := by decide +kernel
set_option maxRecDepth 100000 in
theorem dX10_plain_13 : decode prog_1_method_2_code 13 = .ok (.iload_n 3, 1) := by decide +kernel
set_option maxRecDepth 100000 in
theorem dX10_plain_14 : decode prog_1_method_2_code 14 = .ok (.i2l, 1) := by decide +kernel
set_option maxRecDepth 100000 in
theorem dX10_plain_15 : decode prog_1_method_2_code 15 = .ok (.invokevirtual 61, 3) := by decide +kernel
set_option maxRecDepth 100000 in
theorem dX10_plain_18 : decode prog_1_method_2_code 18 = .ok (.ifCond .ne 6, 3) := by decide +kernel
set_option maxRecDepth 100000 in
theorem dX10_plain_21 : decode prog_1_method_2_code 21 = .ok (.bipush (-2), 2) := by decide +kernel
set_option maxRecDepth 100000 in
theorem dX10_plain_23 : decode prog_1_method_2_code 23 = .ok (.ireturn, 1) := by decide +kernel
set_option maxRecDepth 100000 in
theorem dX10_plain_24 : decode prog_1_method_2_code 24 = .ok (.iload_n 1, 1) := by decide +kernel
set_option maxRecDepth 100000 in
theorem dX10_plain_25 : decode prog_1_method_2_code 25 = .ok (.iload_n 2, 1) := by decide +kernel
set_option maxRecDepth 100000 in
theorem dX10_plain_26 : decode prog_1_method_2_code 26 = .ok (.iload_n 3, 1) := by decide +kernel
set_option maxRecDepth 100000 in
theorem dX10_plain_27 : decode prog_1_method_2_code 27 = .ok (.invokestatic 65, 3) := by decide +kernel
set_option maxRecDepth 100000 in
theorem dX10_plain_30 : decode prog_1_method_2_code 30 = .ok (.ifCond .ne 6, 3) := by decide +kernel
set_option maxRecDepth 100000 in
theorem dX10_plain_33 : decode prog_1_method_2_code 33 = .ok (.bipush (-3), 2) := by decide +kernel
set_option maxRecDepth 100000 in
theorem dX10_plain_35 : decode prog_1_method_2_code 35 = .ok (.ireturn, 1) := by decide +kernel
set_option maxRecDepth 100000 in
theorem dX10_plain_36 : decode prog_1_method_2_code 36 = .ok (.aload_n 0, 1) := by decide +kernel
set_option maxRecDepth 100000 in
theorem dX10_plain_37 : decode prog_1_method_2_code 37 = .ok (.getfield 15, 3) := by decide +kernel
set_option maxRecDepth 100000 in
theorem dX10_plain_40 : decode prog_1_method_2_code 40 = .ok (.bipush 60, 2) := by decide +kernel
set_option maxRecDepth 100000 in
theorem dX10_plain_42 : decode prog_1_method_2_code 42 = .ok (.if_icmp .lt 6, 3) := by decide +kernel
set_option maxRecDepth 100000 in
theorem dX10_plain_45 : decode prog_1_method_2_code 45 = .ok (.bipush (-5), 2) := by decide +kernel
set_option maxRecDepth 100000 in
theorem dX10_plain_47 : decode prog_1_method_2_code 47 = .ok (.ireturn, 1) := by decide +kernel
set_option maxRecDepth 100000 in
theorem dX10_plain_48 : decode prog_1_method_2_code 48 = .ok (.aload_n 0, 1) := by decide +kernel
set_option maxRecDepth 100000 in
theorem dX10_plain_49 : decode prog_1_method_2_code 49 = .ok (.new 9, 3) := by decide +kernel
set_option maxRecDepth 100000 in
theorem dX10_plain_52 : decode prog_1_method_2_code 52 = .ok (.dup, 1) := by decide +kernel
set_option maxRecDepth 100000 in
theorem dX10_plain_53 : decode prog_1_method_2_code 53 = .ok (.iload_n 1, 1) := by decide +kernel
set_option maxRecDepth 100000 in
theorem dX10_plain_54 : decode prog_1_method_2_code 54 = .ok (.iload_n 1, 1) := by decide +kernel
set_option maxRecDepth 100000 in
theorem dX10_plain_55 : decode prog_1_method_2_code 55 = .ok (.iload_n 2, 1) := by decide +kernel
set_option maxRecDepth 100000 in
theorem dX10_plain_56 : decode prog_1_method_2_code 56 = .ok (.invokestatic 71, 3) := by decide +kernel
set_option maxRecDepth 100000 in
theorem dX10_plain_59 : decode prog_1_method_2_code 59 = .ok (.iload_n 3, 1) := by decide +kernel
set_option maxRecDepth 100000 in
theorem dX10_plain_60 : decode prog_1_method_2_code 60 = .ok (.invokespecial 75, 3) := by decide +kernel
set_option maxRecDepth 100000 in
theorem dX10_plain_63 : decode prog_1_method_2_code 63 = .ok (.invokevirtual 78, 3) := by decide +kernel
set_option maxRecDepth 100000 in
theorem dX10_plain_66 : decode prog_1_method_2_code 66 = .ok (.ireturn, 1) := by decide +kernel
set_option maxRecDepth 100000 in
theorem okX6_plainFits : mOk miX6_plainFits 3 := ⟨(gd_of 205 rfl rfl), (gd_of 77 rfl rfl), by decide +kernel, ⟨by decide +kernel, by decide +kernel, by decide +kernel⟩, by decide⟩
abbrev dz0 : List aV := [.inl 0, .inr (.inr none), .inl 0]
set_option maxRecDepth 100000 in
theorem dz0_ok : ∀ j, j < 3 → defaultValue (tyX1 j) = vp_V (dz0.map tv) j := by decide +kernel
set_option maxRecDepth 100000 in
theorem okX6_ofPlain : mOk miX6_ofPlain 2 := ⟨(gd_of 212 rfl rfl), (gd_of 77 rfl rfl), by decide +kernel, ⟨by decide +kernel, by decide +kernel, by decide +kernel⟩, by decide⟩
def fX10_plain_24 (z : Nat → Nat) (a0 : Nat) (x1 : Int32) (x2 : Int32) (x3 : Int32) (h : aH) : Option (Int32 × aH) :=
  (fX6_plainFits z x1 x2 x3 h).bind fun q101 =>
  (if q101.1 = 0 then
  some ((-3), q101.2)
  else
  (rdI q101.2 a0 [8] 1).bind fun x102 =>
  (if x102 < 60 then
  (fX6_ofPlain z x1 x2 (hnew q101.2 3 (.inr (0, dz0)))).bind fun q103 =>
  (fX1_init z q101.2.1 x1 q103.1 x3 q103.2).bind fun q104 =>
  (obO q104 a0 8).bind fun fs106 =>
  (fX10_keepHandle z a0 (some q101.2.1) q104).bind fun q105 =>
  some (q105.1, q105.2)
  else
  some ((-5), q101.2)))
set_option maxHeartbeats 4000000 in
set_option maxRecDepth 100000 in
theorem xX10_plain_24 {l : Launch} {g : aG} {d : Nat} (hK : 3 ≤ d + 1) {a0 : Nat} {x1 : Int32} {x2 : Int32} {x3 : Int32} {h : aH} {q : Int32 × aH} (hf : fX10_plain_24 g.2.2 a0 x1 x2 x3 h = some q) : Y l g miX10_plain (d + 1) 24 [some (.inr (.inr (some a0))), some (.inl x1), some (.inl x2), some (.inl x3)] [] h (some (.inl q.1), q.2) := by
  unfold fX10_plain_24 at hf
  refine y_iload_n (i := 1) dX10_plain_24 rfl rfl ?_
  refine y_iload_n (i := 2) dX10_plain_25 rfl rfl ?_
  refine y_iload_n (i := 3) dX10_plain_26 rfl rfl ?_
  replace hf := bnd hf
  obtain ⟨q101, eq101, hf⟩ := hf
  refine y_callS (mj := miX6_plainFits) (args := [.inl x1, .inl x2, .inl x3]) (st := []) dX10_plain_27 (gd_of 203 rfl rfl) (gd_of 204 rfl rfl) okX6_plainFits (xX6_plainFits (by omega) eq101) (Nat.le_of_ble_eq_true rfl) rfl ?_
  show Y l g miX10_plain (d + 1) 30 [some (.inr (.inr (some a0))), some (.inl x1), some (.inl x2), some (.inl x3)] [.inl q101.1] q101.2 _
  refine y_if_ne (tgt := 36) dX10_plain_30 (by decide) (fun hc => ?_) (fun hc => ?_)
  · rw [if_neg hc] at hf
    refine y_aload_n (i := 0) dX10_plain_36 rfl rfl ?_
    replace hf := bnd hf
    obtain ⟨x102, ex102, hf⟩ := hf
    refine y_getI ex102 fl10_15 dX10_plain_37 ?_
    refine y_bipush (v := 60) dX10_plain_40 (by decide) ?_
    refine y_icmp_lt (tgt := 48) dX10_plain_42 (by decide) (fun hc => ?_) (fun hc => ?_)
    · rw [if_pos hc] at hf
      refine y_aload_n (i := 0) dX10_plain_48 rfl rfl ?_
      refine y_new (c := 0) (fs := dz0) rfl tyX1 tyX1_ok rfl dz0_ok (gd_of 94 rfl rfl) (gd_of 209 rfl rfl) (gd_of 78 rfl rfl) dX10_plain_49 ?_
      refine y_dup dX10_plain_52 rfl ?_
      refine y_iload_n (i := 1) dX10_plain_53 rfl rfl ?_
      refine y_iload_n (i := 1) dX10_plain_54 rfl rfl ?_
      refine y_iload_n (i := 2) dX10_plain_55 rfl rfl ?_
      replace hf := bnd hf
      obtain ⟨q103, eq103, hf⟩ := hf
      refine y_callS (mj := miX6_ofPlain) (args := [.inl x1, .inl x2]) (st := [.inl x1, .inr (.inr (some q101.2.1)), .inr (.inr (some q101.2.1)), .inr (.inr (some a0))]) dX10_plain_56 (gd_of 210 rfl rfl) (gd_of 211 rfl rfl) okX6_ofPlain (xX6_ofPlain (by omega) eq103) (Nat.le_of_ble_eq_true rfl) rfl ?_
      show Y l g miX10_plain (d + 1) 59 [some (.inr (.inr (some a0))), some (.inl x1), some (.inl x2), some (.inl x3)] [.inr (.inr q103.1), .inl x1, .inr (.inr (some q101.2.1)), .inr (.inr (some q101.2.1)), .inr (.inr (some a0))] q103.2 _
      refine y_iload_n (i := 3) dX10_plain_59 rfl rfl ?_
      replace hf := bnd hf
      obtain ⟨q104, eq104, hf⟩ := hf
      refine y_callI (mj := miX1_init) (args := [.inl x1, .inr (.inr q103.1), .inl x3]) (st := [.inr (.inr (some q101.2.1)), .inr (.inr (some a0))]) dX10_plain_60 (Or.inl (gd_of 232 rfl rfl)) (gd_of 233 rfl rfl) rfl rfl okX1_init (xX1_init (by omega) eq104) (Nat.le_of_ble_eq_true rfl) rfl ?_
      show Y l g miX10_plain (d + 1) 63 [some (.inr (.inr (some a0))), some (.inl x1), some (.inl x2), some (.inl x3)] [.inr (.inr (some q101.2.1)), .inr (.inr (some a0))] q104 _
      replace hf := bnd hf
      obtain ⟨fs106, efs106, hf⟩ := hf
      replace hf := bnd hf
      obtain ⟨q105, eq105, hf⟩ := hf
      refine y_callV (mj := miX10_keepHandle) (args := [.inr (.inr (some q101.2.1))]) (st := []) dX10_plain_63 (gd_of 255 rfl rfl) (gd_of 257 rfl rfl) (gd_of 0 rfl rfl) okX10_keepHandle (obO_spec efs106) rfl rfl (xX10_keepHandle (by omega) eq105) (Nat.le_of_ble_eq_true rfl) rfl ?_
      show Y l g miX10_plain (d + 1) 66 [some (.inr (.inr (some a0))), some (.inl x1), some (.inl x2), some (.inl x3)] [.inl q105.1] q105.2 _
      obtain rfl := Option.some.inj hf
      exact y_ret (v := some (.inl q105.1)) dX10_plain_66 rfl
    · rw [if_neg hc] at hf
      refine y_bipush (v := (-5)) dX10_plain_45 (by decide) ?_
      obtain rfl := Option.some.inj hf
      exact y_ret (v := some (.inl (-5))) dX10_plain_47 rfl
  · rw [if_pos hc] at hf
    refine y_bipush (v := (-3)) dX10_plain_33 (by decide) ?_
    obtain rfl := Option.some.inj hf
    exact y_ret (v := some (.inl (-3))) dX10_plain_35 rfl
def fX10_plain (z : Nat → Nat) (a0 : Nat) (x1 : Int32) (x2 : Int32) (x3 : Int32) (h : aH) : Option (Int32 × aH) :=
  (if x1 = 0 then
  (if x2 = 3 then
  (rdR h a0 [8] 4).bind fun r101 =>
  (r101).bind fun a103 =>
  (obO h a103 3).bind fun fs104 =>
  (fX4_has z a103 (Int32.toInt64 x3) h).bind fun q102 =>
  (if q102.1 = 0 then
  some ((-2), q102.2)
  else
  fX10_plain_24 z a0 x1 x2 x3 q102.2)
  else
  fX10_plain_24 z a0 x1 x2 x3 h)
  else
  fX10_plain_24 z a0 x1 x2 x3 h)
set_option maxHeartbeats 4000000 in
set_option maxRecDepth 100000 in
theorem xX10_plain {l : Launch} {g : aG} {d : Nat} (hK : 3 ≤ d) {a0 : Nat} {x1 : Int32} {x2 : Int32} {x3 : Int32} {h : aH} {q : Int32 × aH} (hf : fX10_plain g.2.2 a0 x1 x2 x3 h = some q) : Ev l g miX10_plain d [.inr (.inr (some a0)), .inl x1, .inl x2, .inl x3] h (some (.inl q.1), q.2) := by
  obtain ⟨d, rfl⟩ : ∃ e, d = e + 1 := ⟨d - 1, by omega⟩
  refine ⟨?_, Or.inl rfl, Nat.le_of_ble_eq_true rfl⟩
  unfold fX10_plain at hf
  show Y l g miX10_plain (d + 1) 0 [some (.inr (.inr (some a0))), some (.inl x1), some (.inl x2), some (.inl x3)] [] h _
  refine y_iload_n (i := 1) dX10_plain_0 rfl rfl ?_
  refine y_if_ne (tgt := 24) dX10_plain_1 (by decide) (fun hc => ?_) (fun hc => ?_)
  · rw [if_neg hc] at hf
    refine Y.weak (lv2 := [some (.inr (.inr (some a0))), some (.inl x1), some (.inl x2), some (.inl x3)]) [true, true, true, true] rfl ?_
    exact xX10_plain_24 hK hf
  · rw [if_pos hc] at hf
    refine y_iload_n (i := 2) dX10_plain_4 rfl rfl ?_
    refine y_iconst (v := 3) dX10_plain_5 (by decide) ?_
    refine y_icmp_ne (tgt := 24) dX10_plain_6 (by decide) (fun hc => ?_) (fun hc => ?_)
    · rw [if_neg hc] at hf
      refine Y.weak (lv2 := [some (.inr (.inr (some a0))), some (.inl x1), some (.inl x2), some (.inl x3)]) [true, true, true, true] rfl ?_
      exact xX10_plain_24 hK hf
    · rw [if_pos hc] at hf
      refine y_aload_n (i := 0) dX10_plain_9 rfl rfl ?_
      replace hf := bnd hf
      obtain ⟨r101, er101, hf⟩ := hf
      refine y_getR er101 fl10_31 dX10_plain_10 ?_
      refine y_iload_n (i := 3) dX10_plain_13 rfl rfl ?_
      refine y_i2l dX10_plain_14 ?_
      replace hf := bnd hf
      obtain ⟨a103, rfl, hf⟩ := hf
      replace hf := bnd hf
      obtain ⟨fs104, efs104, hf⟩ := hf
      replace hf := bnd hf
      obtain ⟨q102, eq102, hf⟩ := hf
      refine y_callV (mj := miX4_has) (args := [.inr (.inl (Int32.toInt64 x3))]) (st := []) dX10_plain_15 (gd_of 199 rfl rfl) (gd_of 200 rfl rfl) (gd_of 201 rfl rfl) okX4_has (obO_spec efs104) rfl rfl (xX4_has (by omega) eq102) (Nat.le_of_ble_eq_true rfl) rfl ?_
      show Y l g miX10_plain (d + 1) 18 [some (.inr (.inr (some a0))), some (.inl x1), some (.inl x2), some (.inl x3)] [.inl q102.1] q102.2 _
      refine y_if_ne (tgt := 24) dX10_plain_18 (by decide) (fun hc => ?_) (fun hc => ?_)
      · rw [if_neg hc] at hf
        refine Y.weak (lv2 := [some (.inr (.inr (some a0))), some (.inl x1), some (.inl x2), some (.inl x3)]) [true, true, true, true] rfl ?_
        exact xX10_plain_24 hK hf
      · rw [if_pos hc] at hf
        refine y_bipush (v := (-2)) dX10_plain_21 (by decide) ?_
        obtain rfl := Option.some.inj hf
        exact y_ret (v := some (.inl (-2))) dX10_plain_23 rfl
set_option maxRecDepth 100000 in
theorem dX10_result_0 : decode prog_1_method_16_code 0 = .ok (.aload_n 0, 1) := by decide +kernel
set_option maxRecDepth 100000 in
theorem dX10_result_1 : decode prog_1_method_16_code 1 = .ok (.getfield 54, 3) := by decide +kernel
set_option maxRecDepth 100000 in
theorem dX10_result_4 : decode prog_1_method_16_code 4 = .ok (.lreturn, 1) := by decide +kernel

def fX10_result (z : Nat → Nat) (a0 : Nat) (h : aH) : Option (Int64 × aH) :=
  (rdJ h a0 [8] 8).bind fun j101 =>
  some (j101, h)
set_option maxHeartbeats 4000000 in
set_option maxRecDepth 100000 in
theorem xX10_result {l : Launch} {g : aG} {d : Nat} (hK : 0 ≤ d) {a0 : Nat} {h : aH} {q : Int64 × aH} (hf : fX10_result g.2.2 a0 h = some q) : Ev l g miX10_result d [.inr (.inr (some a0))] h (some (.inr (.inl q.1)), q.2) := by
  refine ⟨?_, rfl, Nat.le_of_ble_eq_true rfl⟩
  unfold fX10_result at hf
  show Y l g miX10_result d 0 [some (.inr (.inr (some a0)))] [] h _
  refine y_aload_n (i := 0) dX10_result_0 rfl rfl ?_
  replace hf := bnd hf
  obtain ⟨j101, ej101, hf⟩ := hf
  refine y_getJ ej101 fl10_54 dX10_result_1 ?_
  obtain rfl := Option.some.inj hf
  exact y_ret (v := some (.inr (.inl j101))) dX10_result_4 rfl
set_option maxRecDepth 100000 in
theorem dX10_resultKind_0 : decode prog_1_method_15_code 0 = .ok (.aload_n 0, 1) := by decide +kernel
set_option maxRecDepth 100000 in
theorem dX10_resultKind_1 : decode prog_1_method_15_code 1 = .ok (.getfield 51, 3) := by decide +kernel
set_option maxRecDepth 100000 in
theorem dX10_resultKind_4 : decode prog_1_method_15_code 4 = .ok (.ireturn, 1) := by decide +kernel

def fX10_resultKind (z : Nat → Nat) (a0 : Nat) (h : aH) : Option (Int32 × aH) :=
  (rdI h a0 [8] 7).bind fun x101 =>
  some (x101, h)
set_option maxHeartbeats 4000000 in
set_option maxRecDepth 100000 in
theorem xX10_resultKind {l : Launch} {g : aG} {d : Nat} (hK : 0 ≤ d) {a0 : Nat} {h : aH} {q : Int32 × aH} (hf : fX10_resultKind g.2.2 a0 h = some q) : Ev l g miX10_resultKind d [.inr (.inr (some a0))] h (some (.inl q.1), q.2) := by
  refine ⟨?_, Or.inl rfl, Nat.le_of_ble_eq_true rfl⟩
  unfold fX10_resultKind at hf
  show Y l g miX10_resultKind d 0 [some (.inr (.inr (some a0)))] [] h _
  refine y_aload_n (i := 0) dX10_resultKind_0 rfl rfl ?_
  replace hf := bnd hf
  obtain ⟨x101, ex101, hf⟩ := hf
  refine y_getI ex101 fl10_51 dX10_resultKind_1 ?_
  obtain rfl := Option.some.inj hf
  exact y_ret (v := some (.inl x101)) dX10_resultKind_4 rfl
set_option maxRecDepth 100000 in
theorem dX10_row_0 : decode prog_1_method_4_code 0 = .ok (.iload_n 1, 1) := by decide +kernel
set_option maxRecDepth 100000 in
theorem dX10_row_1 : decode prog_1_method_4_code 1 = .ok (.ifCond .lt 9, 3) := by decide +kernel
set_option maxRecDepth 100000 in
theorem dX10_row_4 : decode prog_1_method_4_code 4 = .ok (.iload_n 1, 1) := by decide +kernel
set_option maxRecDepth 100000 in
theorem dX10_row_5 : decode prog_1_method_4_code 5 = .ok (.bipush 20, 2) := by decide +kernel
set_option maxRecDepth 100000 in
theorem dX10_row_7 : decode prog_1_method_4_code 7 = .ok (.if_icmp .le 6, 3) := by decide +kernel
set_option maxRecDepth 100000 in
theorem dX10_row_10 : decode prog_1_method_4_code 10 = .ok (.bipush (-3), 2) := by decide +kernel
set_option maxRecDepth 100000 in
theorem dX10_row_12 : decode prog_1_method_4_code 12 = .ok (.ireturn, 1) := by decide +kernel
set_option maxRecDepth 100000 in
theorem dX10_row_13 : decode prog_1_method_4_code 13 = .ok (.aload_n 0, 1) := by decide +kernel
set_option maxRecDepth 100000 in
theorem dX10_row_14 : decode prog_1_method_4_code 14 = .ok (.getfield 31, 3) := by decide +kernel
set_option maxRecDepth 100000 in
theorem dX10_row_17 : decode prog_1_method_4_code 17 = .ok (.iload_n 1, 1) := by decide +kernel
set_option maxRecDepth 100000 in
theorem dX10_row_18 : decode prog_1_method_4_code 18 = .ok (.invokevirtual 128, 3) := by decide +kernel
set_option maxRecDepth 100000 in
theorem dX10_row_21 : decode prog_1_method_4_code 21 = .ok (.istore_n 2, 1) := by decide +kernel
set_option maxRecDepth 100000 in
theorem dX10_row_22 : decode prog_1_method_4_code 22 = .ok (.iload_n 2, 1) := by decide +kernel
set_option maxRecDepth 100000 in
theorem dX10_row_23 : decode prog_1_method_4_code 23 = .ok (.iconst (-1), 1) := by decide +kernel
set_option maxRecDepth 100000 in
theorem dX10_row_24 : decode prog_1_method_4_code 24 = .ok (.if_icmp .ne 8, 3) := by decide +kernel
set_option maxRecDepth 100000 in
theorem dX10_row_27 : decode prog_1_method_4_code 27 = .ok (.bipush (-5), 2) := by decide +kernel
set_option maxRecDepth 100000 in
theorem dX10_row_29 : decode prog_1_method_4_code 29 = .ok (.goto 4, 3) := by decide +kernel
set_option maxRecDepth 100000 in
theorem dX10_row_32 : decode prog_1_method_4_code 32 = .ok (.iload_n 2, 1) := by decide +kernel
set_option maxRecDepth 100000 in
theorem dX10_row_33 : decode prog_1_method_4_code 33 = .ok (.ireturn, 1) := by decide +kernel

def fX10_row (z : Nat → Nat) (a0 : Nat) (x1 : Int32) (h : aH) : Option (Int32 × aH) :=
  (if x1 < 0 then
  some ((-3), h)
  else
  (if x1 ≤ 20 then
  (rdR h a0 [8] 4).bind fun r101 =>
  (r101).bind fun a103 =>
  (obO h a103 3).bind fun fs104 =>
  (fX4_make z a103 x1 h).bind fun q102 =>
  (if q102.1 = (-1) then
  some ((-5), q102.2)
  else
  some (q102.1, q102.2))
  else
  some ((-3), h)))
set_option maxHeartbeats 4000000 in
set_option maxRecDepth 100000 in
theorem xX10_row {l : Launch} {g : aG} {d : Nat} (hK : 1 ≤ d) {a0 : Nat} {x1 : Int32} {h : aH} {q : Int32 × aH} (hf : fX10_row g.2.2 a0 x1 h = some q) : Ev l g miX10_row d [.inr (.inr (some a0)), .inl x1] h (some (.inl q.1), q.2) := by
  obtain ⟨d, rfl⟩ : ∃ e, d = e + 1 := ⟨d - 1, by omega⟩
  refine ⟨?_, Or.inl rfl, Nat.le_of_ble_eq_true rfl⟩
  unfold fX10_row at hf
  show Y l g miX10_row (d + 1) 0 [some (.inr (.inr (some a0))), some (.inl x1), none] [] h _
  refine y_iload_n (i := 1) dX10_row_0 rfl rfl ?_
  refine y_if_lt (tgt := 10) dX10_row_1 (by decide) (fun hc => ?_) (fun hc => ?_)
  · rw [if_pos hc] at hf
    refine y_bipush (v := (-3)) dX10_row_10 (by decide) ?_
    obtain rfl := Option.some.inj hf
    exact y_ret (v := some (.inl (-3))) dX10_row_12 rfl
  · rw [if_neg hc] at hf
    refine y_iload_n (i := 1) dX10_row_4 rfl rfl ?_
    refine y_bipush (v := 20) dX10_row_5 (by decide) ?_
    refine y_icmp_le (tgt := 13) dX10_row_7 (by decide) (fun hc => ?_) (fun hc => ?_)
    · rw [if_pos hc] at hf
      refine y_aload_n (i := 0) dX10_row_13 rfl rfl ?_
      replace hf := bnd hf
      obtain ⟨r101, er101, hf⟩ := hf
      refine y_getR er101 fl10_31 dX10_row_14 ?_
      refine y_iload_n (i := 1) dX10_row_17 rfl rfl ?_
      replace hf := bnd hf
      obtain ⟨a103, rfl, hf⟩ := hf
      replace hf := bnd hf
      obtain ⟨fs104, efs104, hf⟩ := hf
      replace hf := bnd hf
      obtain ⟨q102, eq102, hf⟩ := hf
      refine y_callV (mj := miX4_make) (args := [.inl x1]) (st := []) dX10_row_18 (gd_of 441 rfl rfl) (gd_of 442 rfl rfl) (gd_of 443 rfl rfl) okX4_make (obO_spec efs104) rfl rfl (xX4_make (by omega) eq102) (Nat.le_of_ble_eq_true rfl) rfl ?_
      show Y l g miX10_row (d + 1) 21 [some (.inr (.inr (some a0))), some (.inl x1), none] [.inl q102.1] q102.2 _
      refine y_istore_n (i := 2) (lv2 := [some (.inr (.inr (some a0))), some (.inl x1), some (.inl q102.1)]) dX10_row_21 rfl (by decide) rfl ?_
      refine y_iload_n (i := 2) dX10_row_22 rfl rfl ?_
      refine y_iconst (v := (-1)) dX10_row_23 (by decide) ?_
      refine y_icmp_ne (tgt := 32) dX10_row_24 (by decide) (fun hc => ?_) (fun hc => ?_)
      · rw [if_neg hc] at hf
        refine y_iload_n (i := 2) dX10_row_32 rfl rfl ?_
        obtain rfl := Option.some.inj hf
        exact y_ret (v := some (.inl q102.1)) dX10_row_33 rfl
      · rw [if_pos hc] at hf
        refine y_bipush (v := (-5)) dX10_row_27 (by decide) ?_
        refine y_goto (tgt := 33) dX10_row_29 (by decide) ?_
        obtain rfl := Option.some.inj hf
        exact y_ret (v := some (.inl (-5))) dX10_row_33 rfl
    · rw [if_neg hc] at hf
      refine y_bipush (v := (-3)) dX10_row_10 (by decide) ?_
      obtain rfl := Option.some.inj hf
      exact y_ret (v := some (.inl (-3))) dX10_row_12 rfl
