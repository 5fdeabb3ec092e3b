set_option maxRecDepth 100000 in
theorem dX0_isExactly_0 : decode prog_2_method_7_code 0 = .ok (.iload_n 1, 1) := by decide +kernel
set_option maxRecDepth 100000 in
theorem dX0_isExactly_1 : decode prog_2_method_7_code 1 = .ok (.tableswitch 79 0 3 #[31, 41, 52, 63], 31) := by decide +kernel
set_option maxRecDepth 100000 in
theorem dX0_isExactly_32 : decode prog_2_method_7_code 32 = .ok (.iload_n 0, 1) := by decide +kernel
set_option maxRecDepth 100000 in
theorem dX0_isExactly_33 : decode prog_2_method_7_code 33 = .ok (.ifCond .ne 7, 3) := by decide +kernel
set_option maxRecDepth 100000 in
theorem dX0_isExactly_36 : decode prog_2_method_7_code 36 = .ok (.iconst 1, 1) := by decide +kernel
set_option maxRecDepth 100000 in
theorem dX0_isExactly_37 : decode prog_2_method_7_code 37 = .ok (.goto 4, 3) := by decide +kernel
set_option maxRecDepth 100000 in
theorem dX0_isExactly_40 : decode prog_2_method_7_code 40 = .ok (.iconst 0, 1) := by decide +kernel
set_option maxRecDepth 100000 in
theorem dX0_isExactly_41 : decode prog_2_method_7_code 41 = .ok (.ireturn, 1) := by decide +kernel
set_option maxRecDepth 100000 in
theorem dX0_isExactly_42 : decode prog_2_method_7_code 42 = .ok (.iload_n 0, 1) := by decide +kernel
set_option maxRecDepth 100000 in
theorem dX0_isExactly_43 : decode prog_2_method_7_code 43 = .ok (.iconst 1, 1) := by decide +kernel
set_option maxRecDepth 100000 in
theorem dX0_isExactly_44 : decode prog_2_method_7_code 44 = .ok (.if_icmp .ne 7, 3) := by decide +kernel
set_option maxRecDepth 100000 in
theorem dX0_isExactly_47 : decode prog_2_method_7_code 47 = .ok (.iconst 1, 1) := by decide +kernel
set_option maxRecDepth 100000 in
theorem dX0_isExactly_48 : decode prog_2_method_7_code 48 = .ok (.goto 4, 3) := by decide +kernel
set_option maxRecDepth 100000 in
theorem dX0_isExactly_51 : decode prog_2_method_7_code 51 = .ok (.iconst 0, 1) := by decide +kernel
set_option maxRecDepth 100000 in
theorem dX0_isExactly_52 : decode prog_2_method_7_code 52 = .ok (.ireturn, 1) := by decide +kernel
set_option maxRecDepth 100000 in
theorem dX0_isExactly_53 : decode prog_2_method_7_code 53 = .ok (.iload_n 0, 1) := by decide +kernel
set_option maxRecDepth 100000 in
theorem dX0_isExactly_54 : decode prog_2_method_7_code 54 = .ok (.iconst 2, 1) := by decide +kernel
set_option maxRecDepth 100000 in
theorem dX0_isExactly_55 : decode prog_2_method_7_code 55 = .ok (.if_icmp .eq 7, 3) := by decide +kernel
set_option maxRecDepth 100000 in
theorem dX0_isExactly_58 : decode prog_2_method_7_code 58 = .ok (.iconst 1, 1) := by decide +kernel
set_option maxRecDepth 100000 in
theorem dX0_isExactly_59 : decode prog_2_method_7_code 59 = .ok (.goto 4, 3) := by decide +kernel
set_option maxRecDepth 100000 in
theorem dX0_isExactly_62 : decode prog_2_method_7_code 62 = .ok (.iconst 0, 1) := by decide +kernel
set_option maxRecDepth 100000 in
theorem dX0_isExactly_63 : decode prog_2_method_7_code 63 = .ok (.ireturn, 1) := by decide +kernel
set_option maxRecDepth 100000 in
theorem dX0_isExactly_64 : decode prog_2_method_7_code 64 = .ok (.iload_n 0, 1) := by decide +kernel
set_option maxRecDepth 100000 in
theorem dX0_isExactly_65 : decode prog_2_method_7_code 65 = .ok (.iconst 2, 1) := by decide +kernel
set_option maxRecDepth 100000 in
theorem dX0_isExactly_66 : decode prog_2_method_7_code 66 = .ok (.if_icmp .eq 8, 3) := by decide +kernel
set_option maxRecDepth 100000 in
theorem dX0_isExactly_69 : decode prog_2_method_7_code 69 = .ok (.iload_n 0, 1) := by decide +kernel
set_option maxRecDepth 100000 in
theorem dX0_isExactly_70 : decode prog_2_method_7_code 70 = .ok (.iconst 3, 1) := by decide +kernel
set_option maxRecDepth 100000 in
theorem dX0_isExactly_71 : decode prog_2_method_7_code 71 = .ok (.if_icmp .ne 7, 3) := by decide +kernel
set_option maxRecDepth 100000 in
theorem dX0_isExactly_74 : decode prog_2_method_7_code 74 = .ok (.iconst 1, 1) := by decide +kernel
set_option maxRecDepth 100000 in
theorem dX0_isExactly_75 : decode prog_2_method_7_code 75 = .ok (.goto 4, 3) := by decide +kernel
set_option maxRecDepth 100000 in
theorem dX0_isExactly_78 : decode prog_2_method_7_code 78 = .ok (.iconst 0, 1) := by decide +kernel
set_option maxRecDepth 100000 in
theorem dX0_isExactly_79 : decode prog_2_method_7_code 79 = .ok (.ireturn, 1) := by decide +kernel
set_option maxRecDepth 100000 in
theorem dX0_isExactly_80 : decode prog_2_method_7_code 80 = .ok (.iconst 0, 1) := by decide +kernel
set_option maxRecDepth 100000 in
theorem dX0_isExactly_81 : decode prog_2_method_7_code 81 = .ok (.ireturn, 1) := by decide +kernel

def fX0_isExactly_e (z : Nat → Nat) (x0 : Int32) (x1 : Int32) (h : aH) : Option (Int32 × aH) :=
  (if x1 = 0 then
  (if x0 = 0 then
  some (1, h)
  else
  some (0, h))
  else
  (if x1 = 1 then
  (if x0 = 1 then
  some (1, h)
  else
  some (0, h))
  else
  (if x1 = 2 then
  (if x0 = 2 then
  some (0, h)
  else
  some (1, h))
  else
  (if x1 = 3 then
  (if x0 = 2 then
  some (1, h)
  else
  (if x0 = 3 then
  some (1, h)
  else
  some (0, h)))
  else
  some (0, h)))))
def fX0_isExactly (z : Nat → Nat) (x0 : Int32) (x1 : Int32) (h : aH) : Option (Int32 × aH) := chkB (fX0_isExactly_e z x0 x1 h)
set_option maxHeartbeats 4000000 in
set_option maxRecDepth 100000 in
theorem xX0_isExactly {l : Launch} {g : aG} {d : Nat} (hK : 0 ≤ d) {x0 : Int32} {x1 : Int32} {h : aH} {q : Int32 × aH} (hf : fX0_isExactly g.2.2 x0 x1 h = some q) : Ev l g miX0_isExactly d [.inl x0, .inl x1] h (some (.inl q.1), q.2) := by
  replace hf := chkB_spec hf
  obtain ⟨hf, hb⟩ := hf
  refine ⟨?_, Or.inr ⟨rfl, hb⟩, Nat.le_of_ble_eq_true rfl⟩
  unfold fX0_isExactly_e at hf
  show Y l g miX0_isExactly d 0 [some (.inl x0), some (.inl x1)] [] h _
  refine y_iload_n (i := 1) dX0_isExactly_0 rfl rfl ?_
  refine y_table dX0_isExactly_1 [(0, 32), (1, 42), (2, 53), (3, 64)] 80 (by decide) (by decide) (by decide) (by decide) ?_
  refine y_swc (fun hc => ?_) (fun hc => ?_)
  · rw [if_pos hc] at hf
    refine y_iload_n (i := 0) dX0_isExactly_32 rfl rfl ?_
    refine y_if_ne (tgt := 40) dX0_isExactly_33 (by decide) (fun hc => ?_) (fun hc => ?_)
    · rw [if_neg hc] at hf
      refine y_iconst (v := 0) dX0_isExactly_40 (by decide) ?_
      obtain rfl := Option.some.inj hf
      exact y_ret (v := some (.inl 0)) dX0_isExactly_41 rfl
    · rw [if_pos hc] at hf
      refine y_iconst (v := 1) dX0_isExactly_36 (by decide) ?_
      refine y_goto (tgt := 41) dX0_isExactly_37 (by decide) ?_
      obtain rfl := Option.some.inj hf
      exact y_ret (v := some (.inl 1)) dX0_isExactly_41 rfl
  rw [if_neg hc] at hf
  refine y_swc (fun hc => ?_) (fun hc => ?_)
  · rw [if_pos hc] at hf
    refine y_iload_n (i := 0) dX0_isExactly_42 rfl rfl ?_
    refine y_iconst (v := 1) dX0_isExactly_43 (by decide) ?_
    refine y_icmp_ne (tgt := 51) dX0_isExactly_44 (by decide) (fun hc => ?_) (fun hc => ?_)
    · rw [if_neg hc] at hf
      refine y_iconst (v := 0) dX0_isExactly_51 (by decide) ?_
      obtain rfl := Option.some.inj hf
      exact y_ret (v := some (.inl 0)) dX0_isExactly_52 rfl
    · rw [if_pos hc] at hf
      refine y_iconst (v := 1) dX0_isExactly_47 (by decide) ?_
      refine y_goto (tgt := 52) dX0_isExactly_48 (by decide) ?_
      obtain rfl := Option.some.inj hf
      exact y_ret (v := some (.inl 1)) dX0_isExactly_52 rfl
  rw [if_neg hc] at hf
  refine y_swc (fun hc => ?_) (fun hc => ?_)
  · rw [if_pos hc] at hf
    refine y_iload_n (i := 0) dX0_isExactly_53 rfl rfl ?_
    refine y_iconst (v := 2) dX0_isExactly_54 (by decide) ?_
    refine y_icmp_eq (tgt := 62) dX0_isExactly_55 (by decide) (fun hc => ?_) (fun hc => ?_)
    · rw [if_pos hc] at hf
      refine y_iconst (v := 0) dX0_isExactly_62 (by decide) ?_
      obtain rfl := Option.some.inj hf
      exact y_ret (v := some (.inl 0)) dX0_isExactly_63 rfl
    · rw [if_neg hc] at hf
      refine y_iconst (v := 1) dX0_isExactly_58 (by decide) ?_
      refine y_goto (tgt := 63) dX0_isExactly_59 (by decide) ?_
      obtain rfl := Option.some.inj hf
      exact y_ret (v := some (.inl 1)) dX0_isExactly_63 rfl
  rw [if_neg hc] at hf
  refine y_swc (fun hc => ?_) (fun hc => ?_)
  · rw [if_pos hc] at hf
    refine y_iload_n (i := 0) dX0_isExactly_64 rfl rfl ?_
    refine y_iconst (v := 2) dX0_isExactly_65 (by decide) ?_
    refine y_icmp_eq (tgt := 74) dX0_isExactly_66 (by decide) (fun hc => ?_) (fun hc => ?_)
    · rw [if_pos hc] at hf
      refine y_iconst (v := 1) dX0_isExactly_74 (by decide) ?_
      refine y_goto (tgt := 79) dX0_isExactly_75 (by decide) ?_
      obtain rfl := Option.some.inj hf
      exact y_ret (v := some (.inl 1)) dX0_isExactly_79 rfl
    · rw [if_neg hc] at hf
      refine y_iload_n (i := 0) dX0_isExactly_69 rfl rfl ?_
      refine y_iconst (v := 3) dX0_isExactly_70 (by decide) ?_
      refine y_icmp_ne (tgt := 78) dX0_isExactly_71 (by decide) (fun hc => ?_) (fun hc => ?_)
      · rw [if_neg hc] at hf
        refine y_iconst (v := 0) dX0_isExactly_78 (by decide) ?_
        obtain rfl := Option.some.inj hf
        exact y_ret (v := some (.inl 0)) dX0_isExactly_79 rfl
      · rw [if_pos hc] at hf
        refine y_iconst (v := 1) dX0_isExactly_74 (by decide) ?_
        refine y_goto (tgt := 79) dX0_isExactly_75 (by decide) ?_
        obtain rfl := Option.some.inj hf
        exact y_ret (v := some (.inl 1)) dX0_isExactly_79 rfl
  rw [if_neg hc] at hf
  refine y_swn ?_
  refine y_iconst (v := 0) dX0_isExactly_80 (by decide) ?_
  obtain rfl := Option.some.inj hf
  exact y_ret (v := some (.inl 0)) dX0_isExactly_81 rfl
set_option maxRecDepth 100000 in
theorem dX5_fits_0 : decode prog_7_method_3_code 0 = .ok (.aload_n 1, 1) := by decide +kernel
set_option maxRecDepth 100000 in
theorem dX5_fits_1 : decode prog_7_method_3_code 1 = .ok (.invokevirtual 67, 3) := by decide +kernel
set_option maxRecDepth 100000 in
theorem dX5_fits_4 : decode prog_7_method_3_code 4 = .ok (.aload_n 2, 1) := by decide +kernel
set_option maxRecDepth 100000 in
theorem dX5_fits_5 : decode prog_7_method_3_code 5 = .ok (.invokevirtual 44, 3) := by decide +kernel
set_option maxRecDepth 100000 in
theorem dX5_fits_8 : decode prog_7_method_3_code 8 = .ok (.if_icmp .eq 5, 3) := by decide +kernel
set_option maxRecDepth 100000 in
theorem dX5_fits_11 : decode prog_7_method_3_code 11 = .ok (.iconst 0, 1) := by decide +kernel
set_option maxRecDepth 100000 in
theorem dX5_fits_12 : decode prog_7_method_3_code 12 = .ok (.ireturn, 1) := by decide +kernel
set_option maxRecDepth 100000 in
theorem dX5_fits_13 : decode prog_7_method_3_code 13 = .ok (.iconst 0, 1) := by decide +kernel
set_option maxRecDepth 100000 in
theorem dX5_fits_14 : decode prog_7_method_3_code 14 = .ok (.istore 4, 2) := by decide +kernel
set_option maxRecDepth 100000 in
theorem dX5_fits_16 : decode prog_7_method_3_code 16 = .ok (.iload 4, 2) := by decide +kernel
set_option maxRecDepth 100000 in
theorem dX5_fits_18 : decode prog_7_method_3_code 18 = .ok (.aload_n 2, 1) := by decide +kernel
set_option maxRecDepth 100000 in
theorem dX5_fits_19 : decode prog_7_method_3_code 19 = .ok (.invokevirtual 44, 3) := by decide +kernel
set_option maxRecDepth 100000 in
theorem dX5_fits_22 : decode prog_7_method_3_code 22 = .ok (.if_icmp .ge 60, 3) := by decide +kernel
set_option maxRecDepth 100000 in
theorem dX5_fits_25 : decode prog_7_method_3_code 25 = .ok (.aload_n 1, 1) := by decide +kernel
set_option maxRecDepth 100000 in
theorem dX5_fits_26 : decode prog_7_method_3_code 26 = .ok (.iload 4, 2) := by decide +kernel
set_option maxRecDepth 100000 in
theorem dX5_fits_28 : decode prog_7_method_3_code 28 = .ok (.invokevirtual 54, 3) := by decide +kernel
set_option maxRecDepth 100000 in
theorem dX5_fits_31 : decode prog_7_method_3_code 31 = .ok (.istore 5, 2) := by decide +kernel
set_option maxRecDepth 100000 in
theorem dX5_fits_33 : decode prog_7_method_3_code 33 = .ok (.aload_n 2, 1) := by decide +kernel
set_option maxRecDepth 100000 in
theorem dX5_fits_34 : decode prog_7_method_3_code 34 = .ok (.iload 4, 2) := by decide +kernel
set_option maxRecDepth 100000 in
theorem dX5_fits_36 : decode prog_7_method_3_code 36 = .ok (.invokevirtual 50, 3) := by decide +kernel
set_option maxRecDepth 100000 in
theorem dX5_fits_39 : decode prog_7_method_3_code 39 = .ok (.istore 6, 2) := by decide +kernel
set_option maxRecDepth 100000 in
theorem dX5_fits_41 : decode prog_7_method_3_code 41 = .ok (.iload_n 3, 1) := by decide +kernel
set_option maxRecDepth 100000 in
theorem dX5_fits_42 : decode prog_7_method_3_code 42 = .ok (.ifCond .eq 13, 3) := by decide +kernel
set_option maxRecDepth 100000 in
theorem dX5_fits_45 : decode prog_7_method_3_code 45 = .ok (.iload 5, 2) := by decide +kernel
set_option maxRecDepth 100000 in
theorem dX5_fits_47 : decode prog_7_method_3_code 47 = .ok (.iload 6, 2) := by decide +kernel
set_option maxRecDepth 100000 in
theorem dX5_fits_49 : decode prog_7_method_3_code 49 = .ok (.invokestatic 68, 3) := by decide +kernel
set_option maxRecDepth 100000 in
theorem dX5_fits_52 : decode prog_7_method_3_code 52 = .ok (.goto 15, 3) := by decide +kernel
set_option maxRecDepth 100000 in
theorem dX5_fits_55 : decode prog_7_method_3_code 55 = .ok (.iload 5, 2) := by decide +kernel
set_option maxRecDepth 100000 in
theorem dX5_fits_57 : decode prog_7_method_3_code 57 = .ok (.iload 6, 2) := by decide +kernel
set_option maxRecDepth 100000 in
theorem dX5_fits_59 : decode prog_7_method_3_code 59 = .ok (.invokestatic 57, 3) := by decide +kernel
set_option maxRecDepth 100000 in
theorem dX5_fits_62 : decode prog_7_method_3_code 62 = .ok (.iload 6, 2) := by decide +kernel
set_option maxRecDepth 100000 in
theorem dX5_fits_64 : decode prog_7_method_3_code 64 = .ok (.invokestatic 72, 3) := by decide +kernel
set_option maxRecDepth 100000 in
theorem dX5_fits_67 : decode prog_7_method_3_code 67 = .ok (.istore 7, 2) := by decide +kernel
set_option maxRecDepth 100000 in
theorem dX5_fits_69 : decode prog_7_method_3_code 69 = .ok (.iload 7, 2) := by decide +kernel
set_option maxRecDepth 100000 in
theorem dX5_fits_71 : decode prog_7_method_3_code 71 = .ok (.ifCond .ne 5, 3) := by decide +kernel
set_option maxRecDepth 100000 in
theorem dX5_fits_74 : decode prog_7_method_3_code 74 = .ok (.iconst 0, 1) := by decide +kernel
set_option maxRecDepth 100000 in
theorem dX5_fits_75 : decode prog_7_method_3_code 75 = .ok (.ireturn, 1) := by decide +kernel
set_option maxRecDepth 100000 in
theorem dX5_fits_76 : decode prog_7_method_3_code 76 = .ok (.iinc 4 1, 3) := by decide +kernel
set_option maxRecDepth 100000 in
theorem dX5_fits_79 : decode prog_7_method_3_code 79 = .ok (.goto (-63), 3) := by decide +kernel
set_option maxRecDepth 100000 in
theorem dX5_fits_82 : decode prog_7_method_3_code 82 = .ok (.iconst 1, 1) := by decide +kernel
set_option maxRecDepth 100000 in
theorem dX5_fits_83 : decode prog_7_method_3_code 83 = .ok (.ireturn, 1) := by decide +kernel
set_option maxRecDepth 100000 in
theorem okX0_isExactly : mOk miX0_isExactly 2 := ⟨(gd_of 505 rfl rfl), (gd_of 82 rfl rfl), by decide +kernel, ⟨by decide +kernel, by decide +kernel, by decide +kernel⟩, by decide⟩
def fX5_fits_67 (z : Nat → Nat) (K16 : Option Nat → Option Nat → Int32 → Int32 → aH → Option (Int32 × aH)) (r1 : Option Nat) (r2 : Option Nat) (x3 : Int32) (x4 : Int32) (sx0 : Int32) (h : aH) : Option (Int32 × aH) :=
  (if sx0 = 0 then
  some (0, h)
  else
  K16 r1 r2 x3 (x4 + 1) h)
set_option maxHeartbeats 4000000 in
set_option maxRecDepth 100000 in
theorem xX5_fits_67 {l : Launch} {g : aG} {d : Nat} (hK : 1 ≤ d + 1) {K16 : Option Nat → Option Nat → Int32 → Int32 → aH → Option (Int32 × aH)} (hK16 : ∀ (r1 : Option Nat) (r2 : Option Nat) (x3 : Int32) (x4 : Int32) (h : aH) (q : Int32 × aH), K16 r1 r2 x3 x4 h = some q → Y l g miX5_fits (d + 1) 16 [none, some (.inr (.inr r1)), some (.inr (.inr r2)), some (.inl x3), some (.inl x4), none, none, none] [] h (some (.inl q.1), q.2)) {r1 : Option Nat} {r2 : Option Nat} {x3 : Int32} {x4 : Int32} {sx0 : Int32} {h : aH} {q : Int32 × aH} (hf : fX5_fits_67 g.2.2 K16 r1 r2 x3 x4 sx0 h = some q) : Y l g miX5_fits (d + 1) 67 [none, some (.inr (.inr r1)), some (.inr (.inr r2)), some (.inl x3), some (.inl x4), none, none, none] [.inl sx0] h (some (.inl q.1), q.2) := by
  unfold fX5_fits_67 at hf
  refine y_istore (i := 7) (lv2 := [none, some (.inr (.inr r1)), some (.inr (.inr r2)), some (.inl x3), some (.inl x4), none, none, some (.inl sx0)]) dX5_fits_67 (by decide) rfl ?_
  refine y_iload (i := 7) dX5_fits_69 rfl ?_
  refine y_if_ne (tgt := 76) dX5_fits_71 (by decide) (fun hc => ?_) (fun hc => ?_)
  · rw [if_neg hc] at hf
    refine y_iinc (i := 4) (y := 1) (lv2 := [none, some (.inr (.inr r1)), some (.inr (.inr r2)), some (.inl x3), some (.inl (x4 + 1)), none, none, some (.inl sx0)]) dX5_fits_76 rfl (by decide) (by decide) rfl ?_
    refine y_goto (tgt := 16) dX5_fits_79 (by decide) ?_
    refine Y.weak (lv2 := [none, some (.inr (.inr r1)), some (.inr (.inr r2)), some (.inl x3), some (.inl (x4 + 1)), none, none, none]) [false, true, true, true, true, false, false, false] rfl ?_
    exact hK16 _ _ _ _ _ _ hf
  · rw [if_pos hc] at hf
    refine y_iconst (v := 0) dX5_fits_74 (by decide) ?_
    obtain rfl := Option.some.inj hf
    exact y_ret (v := some (.inl 0)) dX5_fits_75 rfl
def fX5_fits_16 (z : Nat → Nat) : Nat → Option Nat → Option Nat → Int32 → Int32 → aH → Option (Int32 × aH)
  | 0, _, _, _, _, _ => none
  | n + 1, r1, r2, x3, x4, h => (r2).bind fun a102 =>
  (obO h a102 6).bind fun fs103 =>
  (fX8_count z a102 h).bind fun q101 =>
  (if q101.1 ≤ x4 then
  some (1, q101.2)
  else
  (r1).bind fun a105 =>
  (obO q101.2 a105 7).bind fun fs106 =>
  (fX9_kindAt z a105 x4 q101.2).bind fun q104 =>
  (obO q104.2 a102 6).bind fun fs108 =>
  (fX8_at z a102 x4 q104.2).bind fun q107 =>
  (if x3 = 0 then
  (fX0_typeOf z q104.1 q107.1 q107.2).bind fun q109 =>
  (fX0_isAllowed z q109.1 q107.1 q109.2).bind fun q110 =>
  fX5_fits_67 z (fX5_fits_16 z n) (some a105) (some a102) x3 x4 q110.1 q110.2
  else
  (fX0_isExactly z q104.1 q107.1 q107.2).bind fun q111 =>
  fX5_fits_67 z (fX5_fits_16 z n) (some a105) (some a102) x3 x4 q111.1 q111.2))
set_option maxHeartbeats 4000000 in
set_option maxRecDepth 100000 in
theorem xX5_fits_16 {l : Launch} {g : aG} {d : Nat} (hK : 1 ≤ d + 1) : ∀ (n : Nat) (r1 : Option Nat) (r2 : Option Nat) (x3 : Int32) (x4 : Int32) (h : aH) (q : Int32 × aH), fX5_fits_16 g.2.2 n r1 r2 x3 x4 h = some q → Y l g miX5_fits (d + 1) 16 [none, some (.inr (.inr r1)), some (.inr (.inr r2)), some (.inl x3), some (.inl x4), none, none, none] [] h (some (.inl q.1), q.2) := by
  intro n
  induction n with
  | zero => intro r1 r2 x3 x4 h q hf; simp [fX5_fits_16] at hf
  | succ n ih =>
    intro r1 r2 x3 x4 h q hf
    rw [fX5_fits_16] at hf
    refine y_iload (i := 4) dX5_fits_16 rfl ?_
    refine y_aload_n (i := 2) dX5_fits_18 rfl rfl ?_
    replace hf := bnd hf
    obtain ⟨a102, rfl, hf⟩ := hf
    replace hf := bnd hf
    obtain ⟨fs103, efs103, hf⟩ := hf
    replace hf := bnd hf
    obtain ⟨q101, eq101, hf⟩ := hf
    refine y_callV (mj := miX8_count) (args := []) (st := [.inl x4]) dX5_fits_19 (gd_of 500 rfl rfl) (gd_of 314 rfl rfl) (gd_of 315 rfl rfl) okX8_count (obO_spec efs103) rfl rfl (xX8_count (by omega) eq101) (Nat.le_of_ble_eq_true rfl) rfl ?_
    show Y l g miX5_fits (d + 1) 22 [none, some (.inr (.inr r1)), some (.inr (.inr (some a102))), some (.inl x3), some (.inl x4), none, none, none] [.inl q101.1, .inl x4] q101.2 _
    refine y_icmp_ge (tgt := 82) dX5_fits_22 (by decide) (fun hc => ?_) (fun hc => ?_)
    · rw [if_pos hc] at hf
      refine y_iconst (v := 1) dX5_fits_82 (by decide) ?_
      obtain rfl := Option.some.inj hf
      exact y_ret (v := some (.inl 1)) dX5_fits_83 rfl
    · rw [if_neg hc] at hf
      refine y_aload_n (i := 1) dX5_fits_25 rfl rfl ?_
      refine y_iload (i := 4) dX5_fits_26 rfl ?_
      replace hf := bnd hf
      obtain ⟨a105, rfl, hf⟩ := hf
      replace hf := bnd hf
      obtain ⟨fs106, efs106, hf⟩ := hf
      replace hf := bnd hf
      obtain ⟨q104, eq104, hf⟩ := hf
      refine y_callV (mj := miX9_kindAt) (args := [.inl x4]) (st := []) dX5_fits_28 (gd_of 501 rfl rfl) (gd_of 387 rfl rfl) (gd_of 388 rfl rfl) okX9_kindAt (obO_spec efs106) rfl rfl (xX9_kindAt (by omega) eq104) (Nat.le_of_ble_eq_true rfl) rfl ?_
      show Y l g miX5_fits (d + 1) 31 [none, some (.inr (.inr (some a105))), some (.inr (.inr (some a102))), some (.inl x3), some (.inl x4), none, none, none] [.inl q104.1] q104.2 _
      refine y_istore (i := 5) (lv2 := [none, some (.inr (.inr (some a105))), some (.inr (.inr (some a102))), some (.inl x3), some (.inl x4), some (.inl q104.1), none, none]) dX5_fits_31 (by decide) rfl ?_
      refine y_aload_n (i := 2) dX5_fits_33 rfl rfl ?_
      refine y_iload (i := 4) dX5_fits_34 rfl ?_
      replace hf := bnd hf
      obtain ⟨fs108, efs108, hf⟩ := hf
      replace hf := bnd hf
      obtain ⟨q107, eq107, hf⟩ := hf
      refine y_callV (mj := miX8_at) (args := [.inl x4]) (st := []) dX5_fits_36 (gd_of 502 rfl rfl) (gd_of 340 rfl rfl) (gd_of 341 rfl rfl) okX8_at (obO_spec efs108) rfl rfl (xX8_at (by omega) eq107) (Nat.le_of_ble_eq_true rfl) rfl ?_
      show Y l g miX5_fits (d + 1) 39 [none, some (.inr (.inr (some a105))), some (.inr (.inr (some a102))), some (.inl x3), some (.inl x4), some (.inl q104.1), none, none] [.inl q107.1] q107.2 _
      refine y_istore (i := 6) (lv2 := [none, some (.inr (.inr (some a105))), some (.inr (.inr (some a102))), some (.inl x3), some (.inl x4), some (.inl q104.1), some (.inl q107.1), none]) dX5_fits_39 (by decide) rfl ?_
      refine y_iload_n (i := 3) dX5_fits_41 rfl rfl ?_
      refine y_if_eq (tgt := 55) dX5_fits_42 (by decide) (fun hc => ?_) (fun hc => ?_)
      · rw [if_pos hc] at hf
        refine y_iload (i := 5) dX5_fits_55 rfl ?_
        refine y_iload (i := 6) dX5_fits_57 rfl ?_
        replace hf := bnd hf
        obtain ⟨q109, eq109, hf⟩ := hf
        refine y_callS (mj := miX0_typeOf) (args := [.inl q104.1, .inl q107.1]) (st := []) dX5_fits_59 (gd_of 506 rfl rfl) (gd_of 391 rfl rfl) okX0_typeOf (xX0_typeOf (by omega) eq109) (Nat.le_of_ble_eq_true rfl) rfl ?_
        show Y l g miX5_fits (d + 1) 62 [none, some (.inr (.inr (some a105))), some (.inr (.inr (some a102))), some (.inl x3), some (.inl x4), some (.inl q104.1), some (.inl q107.1), none] [.inl q109.1] q109.2 _
        refine y_iload (i := 6) dX5_fits_62 rfl ?_
        replace hf := bnd hf
        obtain ⟨q110, eq110, hf⟩ := hf
        refine y_callS (mj := miX0_isAllowed) (args := [.inl q109.1, .inl q107.1]) (st := []) dX5_fits_64 (gd_of 507 rfl rfl) (gd_of 375 rfl rfl) okX0_isAllowed (xX0_isAllowed (by omega) eq110) (Nat.le_of_ble_eq_true rfl) rfl ?_
        show Y l g miX5_fits (d + 1) 67 [none, some (.inr (.inr (some a105))), some (.inr (.inr (some a102))), some (.inl x3), some (.inl x4), some (.inl q104.1), some (.inl q107.1), none] [.inl q110.1] q110.2 _
        refine Y.weak (lv2 := [none, some (.inr (.inr (some a105))), some (.inr (.inr (some a102))), some (.inl x3), some (.inl x4), none, none, none]) [false, true, true, true, true, false, false, false] rfl ?_
        exact xX5_fits_67 hK ih hf
      · rw [if_neg hc] at hf
        refine y_iload (i := 5) dX5_fits_45 rfl ?_
        refine y_iload (i := 6) dX5_fits_47 rfl ?_
        replace hf := bnd hf
        obtain ⟨q111, eq111, hf⟩ := hf
        refine y_callS (mj := miX0_isExactly) (args := [.inl q104.1, .inl q107.1]) (st := []) dX5_fits_49 (gd_of 503 rfl rfl) (gd_of 504 rfl rfl) okX0_isExactly (xX0_isExactly (by omega) eq111) (Nat.le_of_ble_eq_true rfl) rfl ?_
        show Y l g miX5_fits (d + 1) 52 [none, some (.inr (.inr (some a105))), some (.inr (.inr (some a102))), some (.inl x3), some (.inl x4), some (.inl q104.1), some (.inl q107.1), none] [.inl q111.1] q111.2 _
        refine y_goto (tgt := 67) dX5_fits_52 (by decide) ?_
        refine Y.weak (lv2 := [none, some (.inr (.inr (some a105))), some (.inr (.inr (some a102))), some (.inl x3), some (.inl x4), none, none, none]) [false, true, true, true, true, false, false, false] rfl ?_
        exact xX5_fits_67 hK ih hf
def fX5_fits_e (z : Nat → Nat) (a0 : Nat) (r1 : Option Nat) (r2 : Option Nat) (x3 : Int32) (h : aH) : Option (Int32 × aH) :=
  (r1).bind fun a102 =>
  (obO h a102 7).bind fun fs103 =>
  (fX9_count z a102 h).bind fun q101 =>
  (r2).bind fun a105 =>
  (obO q101.2 a105 6).bind fun fs106 =>
  (fX8_count z a105 q101.2).bind fun q104 =>
  (if q101.1 = q104.1 then
  fX5_fits_16 z 4000 (some a102) (some a105) x3 0 q104.2
  else
  some (0, q104.2))
def fX5_fits (z : Nat → Nat) (a0 : Nat) (r1 : Option Nat) (r2 : Option Nat) (x3 : Int32) (h : aH) : Option (Int32 × aH) := chkB (fX5_fits_e z a0 r1 r2 x3 h)
set_option maxHeartbeats 4000000 in
set_option maxRecDepth 100000 in
theorem xX5_fits {l : Launch} {g : aG} {d : Nat} (hK : 1 ≤ d) {a0 : Nat} {r1 : Option Nat} {r2 : Option Nat} {x3 : Int32} {h : aH} {q : Int32 × aH} (hf : fX5_fits g.2.2 a0 r1 r2 x3 h = some q) : Ev l g miX5_fits d [.inr (.inr (some a0)), .inr (.inr r1), .inr (.inr r2), .inl x3] h (some (.inl q.1), q.2) := by
  obtain ⟨d, rfl⟩ : ∃ e, d = e + 1 := ⟨d - 1, by omega⟩
  replace hf := chkB_spec hf
  obtain ⟨hf, hb⟩ := hf
  refine ⟨?_, Or.inr ⟨rfl, hb⟩, Nat.le_of_ble_eq_true rfl⟩
  unfold fX5_fits_e at hf
  show Y l g miX5_fits (d + 1) 0 [some (.inr (.inr (some a0))), some (.inr (.inr r1)), some (.inr (.inr r2)), some (.inl x3), none, none, none, none] [] h _
  refine y_aload_n (i := 1) dX5_fits_0 rfl rfl ?_
  replace hf := bnd hf
  obtain ⟨a102, rfl, hf⟩ := hf
  replace hf := bnd hf
  obtain ⟨fs103, efs103, hf⟩ := hf
  replace hf := bnd hf
  obtain ⟨q101, eq101, hf⟩ := hf
  refine y_callV (mj := miX9_count) (args := []) (st := []) dX5_fits_1 (gd_of 499 rfl rfl) (gd_of 383 rfl rfl) (gd_of 384 rfl rfl) okX9_count (obO_spec efs103) rfl rfl (xX9_count (by omega) eq101) (Nat.le_of_ble_eq_true rfl) rfl ?_
  show Y l g miX5_fits (d + 1) 4 [some (.inr (.inr (some a0))), some (.inr (.inr (some a102))), some (.inr (.inr r2)), some (.inl x3), none, none, none, none] [.inl q101.1] q101.2 _
  refine y_aload_n (i := 2) dX5_fits_4 rfl rfl ?_
  replace hf := bnd hf
  obtain ⟨a105, rfl, hf⟩ := hf
  replace hf := bnd hf
  obtain ⟨fs106, efs106, hf⟩ := hf
  replace hf := bnd hf
  obtain ⟨q104, eq104, hf⟩ := hf
  refine y_callV (mj := miX8_count) (args := []) (st := [.inl q101.1]) dX5_fits_5 (gd_of 500 rfl rfl) (gd_of 314 rfl rfl) (gd_of 315 rfl rfl) okX8_count (obO_spec efs106) rfl rfl (xX8_count (by omega) eq104) (Nat.le_of_ble_eq_true rfl) rfl ?_
  show Y l g miX5_fits (d + 1) 8 [some (.inr (.inr (some a0))), some (.inr (.inr (some a102))), some (.inr (.inr (some a105))), some (.inl x3), none, none, none, none] [.inl q104.1, .inl q101.1] q104.2 _
  refine y_icmp_eq (tgt := 13) dX5_fits_8 (by decide) (fun hc => ?_) (fun hc => ?_)
  · rw [if_pos hc] at hf
    refine y_iconst (v := 0) dX5_fits_13 (by decide) ?_
    refine y_istore (i := 4) (lv2 := [some (.inr (.inr (some a0))), some (.inr (.inr (some a102))), some (.inr (.inr (some a105))), some (.inl x3), some (.inl 0), none, none, none]) dX5_fits_14 (by decide) rfl ?_
    refine Y.weak (lv2 := [none, some (.inr (.inr (some a102))), some (.inr (.inr (some a105))), some (.inl x3), some (.inl 0), none, none, none]) [false, true, true, true, true, false, false, false] rfl ?_
    exact xX5_fits_16 hK 4000 _ _ _ _ _ _ hf
  · rw [if_neg hc] at hf
    refine y_iconst (v := 0) dX5_fits_11 (by decide) ?_
    obtain rfl := Option.some.inj hf
    exact y_ret (v := some (.inl 0)) dX5_fits_12 rfl
set_option maxRecDepth 100000 in
theorem dX5_begin_0 : decode prog_7_method_2_code 0 = .ok (.aload_n 0, 1) := by decide +kernel
set_option maxRecDepth 100000 in
theorem dX5_begin_1 : decode prog_7_method_2_code 1 = .ok (.iconst 0, 1) := by decide +kernel
set_option maxRecDepth 100000 in
theorem dX5_begin_2 : decode prog_7_method_2_code 2 = .ok (.putfield 17, 3) := by decide +kernel
set_option maxRecDepth 100000 in
theorem dX5_begin_5 : decode prog_7_method_2_code 5 = .ok (.aload_n 0, 1) := by decide +kernel
set_option maxRecDepth 100000 in
theorem dX5_begin_6 : decode prog_7_method_2_code 6 = .ok (.aload_n 1, 1) := by decide +kernel
set_option maxRecDepth 100000 in
theorem dX5_begin_7 : decode prog_7_method_2_code 7 = .ok (.aload_n 2, 1) := by decide +kernel
set_option maxRecDepth 100000 in
theorem dX5_begin_8 : decode prog_7_method_2_code 8 = .ok (.iload_n 3, 1) := by decide +kernel
set_option maxRecDepth 100000 in
theorem dX5_begin_9 : decode prog_7_method_2_code 9 = .ok (.invokevirtual 36, 3) := by decide +kernel
set_option maxRecDepth 100000 in
theorem dX5_begin_12 : decode prog_7_method_2_code 12 = .ok (.ifCond .ne 6, 3) := by decide +kernel
set_option maxRecDepth 100000 in
theorem dX5_begin_15 : decode prog_7_method_2_code 15 = .ok (.bipush 7, 2) := by decide +kernel
set_option maxRecDepth 100000 in
theorem dX5_begin_17 : decode prog_7_method_2_code 17 = .ok (.ireturn, 1) := by decide +kernel
set_option maxRecDepth 100000 in
theorem dX5_begin_18 : decode prog_7_method_2_code 18 = .ok (.aload_n 0, 1) := by decide +kernel
set_option maxRecDepth 100000 in
theorem dX5_begin_19 : decode prog_7_method_2_code 19 = .ok (.getfield 11, 3) := by decide +kernel
set_option maxRecDepth 100000 in
theorem dX5_begin_22 : decode prog_7_method_2_code 22 = .ok (.iconst 0, 1) := by decide +kernel
set_option maxRecDepth 100000 in
theorem dX5_begin_23 : decode prog_7_method_2_code 23 = .ok (.aaload, 1) := by decide +kernel
set_option maxRecDepth 100000 in
theorem dX5_begin_24 : decode prog_7_method_2_code 24 = .ok (.astore 4, 2) := by decide +kernel
set_option maxRecDepth 100000 in
theorem dX5_begin_26 : decode prog_7_method_2_code 26 = .ok (.aload 4, 2) := by decide +kernel
set_option maxRecDepth 100000 in
theorem dX5_begin_28 : decode prog_7_method_2_code 28 = .ok (.iconst 0, 1) := by decide +kernel
set_option maxRecDepth 100000 in
theorem dX5_begin_29 : decode prog_7_method_2_code 29 = .ok (.invokevirtual 40, 3) := by decide +kernel
set_option maxRecDepth 100000 in
theorem dX5_begin_32 : decode prog_7_method_2_code 32 = .ok (.iconst 0, 1) := by decide +kernel
set_option maxRecDepth 100000 in
theorem dX5_begin_33 : decode prog_7_method_2_code 33 = .ok (.istore 5, 2) := by decide +kernel
set_option maxRecDepth 100000 in
theorem dX5_begin_35 : decode prog_7_method_2_code 35 = .ok (.iconst 0, 1) := by decide +kernel
set_option maxRecDepth 100000 in
theorem dX5_begin_36 : decode prog_7_method_2_code 36 = .ok (.istore 6, 2) := by decide +kernel
set_option maxRecDepth 100000 in
theorem dX5_begin_38 : decode prog_7_method_2_code 38 = .ok (.iload 6, 2) := by decide +kernel
set_option maxRecDepth 100000 in
theorem dX5_begin_40 : decode prog_7_method_2_code 40 = .ok (.aload_n 2, 1) := by decide +kernel
set_option maxRecDepth 100000 in
theorem dX5_begin_41 : decode prog_7_method_2_code 41 = .ok (.invokevirtual 44, 3) := by decide +kernel
set_option maxRecDepth 100000 in
theorem dX5_begin_44 : decode prog_7_method_2_code 44 = .ok (.if_icmp .ge 63, 3) := by decide +kernel
set_option maxRecDepth 100000 in
theorem dX5_begin_47 : decode prog_7_method_2_code 47 = .ok (.iload 5, 2) := by decide +kernel
set_option maxRecDepth 100000 in
theorem dX5_begin_49 : decode prog_7_method_2_code 49 = .ok (.ifCond .ne 58, 3) := by decide +kernel
set_option maxRecDepth 100000 in
theorem dX5_begin_52 : decode prog_7_method_2_code 52 = .ok (.iload_n 3, 1) := by decide +kernel
set_option maxRecDepth 100000 in
theorem dX5_begin_53 : decode prog_7_method_2_code 53 = .ok (.ifCond .eq 12, 3) := by decide +kernel
set_option maxRecDepth 100000 in
theorem dX5_begin_56 : decode prog_7_method_2_code 56 = .ok (.aload_n 2, 1) := by decide +kernel
set_option maxRecDepth 100000 in
theorem dX5_begin_57 : decode prog_7_method_2_code 57 = .ok (.iload 6, 2) := by decide +kernel
set_option maxRecDepth 100000 in
theorem dX5_begin_59 : decode prog_7_method_2_code 59 = .ok (.invokevirtual 50, 3) := by decide +kernel
set_option maxRecDepth 100000 in
theorem dX5_begin_62 : decode prog_7_method_2_code 62 = .ok (.goto 18, 3) := by decide +kernel
set_option maxRecDepth 100000 in
theorem dX5_begin_65 : decode prog_7_method_2_code 65 = .ok (.aload_n 1, 1) := by decide +kernel
set_option maxRecDepth 100000 in
theorem dX5_begin_66 : decode prog_7_method_2_code 66 = .ok (.iload 6, 2) := by decide +kernel
set_option maxRecDepth 100000 in
theorem dX5_begin_68 : decode prog_7_method_2_code 68 = .ok (.invokevirtual 54, 3) := by decide +kernel
set_option maxRecDepth 100000 in
theorem dX5_begin_71 : decode prog_7_method_2_code 71 = .ok (.aload_n 2, 1) := by decide +kernel
set_option maxRecDepth 100000 in
theorem dX5_begin_72 : decode prog_7_method_2_code 72 = .ok (.iload 6, 2) := by decide +kernel
set_option maxRecDepth 100000 in
theorem dX5_begin_74 : decode prog_7_method_2_code 74 = .ok (.invokevirtual 50, 3) := by decide +kernel
set_option maxRecDepth 100000 in
theorem dX5_begin_77 : decode prog_7_method_2_code 77 = .ok (.invokestatic 57, 3) := by decide +kernel
set_option maxRecDepth 100000 in
theorem dX5_begin_80 : decode prog_7_method_2_code 80 = .ok (.istore 7, 2) := by decide +kernel
set_option maxRecDepth 100000 in
theorem dX5_begin_82 : decode prog_7_method_2_code 82 = .ok (.aload_n 0, 1) := by decide +kernel
set_option maxRecDepth 100000 in
theorem dX5_begin_83 : decode prog_7_method_2_code 83 = .ok (.aload 4, 2) := by decide +kernel
set_option maxRecDepth 100000 in
theorem dX5_begin_85 : decode prog_7_method_2_code 85 = .ok (.aload_n 1, 1) := by decide +kernel
set_option maxRecDepth 100000 in
theorem dX5_begin_86 : decode prog_7_method_2_code 86 = .ok (.iload 6, 2) := by decide +kernel
set_option maxRecDepth 100000 in
theorem dX5_begin_88 : decode prog_7_method_2_code 88 = .ok (.iload 7, 2) := by decide +kernel
set_option maxRecDepth 100000 in
theorem dX5_begin_90 : decode prog_7_method_2_code 90 = .ok (.aload_n 2, 1) := by decide +kernel
set_option maxRecDepth 100000 in
theorem dX5_begin_91 : decode prog_7_method_2_code 91 = .ok (.iload 6, 2) := by decide +kernel
set_option maxRecDepth 100000 in
theorem dX5_begin_93 : decode prog_7_method_2_code 93 = .ok (.invokevirtual 50, 3) := by decide +kernel
set_option maxRecDepth 100000 in
theorem dX5_begin_96 : decode prog_7_method_2_code 96 = .ok (.invokevirtual 63, 3) := by decide +kernel
set_option maxRecDepth 100000 in
theorem dX5_begin_99 : decode prog_7_method_2_code 99 = .ok (.istore 5, 2) := by decide +kernel
set_option maxRecDepth 100000 in
theorem dX5_begin_101 : decode prog_7_method_2_code 101 = .ok (.iinc 6 1, 3) := by decide +kernel
set_option maxRecDepth 100000 in
theorem dX5_begin_104 : decode prog_7_method_2_code 104 = .ok (.goto (-66), 3) := by decide +kernel
set_option maxRecDepth 100000 in
theorem dX5_begin_107 : decode prog_7_method_2_code 107 = .ok (.iload 5, 2) := by decide +kernel
set_option maxRecDepth 100000 in
theorem dX5_begin_109 : decode prog_7_method_2_code 109 = .ok (.ireturn, 1) := by decide +kernel
set_option maxRecDepth 100000 in
theorem okX5_fits : mOk miX5_fits 3 := ⟨(gd_of 498 rfl rfl), (gd_of 75 rfl rfl), by decide +kernel, ⟨by decide +kernel, by decide +kernel, by decide +kernel⟩, by decide⟩
def fX5_begin_80 (z : Nat → Nat) (K38 : Nat → Option Nat → Option Nat → Int32 → Option Nat → Int32 → Int32 → aH → Option (Int32 × aH)) (a0 : Nat) (r1 : Option Nat) (r2 : Option Nat) (x3 : Int32) (r4 : Option Nat) (x6 : Int32) (sx0 : Int32) (h : aH) : Option (Int32 × aH) :=
  (r2).bind fun a102 =>
  (obO h a102 6).bind fun fs103 =>
  (fX8_at z a102 x6 h).bind fun q101 =>
  (obO q101.2 a0 4).bind fun fs105 =>
  (fX5_addAdapted z a0 r4 r1 x6 sx0 q101.1 q101.2).bind fun q104 =>
  K38 a0 r1 (some a102) x3 r4 q104.1 (x6 + 1) q104.2
set_option maxHeartbeats 4000000 in
set_option maxRecDepth 100000 in
theorem xX5_begin_80 {l : Launch} {g : aG} {d : Nat} (hK : 2 ≤ d + 1) {K38 : Nat → Option Nat → Option Nat → Int32 → Option Nat → Int32 → Int32 → aH → Option (Int32 × aH)} (hK38 : ∀ (a0 : Nat) (r1 : Option Nat) (r2 : Option Nat) (x3 : Int32) (r4 : Option Nat) (x5 : Int32) (x6 : Int32) (h : aH) (q : Int32 × aH), K38 a0 r1 r2 x3 r4 x5 x6 h = some q → Y l g miX5_begin (d + 1) 38 [some (.inr (.inr (some a0))), some (.inr (.inr r1)), some (.inr (.inr r2)), some (.inl x3), some (.inr (.inr r4)), some (.inl x5), some (.inl x6), none] [] h (some (.inl q.1), q.2)) {a0 : Nat} {r1 : Option Nat} {r2 : Option Nat} {x3 : Int32} {r4 : Option Nat} {x6 : Int32} {sx0 : Int32} {h : aH} {q : Int32 × aH} (hf : fX5_begin_80 g.2.2 K38 a0 r1 r2 x3 r4 x6 sx0 h = some q) : Y l g miX5_begin (d + 1) 80 [some (.inr (.inr (some a0))), some (.inr (.inr r1)), some (.inr (.inr r2)), some (.inl x3), some (.inr (.inr r4)), none, some (.inl x6), none] [.inl sx0] h (some (.inl q.1), q.2) := by
  unfold fX5_begin_80 at hf
  refine y_istore (i := 7) (lv2 := [some (.inr (.inr (some a0))), some (.inr (.inr r1)), some (.inr (.inr r2)), some (.inl x3), some (.inr (.inr r4)), none, some (.inl x6), some (.inl sx0)]) dX5_begin_80 (by decide) rfl ?_
  refine y_aload_n (i := 0) dX5_begin_82 rfl rfl ?_
  refine y_aload (i := 4) dX5_begin_83 rfl ?_
  refine y_aload_n (i := 1) dX5_begin_85 rfl rfl ?_
  refine y_iload (i := 6) dX5_begin_86 rfl ?_
  refine y_iload (i := 7) dX5_begin_88 rfl ?_
  refine y_aload_n (i := 2) dX5_begin_90 rfl rfl ?_
  refine y_iload (i := 6) dX5_begin_91 rfl ?_
  replace hf := bnd hf
  obtain ⟨a102, rfl, hf⟩ := hf
  replace hf := bnd hf
  obtain ⟨fs103, efs103, hf⟩ := hf
  replace hf := bnd hf
  obtain ⟨q101, eq101, hf⟩ := hf
  refine y_callV (mj := miX8_at) (args := [.inl x6]) (st := [.inl sx0, .inl x6, .inr (.inr r1), .inr (.inr r4), .inr (.inr (some a0))]) dX5_begin_93 (gd_of 502 rfl rfl) (gd_of 340 rfl rfl) (gd_of 341 rfl rfl) okX8_at (obO_spec efs103) rfl rfl (xX8_at (by omega) eq101) (Nat.le_of_ble_eq_true rfl) rfl ?_
  show Y l g miX5_begin (d + 1) 96 [some (.inr (.inr (some a0))), some (.inr (.inr r1)), some (.inr (.inr (some a102))), some (.inl x3), some (.inr (.inr r4)), none, some (.inl x6), some (.inl sx0)] [.inl q101.1, .inl sx0, .inl x6, .inr (.inr r1), .inr (.inr r4), .inr (.inr (some a0))] q101.2 _
  replace hf := bnd hf
  obtain ⟨fs105, efs105, hf⟩ := hf
  replace hf := bnd hf
  obtain ⟨q104, eq104, hf⟩ := hf
  refine y_callV (mj := miX5_addAdapted) (args := [.inr (.inr r4), .inr (.inr r1), .inl x6, .inl sx0, .inl q101.1]) (st := []) dX5_begin_96 (gd_of 509 rfl rfl) (gd_of 511 rfl rfl) (gd_of 6 rfl rfl) okX5_addAdapted (obO_spec efs105) rfl rfl (xX5_addAdapted (by omega) eq104) (Nat.le_of_ble_eq_true rfl) rfl ?_
  show Y l g miX5_begin (d + 1) 99 [some (.inr (.inr (some a0))), some (.inr (.inr r1)), some (.inr (.inr (some a102))), some (.inl x3), some (.inr (.inr r4)), none, some (.inl x6), some (.inl sx0)] [.inl q104.1] q104.2 _
  refine y_istore (i := 5) (lv2 := [some (.inr (.inr (some a0))), some (.inr (.inr r1)), some (.inr (.inr (some a102))), some (.inl x3), some (.inr (.inr r4)), some (.inl q104.1), some (.inl x6), some (.inl sx0)]) dX5_begin_99 (by decide) rfl ?_
  refine y_iinc (i := 6) (y := 1) (lv2 := [some (.inr (.inr (some a0))), some (.inr (.inr r1)), some (.inr (.inr (some a102))), some (.inl x3), some (.inr (.inr r4)), some (.inl q104.1), some (.inl (x6 + 1)), some (.inl sx0)]) dX5_begin_101 rfl (by decide) (by decide) rfl ?_
  refine y_goto (tgt := 38) dX5_begin_104 (by decide) ?_
  refine Y.weak (lv2 := [some (.inr (.inr (some a0))), some (.inr (.inr r1)), some (.inr (.inr (some a102))), some (.inl x3), some (.inr (.inr r4)), some (.inl q104.1), some (.inl (x6 + 1)), none]) [true, true, true, true, true, true, true, false] rfl ?_
  exact hK38 _ _ _ _ _ _ _ _ _ hf
def fX5_begin_38 (z : Nat → Nat) : Nat → Nat → Option Nat → Option Nat → Int32 → Option Nat → Int32 → Int32 → aH → Option (Int32 × aH)
  | 0, _, _, _, _, _, _, _, _ => none
  | n + 1, a0, r1, r2, x3, r4, x5, x6, h => (r2).bind fun a102 =>
  (obO h a102 6).bind fun fs103 =>
  (fX8_count z a102 h).bind fun q101 =>
  (if q101.1 ≤ x6 then
  some (x5, q101.2)
  else
  (if x5 = 0 then
  (if x3 = 0 then
  (r1).bind fun a105 =>
  (obO q101.2 a105 7).bind fun fs106 =>
  (fX9_kindAt z a105 x6 q101.2).bind fun q104 =>
  (obO q104.2 a102 6).bind fun fs108 =>
  (fX8_at z a102 x6 q104.2).bind fun q107 =>
  (fX0_typeOf z q104.1 q107.1 q107.2).bind fun q109 =>
  fX5_begin_80 z (fX5_begin_38 z n) a0 (some a105) (some a102) x3 r4 x6 q109.1 q109.2
  else
  (obO q101.2 a102 6).bind fun fs111 =>
  (fX8_at z a102 x6 q101.2).bind fun q110 =>
  fX5_begin_80 z (fX5_begin_38 z n) a0 r1 (some a102) x3 r4 x6 q110.1 q110.2)
  else
  some (x5, q101.2)))
set_option maxHeartbeats 4000000 in
set_option maxRecDepth 100000 in
theorem xX5_begin_38 {l : Launch} {g : aG} {d : Nat} (hK : 2 ≤ d + 1) : ∀ (n : Nat) (a0 : Nat) (r1 : Option Nat) (r2 : Option Nat) (x3 : Int32) (r4 : Option Nat) (x5 : Int32) (x6 : Int32) (h : aH) (q : Int32 × aH), fX5_begin_38 g.2.2 n a0 r1 r2 x3 r4 x5 x6 h = some q → Y l g miX5_begin (d + 1) 38 [some (.inr (.inr (some a0))), some (.inr (.inr r1)), some (.inr (.inr r2)), some (.inl x3), some (.inr (.inr r4)), some (.inl x5), some (.inl x6), none] [] h (some (.inl q.1), q.2) := by
  intro n
  induction n with
  | zero => intro a0 r1 r2 x3 r4 x5 x6 h q hf; simp [fX5_begin_38] at hf
  | succ n ih =>
    intro a0 r1 r2 x3 r4 x5 x6 h q hf
    rw [fX5_begin_38] at hf
    refine y_iload (i := 6) dX5_begin_38 rfl ?_
    refine y_aload_n (i := 2) dX5_begin_40 rfl rfl ?_
    replace hf := bnd hf
    obtain ⟨a102, rfl, hf⟩ := hf
    replace hf := bnd hf
    obtain ⟨fs103, efs103, hf⟩ := hf
    replace hf := bnd hf
    obtain ⟨q101, eq101, hf⟩ := hf
    refine y_callV (mj := miX8_count) (args := []) (st := [.inl x6]) dX5_begin_41 (gd_of 500 rfl rfl) (gd_of 314 rfl rfl) (gd_of 315 rfl rfl) okX8_count (obO_spec efs103) rfl rfl (xX8_count (by omega) eq101) (Nat.le_of_ble_eq_true rfl) rfl ?_
    show Y l g miX5_begin (d + 1) 44 [some (.inr (.inr (some a0))), some (.inr (.inr r1)), some (.inr (.inr (some a102))), some (.inl x3), some (.inr (.inr r4)), some (.inl x5), some (.inl x6), none] [.inl q101.1, .inl x6] q101.2 _
    refine y_icmp_ge (tgt := 107) dX5_begin_44 (by decide) (fun hc => ?_) (fun hc => ?_)
    · rw [if_pos hc] at hf
      refine y_iload (i := 5) dX5_begin_107 rfl ?_
      obtain rfl := Option.some.inj hf
      exact y_ret (v := some (.inl x5)) dX5_begin_109 rfl
    · rw [if_neg hc] at hf
      refine y_iload (i := 5) dX5_begin_47 rfl ?_
      refine y_if_ne (tgt := 107) dX5_begin_49 (by decide) (fun hc => ?_) (fun hc => ?_)
      · rw [if_neg hc] at hf
        refine y_iload (i := 5) dX5_begin_107 rfl ?_
        obtain rfl := Option.some.inj hf
        exact y_ret (v := some (.inl x5)) dX5_begin_109 rfl
      · rw [if_pos hc] at hf
        refine y_iload_n (i := 3) dX5_begin_52 rfl rfl ?_
        refine y_if_eq (tgt := 65) dX5_begin_53 (by decide) (fun hc => ?_) (fun hc => ?_)
        · rw [if_pos hc] at hf
          refine y_aload_n (i := 1) dX5_begin_65 rfl rfl ?_
          refine y_iload (i := 6) dX5_begin_66 rfl ?_
          replace hf := bnd hf
          obtain ⟨a105, rfl, hf⟩ := hf
          replace hf := bnd hf
          obtain ⟨fs106, efs106, hf⟩ := hf
          replace hf := bnd hf
          obtain ⟨q104, eq104, hf⟩ := hf
          refine y_callV (mj := miX9_kindAt) (args := [.inl x6]) (st := []) dX5_begin_68 (gd_of 501 rfl rfl) (gd_of 387 rfl rfl) (gd_of 388 rfl rfl) okX9_kindAt (obO_spec efs106) rfl rfl (xX9_kindAt (by omega) eq104) (Nat.le_of_ble_eq_true rfl) rfl ?_
          show Y l g miX5_begin (d + 1) 71 [some (.inr (.inr (some a0))), some (.inr (.inr (some a105))), some (.inr (.inr (some a102))), some (.inl x3), some (.inr (.inr r4)), some (.inl x5), some (.inl x6), none] [.inl q104.1] q104.2 _
          refine y_aload_n (i := 2) dX5_begin_71 rfl rfl ?_
          refine y_iload (i := 6) dX5_begin_72 rfl ?_
          replace hf := bnd hf
          obtain ⟨fs108, efs108, hf⟩ := hf
          replace hf := bnd hf
          obtain ⟨q107, eq107, hf⟩ := hf
          refine y_callV (mj := miX8_at) (args := [.inl x6]) (st := [.inl q104.1]) dX5_begin_74 (gd_of 502 rfl rfl) (gd_of 340 rfl rfl) (gd_of 341 rfl rfl) okX8_at (obO_spec efs108) rfl rfl (xX8_at (by omega) eq107) (Nat.le_of_ble_eq_true rfl) rfl ?_
          show Y l g miX5_begin (d + 1) 77 [some (.inr (.inr (some a0))), some (.inr (.inr (some a105))), some (.inr (.inr (some a102))), some (.inl x3), some (.inr (.inr r4)), some (.inl x5), some (.inl x6), none] [.inl q107.1, .inl q104.1] q107.2 _
          replace hf := bnd hf
          obtain ⟨q109, eq109, hf⟩ := hf
          refine y_callS (mj := miX0_typeOf) (args := [.inl q104.1, .inl q107.1]) (st := []) dX5_begin_77 (gd_of 506 rfl rfl) (gd_of 391 rfl rfl) okX0_typeOf (xX0_typeOf (by omega) eq109) (Nat.le_of_ble_eq_true rfl) rfl ?_
          show Y l g miX5_begin (d + 1) 80 [some (.inr (.inr (some a0))), some (.inr (.inr (some a105))), some (.inr (.inr (some a102))), some (.inl x3), some (.inr (.inr r4)), some (.inl x5), some (.inl x6), none] [.inl q109.1] q109.2 _
          refine Y.weak (lv2 := [some (.inr (.inr (some a0))), some (.inr (.inr (some a105))), some (.inr (.inr (some a102))), some (.inl x3), some (.inr (.inr r4)), none, some (.inl x6), none]) [true, true, true, true, true, false, true, false] rfl ?_
          exact xX5_begin_80 hK ih hf
        · rw [if_neg hc] at hf
          refine y_aload_n (i := 2) dX5_begin_56 rfl rfl ?_
          refine y_iload (i := 6) dX5_begin_57 rfl ?_
          replace hf := bnd hf
          obtain ⟨fs111, efs111, hf⟩ := hf
          replace hf := bnd hf
          obtain ⟨q110, eq110, hf⟩ := hf
          refine y_callV (mj := miX8_at) (args := [.inl x6]) (st := []) dX5_begin_59 (gd_of 502 rfl rfl) (gd_of 340 rfl rfl) (gd_of 341 rfl rfl) okX8_at (obO_spec efs111) rfl rfl (xX8_at (by omega) eq110) (Nat.le_of_ble_eq_true rfl) rfl ?_
          show Y l g miX5_begin (d + 1) 62 [some (.inr (.inr (some a0))), some (.inr (.inr r1)), some (.inr (.inr (some a102))), some (.inl x3), some (.inr (.inr r4)), some (.inl x5), some (.inl x6), none] [.inl q110.1] q110.2 _
          refine y_goto (tgt := 80) dX5_begin_62 (by decide) ?_
          refine Y.weak (lv2 := [some (.inr (.inr (some a0))), some (.inr (.inr r1)), some (.inr (.inr (some a102))), some (.inl x3), some (.inr (.inr r4)), none, some (.inl x6), none]) [true, true, true, true, true, false, true, false] rfl ?_
          exact xX5_begin_80 hK ih hf
def fX5_begin (z : Nat → Nat) (a0 : Nat) (r1 : Option Nat) (r2 : Option Nat) (x3 : Int32) (h : aH) : Option (Int32 × aH) :=
  (wrF h a0 [4] 2 (.inl 0)).bind fun h101 =>
  (obO h101 a0 4).bind fun fs103 =>
  (fX5_fits z a0 r1 r2 x3 h101).bind fun q102 =>
  (if q102.1 = 0 then
  some (7, q102.2)
  else
  (rdR q102.2 a0 [4] 1).bind fun r104 =>
  (r104).bind fun a105 =>
  (arR q102.2 a105 0).bind fun r106 =>
  (r106).bind fun a108 =>
  (obO q102.2 a108 7).bind fun fs109 =>
  (fX9_cutTo z a108 0 q102.2).bind fun q107 =>
  fX5_begin_38 z 4000 a0 r1 r2 x3 (some a108) 0 0 q107)
set_option maxHeartbeats 4000000 in
set_option maxRecDepth 100000 in
theorem xX5_begin {l : Launch} {g : aG} {d : Nat} (hK : 2 ≤ d) {a0 : Nat} {r1 : Option Nat} {r2 : Option Nat} {x3 : Int32} {h : aH} {q : Int32 × aH} (hf : fX5_begin g.2.2 a0 r1 r2 x3 h = some q) : Ev l g miX5_begin d [.inr (.inr (some a0)), .inr (.inr r1), .inr (.inr r2), .inl x3] h (some (.inl q.1), q.2) := by
  obtain ⟨d, rfl⟩ : ∃ e, d = e + 1 := ⟨d - 1, by omega⟩
  refine ⟨?_, Or.inl rfl, Nat.le_of_ble_eq_true rfl⟩
  unfold fX5_begin at hf
  show Y l g miX5_begin (d + 1) 0 [some (.inr (.inr (some a0))), some (.inr (.inr r1)), some (.inr (.inr r2)), some (.inl x3), none, none, none, none] [] h _
  refine y_aload_n (i := 0) dX5_begin_0 rfl rfl ?_
  refine y_iconst (v := 0) dX5_begin_1 (by decide) ?_
  replace hf := bnd hf
  obtain ⟨h101, eh101, hf⟩ := hf
  refine y_put eh101 (pl5_17_m rfl) dX5_begin_2 ?_
  refine y_aload_n (i := 0) dX5_begin_5 rfl rfl ?_
  refine y_aload_n (i := 1) dX5_begin_6 rfl rfl ?_
  refine y_aload_n (i := 2) dX5_begin_7 rfl rfl ?_
  refine y_iload_n (i := 3) dX5_begin_8 rfl rfl ?_
  replace hf := bnd hf
  obtain ⟨fs103, efs103, hf⟩ := hf
  replace hf := bnd hf
  obtain ⟨q102, eq102, hf⟩ := hf
  refine y_callV (mj := miX5_fits) (args := [.inr (.inr r1), .inr (.inr r2), .inl x3]) (st := []) dX5_begin_9 (gd_of 495 rfl rfl) (gd_of 497 rfl rfl) (gd_of 5 rfl rfl) okX5_fits (obO_spec efs103) rfl rfl (xX5_fits (by omega) eq102) (Nat.le_of_ble_eq_true rfl) rfl ?_
  show Y l g miX5_begin (d + 1) 12 [some (.inr (.inr (some a0))), some (.inr (.inr r1)), some (.inr (.inr r2)), some (.inl x3), none, none, none, none] [.inl q102.1] q102.2 _
  refine y_if_ne (tgt := 18) dX5_begin_12 (by decide) (fun hc => ?_) (fun hc => ?_)
  · rw [if_neg hc] at hf
    refine y_aload_n (i := 0) dX5_begin_18 rfl rfl ?_
    replace hf := bnd hf
    obtain ⟨r104, er104, hf⟩ := hf
    refine y_getR er104 fl5_11 dX5_begin_19 ?_
    refine y_iconst (v := 0) dX5_begin_22 (by decide) ?_
    replace hf := bnd hf
    obtain ⟨a105, rfl, hf⟩ := hf
    replace hf := bnd hf
    obtain ⟨r106, er106, hf⟩ := hf
    refine y_aaload er106 dX5_begin_23 ?_
    refine y_astore (i := 4) (lv2 := [some (.inr (.inr (some a0))), some (.inr (.inr r1)), some (.inr (.inr r2)), some (.inl x3), some (.inr (.inr r106)), none, none, none]) dX5_begin_24 (by decide) rfl ?_
    refine y_aload (i := 4) dX5_begin_26 rfl ?_
    refine y_iconst (v := 0) dX5_begin_28 (by decide) ?_
    replace hf := bnd hf
    obtain ⟨a108, rfl, hf⟩ := hf
    replace hf := bnd hf
    obtain ⟨fs109, efs109, hf⟩ := hf
    replace hf := bnd hf
    obtain ⟨q107, eq107, hf⟩ := hf
    refine y_callV (mj := miX9_cutTo) (args := [.inl 0]) (st := []) dX5_begin_29 (gd_of 508 rfl rfl) (gd_of 476 rfl rfl) (gd_of 477 rfl rfl) okX9_cutTo (obO_spec efs109) rfl rfl (xX9_cutTo (by omega) eq107) (Nat.le_of_ble_eq_true rfl) rfl ?_
    show Y l g miX5_begin (d + 1) 32 [some (.inr (.inr (some a0))), some (.inr (.inr r1)), some (.inr (.inr r2)), some (.inl x3), some (.inr (.inr (some a108))), none, none, none] [] q107 _
    refine y_iconst (v := 0) dX5_begin_32 (by decide) ?_
    refine y_istore (i := 5) (lv2 := [some (.inr (.inr (some a0))), some (.inr (.inr r1)), some (.inr (.inr r2)), some (.inl x3), some (.inr (.inr (some a108))), some (.inl 0), none, none]) dX5_begin_33 (by decide) rfl ?_
    refine y_iconst (v := 0) dX5_begin_35 (by decide) ?_
    refine y_istore (i := 6) (lv2 := [some (.inr (.inr (some a0))), some (.inr (.inr r1)), some (.inr (.inr r2)), some (.inl x3), some (.inr (.inr (some a108))), some (.inl 0), some (.inl 0), none]) dX5_begin_36 (by decide) rfl ?_
    refine Y.weak (lv2 := [some (.inr (.inr (some a0))), some (.inr (.inr r1)), some (.inr (.inr r2)), some (.inl x3), some (.inr (.inr (some a108))), some (.inl 0), some (.inl 0), none]) [true, true, true, true, true, true, true, false] rfl ?_
    exact xX5_begin_38 hK 4000 _ _ _ _ _ _ _ _ _ hf
  · rw [if_pos hc] at hf
    refine y_bipush (v := 7) dX5_begin_15 (by decide) ?_
    obtain rfl := Option.some.inj hf
    exact y_ret (v := some (.inl 7)) dX5_begin_17 rfl
set_option maxRecDepth 100000 in
theorem dX10_run_0 : decode prog_1_method_9_code 0 = .ok (.aload_n 0, 1) := by decide +kernel
set_option maxRecDepth 100000 in
theorem dX10_run_1 : decode prog_1_method_9_code 1 = .ok (.iload_n 1, 1) := by decide +kernel
set_option maxRecDepth 100000 in
theorem dX10_run_2 : decode prog_1_method_9_code 2 = .ok (.invokevirtual 82, 3) := by decide +kernel
set_option maxRecDepth 100000 in
theorem dX10_run_5 : decode prog_1_method_9_code 5 = .ok (.astore_n 3, 1) := by decide +kernel
set_option maxRecDepth 100000 in
theorem dX10_run_6 : decode prog_1_method_9_code 6 = .ok (.aload_n 3, 1) := by decide +kernel
set_option maxRecDepth 100000 in
theorem dX10_run_7 : decode prog_1_method_9_code 7 = .ok (.ifnonnull 6, 3) := by decide +kernel
set_option maxRecDepth 100000 in
theorem dX10_run_10 : decode prog_1_method_9_code 10 = .ok (.bipush (-2), 2) := by decide +kernel
set_option maxRecDepth 100000 in
theorem dX10_run_12 : decode prog_1_method_9_code 12 = .ok (.ireturn, 1) := by decide +kernel
set_option maxRecDepth 100000 in
theorem dX10_run_13 : decode prog_1_method_9_code 13 = .ok (.aload_n 0, 1) := by decide +kernel
set_option maxRecDepth 100000 in
theorem dX10_run_14 : decode prog_1_method_9_code 14 = .ok (.getfield 47, 3) := by decide +kernel
set_option maxRecDepth 100000 in
theorem dX10_run_17 : decode prog_1_method_9_code 17 = .ok (.aload_n 0, 1) := by decide +kernel
set_option maxRecDepth 100000 in
theorem dX10_run_18 : decode prog_1_method_9_code 18 = .ok (.getfield 38, 3) := by decide +kernel
set_option maxRecDepth 100000 in
theorem dX10_run_21 : decode prog_1_method_9_code 21 = .ok (.aload_n 3, 1) := by decide +kernel
set_option maxRecDepth 100000 in
theorem dX10_run_22 : decode prog_1_method_9_code 22 = .ok (.getfield 106, 3) := by decide +kernel
set_option maxRecDepth 100000 in
theorem dX10_run_25 : decode prog_1_method_9_code 25 = .ok (.iload_n 2, 1) := by decide +kernel
set_option maxRecDepth 100000 in
theorem dX10_run_26 : decode prog_1_method_9_code 26 = .ok (.invokevirtual 158, 3) := by decide +kernel
set_option maxRecDepth 100000 in
theorem dX10_run_29 : decode prog_1_method_9_code 29 = .ok (.istore 4, 2) := by decide +kernel
set_option maxRecDepth 100000 in
theorem dX10_run_31 : decode prog_1_method_9_code 31 = .ok (.iload 4, 2) := by decide +kernel
set_option maxRecDepth 100000 in
theorem dX10_run_33 : decode prog_1_method_9_code 33 = .ok (.ifCond .ne 14, 3) := by decide +kernel
set_option maxRecDepth 100000 in
theorem dX10_run_36 : decode prog_1_method_9_code 36 = .ok (.aload_n 0, 1) := by decide +kernel
set_option maxRecDepth 100000 in
theorem dX10_run_37 : decode prog_1_method_9_code 37 = .ok (.getfield 47, 3) := by decide +kernel
set_option maxRecDepth 100000 in
theorem dX10_run_40 : decode prog_1_method_9_code 40 = .ok (.aload_n 3, 1) := by decide +kernel
set_option maxRecDepth 100000 in
theorem dX10_run_41 : decode prog_1_method_9_code 41 = .ok (.iconst 0, 1) := by decide +kernel
set_option maxRecDepth 100000 in
theorem dX10_run_42 : decode prog_1_method_9_code 42 = .ok (.invokevirtual 162, 3) := by decide +kernel
set_option maxRecDepth 100000 in
theorem dX10_run_45 : decode prog_1_method_9_code 45 = .ok (.istore 4, 2) := by decide +kernel
set_option maxRecDepth 100000 in
theorem dX10_run_47 : decode prog_1_method_9_code 47 = .ok (.aload_n 0, 1) := by decide +kernel
set_option maxRecDepth 100000 in
theorem dX10_run_48 : decode prog_1_method_9_code 48 = .ok (.iload 4, 2) := by decide +kernel
set_option maxRecDepth 100000 in
theorem dX10_run_50 : decode prog_1_method_9_code 50 = .ok (.invokevirtual 166, 3) := by decide +kernel
set_option maxRecDepth 100000 in
theorem dX10_run_53 : decode prog_1_method_9_code 53 = .ok (.ireturn, 1) := by decide +kernel
set_option maxRecDepth 100000 in
theorem okX5_begin : mOk miX5_begin 3 := ⟨(gd_of 494 rfl rfl), (gd_of 75 rfl rfl), by decide +kernel, ⟨by decide +kernel, by decide +kernel, by decide +kernel⟩, by decide⟩
set_option maxRecDepth 100000 in
theorem okX10_endRun : mOk miX10_endRun 1 := ⟨(gd_of 653 rfl rfl), (gd_of 72 rfl rfl), by decide +kernel, ⟨by decide +kernel, by decide +kernel, by decide +kernel⟩, by decide⟩
def fX10_run (z : Nat → Nat) (a0 : Nat) (x1 : Int32) (x2 : Int32) (h : aH) : Option (Int32 × aH) :=
  (obO h a0 8).bind fun fs102 =>
  (fX10_handleAt z a0 x1 h).bind fun q101 =>
  (Option.elim q101.1
  (some ((-2), q101.2))
  fun a103 =>
  (rdR q101.2 a0 [8] 6).bind fun r104 =>
  (rdR q101.2 a0 [8] 5).bind fun r105 =>
  (rdR q101.2 a103 [0, 1] 1).bind fun r106 =>
  (r104).bind fun a108 =>
  (obO q101.2 a108 4).bind fun fs109 =>
  (fX5_begin z a108 r105 r106 x2 q101.2).bind fun q107 =>
  (if q107.1 = 0 then
  (rdR q107.2 a0 [8] 6).bind fun r112 =>
  (r112).bind fun a114 =>
  (obO q107.2 a114 4).bind fun fs115 =>
  (fX5_perform z 70 a114 (some a103) 0 q107.2).bind fun q113 =>
  (obO q113.2 a0 8).bind fun fs117 =>
  (fX10_endRun z a0 q113.1 q113.2).bind fun q116 =>
  some (q116.1, q116.2)
  else
  (obO q107.2 a0 8).bind fun fs111 =>
  (fX10_endRun z a0 q107.1 q107.2).bind fun q110 =>
  some (q110.1, q110.2)))
set_option maxHeartbeats 4000000 in
set_option maxRecDepth 100000 in
theorem xX10_run {l : Launch} {g : aG} {d : Nat} (hK : 351 ≤ d) {a0 : Nat} {x1 : Int32} {x2 : Int32} {h : aH} {q : Int32 × aH} (hf : fX10_run g.2.2 a0 x1 x2 h = some q) : Ev l g miX10_run d [.inr (.inr (some a0)), .inl x1, .inl x2] h (some (.inl q.1), q.2) := by
  obtain ⟨d, rfl⟩ : ∃ e, d = e + 1 := ⟨d - 1, by omega⟩
  refine ⟨?_, Or.inl rfl, Nat.le_of_ble_eq_true rfl⟩
  unfold fX10_run at hf
  show Y l g miX10_run (d + 1) 0 [some (.inr (.inr (some a0))), some (.inl x1), some (.inl x2), none, none] [] h _
  refine y_aload_n (i := 0) dX10_run_0 rfl rfl ?_
  refine y_iload_n (i := 1) dX10_run_1 rfl rfl ?_
  replace hf := bnd hf
  obtain ⟨fs102, efs102, hf⟩ := hf
  replace hf := bnd hf
  obtain ⟨q101, eq101, hf⟩ := hf
  refine y_callV (mj := miX10_handleAt) (args := [.inl x1]) (st := []) dX10_run_2 (gd_of 263 rfl rfl) (gd_of 265 rfl rfl) (gd_of 1 rfl rfl) okX10_handleAt (obO_spec efs102) rfl rfl (xX10_handleAt (by omega) eq101) (Nat.le_of_ble_eq_true rfl) rfl ?_
  show Y l g miX10_run (d + 1) 5 [some (.inr (.inr (some a0))), some (.inl x1), some (.inl x2), none, none] [.inr (.inr q101.1)] q101.2 _
  refine y_astore_n (i := 3) (lv2 := [some (.inr (.inr (some a0))), some (.inl x1), some (.inl x2), some (.inr (.inr q101.1)), none]) dX10_run_5 rfl (by decide) rfl ?_
  refine y_aload_n (i := 3) dX10_run_6 rfl rfl ?_
  refine y_ifnonnull (tgt := 13) dX10_run_7 (by decide) (fun hc => ?_) (fun a103 hc => ?_)
  · rw [hc] at hf; rw [hc]; rw [Option.elim_none] at hf
    refine y_bipush (v := (-2)) dX10_run_10 (by decide) ?_
    obtain rfl := Option.some.inj hf
    exact y_ret (v := some (.inl (-2))) dX10_run_12 rfl
  · rw [hc] at hf; rw [hc]; rw [Option.elim_some] at hf
    refine y_aload_n (i := 0) dX10_run_13 rfl rfl ?_
    replace hf := bnd hf
    obtain ⟨r104, er104, hf⟩ := hf
    refine y_getR er104 fl10_47 dX10_run_14 ?_
    refine y_aload_n (i := 0) dX10_run_17 rfl rfl ?_
    replace hf := bnd hf
    obtain ⟨r105, er105, hf⟩ := hf
    refine y_getR er105 fl10_38 dX10_run_18 ?_
    refine y_aload_n (i := 3) dX10_run_21 rfl rfl ?_
    replace hf := bnd hf
    obtain ⟨r106, er106, hf⟩ := hf
    refine y_getR er106 fl10_106 dX10_run_22 ?_
    refine y_iload_n (i := 2) dX10_run_25 rfl rfl ?_
    replace hf := bnd hf
    obtain ⟨a108, rfl, hf⟩ := hf
    replace hf := bnd hf
    obtain ⟨fs109, efs109, hf⟩ := hf
    replace hf := bnd hf
    obtain ⟨q107, eq107, hf⟩ := hf
    refine y_callV (mj := miX5_begin) (args := [.inr (.inr r105), .inr (.inr r106), .inl x2]) (st := []) dX10_run_26 (gd_of 491 rfl rfl) (gd_of 492 rfl rfl) (gd_of 493 rfl rfl) okX5_begin (obO_spec efs109) rfl rfl (xX5_begin (by omega) eq107) (Nat.le_of_ble_eq_true rfl) rfl ?_
    show Y l g miX10_run (d + 1) 29 [some (.inr (.inr (some a0))), some (.inl x1), some (.inl x2), some (.inr (.inr (some a103))), none] [.inl q107.1] q107.2 _
    refine y_istore (i := 4) (lv2 := [some (.inr (.inr (some a0))), some (.inl x1), some (.inl x2), some (.inr (.inr (some a103))), some (.inl q107.1)]) dX10_run_29 (by decide) rfl ?_
    refine y_iload (i := 4) dX10_run_31 rfl ?_
    refine y_if_ne (tgt := 47) dX10_run_33 (by decide) (fun hc => ?_) (fun hc => ?_)
    · rw [if_neg hc] at hf
      refine y_aload_n (i := 0) dX10_run_47 rfl rfl ?_
      refine y_iload (i := 4) dX10_run_48 rfl ?_
      replace hf := bnd hf
      obtain ⟨fs111, efs111, hf⟩ := hf
      replace hf := bnd hf
      obtain ⟨q110, eq110, hf⟩ := hf
      refine y_callV (mj := miX10_endRun) (args := [.inl q107.1]) (st := []) dX10_run_50 (gd_of 650 rfl rfl) (gd_of 652 rfl rfl) (gd_of 32 rfl rfl) okX10_endRun (obO_spec efs111) rfl rfl (xX10_endRun (by omega) eq110) (Nat.le_of_ble_eq_true rfl) rfl ?_
      show Y l g miX10_run (d + 1) 53 [some (.inr (.inr (some a0))), some (.inl x1), some (.inl x2), some (.inr (.inr (some a103))), some (.inl q107.1)] [.inl q110.1] q110.2 _
      obtain rfl := Option.some.inj hf
      exact y_ret (v := some (.inl q110.1)) dX10_run_53 rfl
    · rw [if_pos hc] at hf
      refine y_aload_n (i := 0) dX10_run_36 rfl rfl ?_
      replace hf := bnd hf
      obtain ⟨r112, er112, hf⟩ := hf
      refine y_getR er112 fl10_47 dX10_run_37 ?_
      refine y_aload_n (i := 3) dX10_run_40 rfl rfl ?_
      refine y_iconst (v := 0) dX10_run_41 (by decide) ?_
      replace hf := bnd hf
      obtain ⟨a114, rfl, hf⟩ := hf
      replace hf := bnd hf
      obtain ⟨fs115, efs115, hf⟩ := hf
      replace hf := bnd hf
      obtain ⟨q113, eq113, hf⟩ := hf
      refine y_callV (mj := miX5_perform) (args := [.inr (.inr (some a103)), .inl 0]) (st := []) dX10_run_42 (gd_of 518 rfl rfl) (gd_of 519 rfl rfl) (gd_of 520 rfl rfl) okX5_perform (obO_spec efs115) rfl rfl (xX5_perform 70 _ (by omega) _ _ _ _ _ eq113) (Nat.le_of_ble_eq_true rfl) rfl ?_
      show Y l g miX10_run (d + 1) 45 [some (.inr (.inr (some a0))), some (.inl x1), some (.inl x2), some (.inr (.inr (some a103))), some (.inl q107.1)] [.inl q113.1] q113.2 _
      refine y_istore (i := 4) (lv2 := [some (.inr (.inr (some a0))), some (.inl x1), some (.inl x2), some (.inr (.inr (some a103))), some (.inl q113.1)]) dX10_run_45 (by decide) rfl ?_
      refine y_aload_n (i := 0) dX10_run_47 rfl rfl ?_
      refine y_iload (i := 4) dX10_run_48 rfl ?_
      replace hf := bnd hf
      obtain ⟨fs117, efs117, hf⟩ := hf
      replace hf := bnd hf
      obtain ⟨q116, eq116, hf⟩ := hf
      refine y_callV (mj := miX10_endRun) (args := [.inl q113.1]) (st := []) dX10_run_50 (gd_of 650 rfl rfl) (gd_of 652 rfl rfl) (gd_of 32 rfl rfl) okX10_endRun (obO_spec efs117) rfl rfl (xX10_endRun (by omega) eq116) (Nat.le_of_ble_eq_true rfl) rfl ?_
      show Y l g miX10_run (d + 1) 53 [some (.inr (.inr (some a0))), some (.inl x1), some (.inl x2), some (.inr (.inr (some a103))), some (.inl q113.1)] [.inl q116.1] q116.2 _
      obtain rfl := Option.some.inj hf
      exact y_ret (v := some (.inl q116.1)) dX10_run_53 rfl
set_option maxRecDepth 100000 in
theorem dX10_runSite_0 : decode prog_1_method_11_code 0 = .ok (.aload_n 0, 1) := by decide +kernel
set_option maxRecDepth 100000 in
theorem dX10_runSite_1 : decode prog_1_method_11_code 1 = .ok (.iload_n 1, 1) := by decide +kernel
set_option maxRecDepth 100000 in
theorem dX10_runSite_2 : decode prog_1_method_11_code 2 = .ok (.invokevirtual 176, 3) := by decide +kernel
set_option maxRecDepth 100000 in
theorem dX10_runSite_5 : decode prog_1_method_11_code 5 = .ok (.astore_n 3, 1) := by decide +kernel
set_option maxRecDepth 100000 in
theorem dX10_runSite_6 : decode prog_1_method_11_code 6 = .ok (.aload_n 3, 1) := by decide +kernel
set_option maxRecDepth 100000 in
theorem dX10_runSite_7 : decode prog_1_method_11_code 7 = .ok (.ifnonnull 6, 3) := by decide +kernel
set_option maxRecDepth 100000 in
theorem dX10_runSite_10 : decode prog_1_method_11_code 10 = .ok (.bipush (-2), 2) := by decide +kernel
set_option maxRecDepth 100000 in
theorem dX10_runSite_12 : decode prog_1_method_11_code 12 = .ok (.ireturn, 1) := by decide +kernel
set_option maxRecDepth 100000 in
theorem dX10_runSite_13 : decode prog_1_method_11_code 13 = .ok (.aload_n 0, 1) := by decide +kernel
set_option maxRecDepth 100000 in
theorem dX10_runSite_14 : decode prog_1_method_11_code 14 = .ok (.getfield 47, 3) := by decide +kernel
set_option maxRecDepth 100000 in
theorem dX10_runSite_17 : decode prog_1_method_11_code 17 = .ok (.aload_n 0, 1) := by decide +kernel
set_option maxRecDepth 100000 in
theorem dX10_runSite_18 : decode prog_1_method_11_code 18 = .ok (.getfield 38, 3) := by decide +kernel
set_option maxRecDepth 100000 in
theorem dX10_runSite_21 : decode prog_1_method_11_code 21 = .ok (.aload_n 3, 1) := by decide +kernel
set_option maxRecDepth 100000 in
theorem dX10_runSite_22 : decode prog_1_method_11_code 22 = .ok (.getfield 180, 3) := by decide +kernel
set_option maxRecDepth 100000 in
theorem dX10_runSite_25 : decode prog_1_method_11_code 25 = .ok (.iload_n 2, 1) := by decide +kernel
set_option maxRecDepth 100000 in
theorem dX10_runSite_26 : decode prog_1_method_11_code 26 = .ok (.invokevirtual 158, 3) := by decide +kernel
set_option maxRecDepth 100000 in
theorem dX10_runSite_29 : decode prog_1_method_11_code 29 = .ok (.istore 4, 2) := by decide +kernel
set_option maxRecDepth 100000 in
theorem dX10_runSite_31 : decode prog_1_method_11_code 31 = .ok (.iload 4, 2) := by decide +kernel
set_option maxRecDepth 100000 in
theorem dX10_runSite_33 : decode prog_1_method_11_code 33 = .ok (.ifCond .ne 18, 3) := by decide +kernel
set_option maxRecDepth 100000 in
theorem dX10_runSite_36 : decode prog_1_method_11_code 36 = .ok (.aload_n 3, 1) := by decide +kernel
set_option maxRecDepth 100000 in
theorem dX10_runSite_37 : decode prog_1_method_11_code 37 = .ok (.getfield 181, 3) := by decide +kernel
set_option maxRecDepth 100000 in
theorem dX10_runSite_40 : decode prog_1_method_11_code 40 = .ok (.iconst (-1), 1) := by decide +kernel
set_option maxRecDepth 100000 in
theorem dX10_runSite_41 : decode prog_1_method_11_code 41 = .ok (.if_icmp .ne 10, 3) := by decide +kernel
set_option maxRecDepth 100000 in
theorem dX10_runSite_44 : decode prog_1_method_11_code 44 = .ok (.aload_n 0, 1) := by decide +kernel
set_option maxRecDepth 100000 in
theorem dX10_runSite_45 : decode prog_1_method_11_code 45 = .ok (.aload_n 3, 1) := by decide +kernel
set_option maxRecDepth 100000 in
theorem dX10_runSite_46 : decode prog_1_method_11_code 46 = .ok (.invokevirtual 184, 3) := by decide +kernel
set_option maxRecDepth 100000 in
theorem dX10_runSite_49 : decode prog_1_method_11_code 49 = .ok (.istore 4, 2) := by decide +kernel
set_option maxRecDepth 100000 in
theorem dX10_runSite_51 : decode prog_1_method_11_code 51 = .ok (.aload_n 0, 1) := by decide +kernel
set_option maxRecDepth 100000 in
theorem dX10_runSite_52 : decode prog_1_method_11_code 52 = .ok (.aload_n 3, 1) := by decide +kernel
set_option maxRecDepth 100000 in
theorem dX10_runSite_53 : decode prog_1_method_11_code 53 = .ok (.getfield 181, 3) := by decide +kernel
set_option maxRecDepth 100000 in
theorem dX10_runSite_56 : decode prog_1_method_11_code 56 = .ok (.invokevirtual 82, 3) := by decide +kernel
set_option maxRecDepth 100000 in
theorem dX10_runSite_59 : decode prog_1_method_11_code 59 = .ok (.astore 5, 2) := by decide +kernel
set_option maxRecDepth 100000 in
theorem dX10_runSite_61 : decode prog_1_method_11_code 61 = .ok (.iload 4, 2) := by decide +kernel
set_option maxRecDepth 100000 in
theorem dX10_runSite_63 : decode prog_1_method_11_code 63 = .ok (.ifCond .ne 20, 3) := by decide +kernel
set_option maxRecDepth 100000 in
theorem dX10_runSite_66 : decode prog_1_method_11_code 66 = .ok (.aload 5, 2) := by decide +kernel
set_option maxRecDepth 100000 in
theorem dX10_runSite_68 : decode prog_1_method_11_code 68 = .ok (.ifnull 15, 3) := by decide +kernel
set_option maxRecDepth 100000 in
theorem dX10_runSite_71 : decode prog_1_method_11_code 71 = .ok (.aload_n 0, 1) := by decide +kernel
set_option maxRecDepth 100000 in
theorem dX10_runSite_72 : decode prog_1_method_11_code 72 = .ok (.getfield 47, 3) := by decide +kernel
set_option maxRecDepth 100000 in
theorem dX10_runSite_75 : decode prog_1_method_11_code 75 = .ok (.aload 5, 2) := by decide +kernel
set_option maxRecDepth 100000 in
theorem dX10_runSite_77 : decode prog_1_method_11_code 77 = .ok (.iconst 0, 1) := by decide +kernel
set_option maxRecDepth 100000 in
theorem dX10_runSite_78 : decode prog_1_method_11_code 78 = .ok (.invokevirtual 162, 3) := by decide +kernel
set_option maxRecDepth 100000 in
theorem dX10_runSite_81 : decode prog_1_method_11_code 81 = .ok (.istore 4, 2) := by decide +kernel
set_option maxRecDepth 100000 in
theorem dX10_runSite_83 : decode prog_1_method_11_code 83 = .ok (.aload_n 0, 1) := by decide +kernel
set_option maxRecDepth 100000 in
theorem dX10_runSite_84 : decode prog_1_method_11_code 84 = .ok (.iload 4, 2) := by decide +kernel
set_option maxRecDepth 100000 in
theorem dX10_runSite_86 : decode prog_1_method_11_code 86 = .ok (.invokevirtual 166, 3) := by decide +kernel
set_option maxRecDepth 100000 in
theorem dX10_runSite_89 : decode prog_1_method_11_code 89 = .ok (.ireturn, 1) := by decide +kernel
set_option maxRecDepth 100000 in
theorem okX10_link : mOk miX10_link 1 := ⟨(gd_of 688 rfl rfl), (gd_of 72 rfl rfl), by decide +kernel, ⟨by decide +kernel, by decide +kernel, by decide +kernel⟩, by decide⟩
def fX10_runSite_51 (z : Nat → Nat) (a0 : Nat) (r3 : Option Nat) (x4 : Int32) (h : aH) : Option (Int32 × aH) :=
  (r3).bind fun a101 =>
  (rdI h a101 [5] 2).bind fun x102 =>
  (obO h a0 8).bind fun fs104 =>
  (fX10_handleAt z a0 x102 h).bind fun q103 =>
  (if x4 = 0 then
  (Option.elim q103.1
  ((obO q103.2 a0 8).bind fun fs109 =>
  (fX10_endRun z a0 x4 q103.2).bind fun q108 =>
  some (q108.1, q108.2))
  fun a107 =>
  (rdR q103.2 a0 [8] 6).bind fun r110 =>
  (r110).bind fun a112 =>
  (obO q103.2 a112 4).bind fun fs113 =>
  (fX5_perform z 70 a112 (some a107) 0 q103.2).bind fun q111 =>
  (obO q111.2 a0 8).bind fun fs115 =>
  (fX10_endRun z a0 q111.1 q111.2).bind fun q114 =>
  some (q114.1, q114.2))
  else
  (obO q103.2 a0 8).bind fun fs106 =>
  (fX10_endRun z a0 x4 q103.2).bind fun q105 =>
  some (q105.1, q105.2))
set_option maxHeartbeats 4000000 in
set_option maxRecDepth 100000 in
theorem xX10_runSite_51 {l : Launch} {g : aG} {d : Nat} (hK : 353 ≤ d + 1) {a0 : Nat} {r3 : Option Nat} {x4 : Int32} {h : aH} {q : Int32 × aH} (hf : fX10_runSite_51 g.2.2 a0 r3 x4 h = some q) : Y l g miX10_runSite (d + 1) 51 [some (.inr (.inr (some a0))), none, none, some (.inr (.inr r3)), some (.inl x4), none] [] h (some (.inl q.1), q.2) := by
  unfold fX10_runSite_51 at hf
  refine y_aload_n (i := 0) dX10_runSite_51 rfl rfl ?_
  refine y_aload_n (i := 3) dX10_runSite_52 rfl rfl ?_
  replace hf := bnd hf
  obtain ⟨a101, rfl, hf⟩ := hf
  replace hf := bnd hf
  obtain ⟨x102, ex102, hf⟩ := hf
  refine y_getI ex102 fl10_181 dX10_runSite_53 ?_
  replace hf := bnd hf
  obtain ⟨fs104, efs104, hf⟩ := hf
  replace hf := bnd hf
  obtain ⟨q103, eq103, hf⟩ := hf
  refine y_callV (mj := miX10_handleAt) (args := [.inl x102]) (st := []) dX10_runSite_56 (gd_of 263 rfl rfl) (gd_of 265 rfl rfl) (gd_of 1 rfl rfl) okX10_handleAt (obO_spec efs104) rfl rfl (xX10_handleAt (by omega) eq103) (Nat.le_of_ble_eq_true rfl) rfl ?_
  show Y l g miX10_runSite (d + 1) 59 [some (.inr (.inr (some a0))), none, none, some (.inr (.inr (some a101))), some (.inl x4), none] [.inr (.inr q103.1)] q103.2 _
  refine y_astore (i := 5) (lv2 := [some (.inr (.inr (some a0))), none, none, some (.inr (.inr (some a101))), some (.inl x4), some (.inr (.inr q103.1))]) dX10_runSite_59 (by decide) rfl ?_
  refine y_iload (i := 4) dX10_runSite_61 rfl ?_
  refine y_if_ne (tgt := 83) dX10_runSite_63 (by decide) (fun hc => ?_) (fun hc => ?_)
  · rw [if_neg hc] at hf
    refine y_aload_n (i := 0) dX10_runSite_83 rfl rfl ?_
    refine y_iload (i := 4) dX10_runSite_84 rfl ?_
    replace hf := bnd hf
    obtain ⟨fs106, efs106, hf⟩ := hf
    replace hf := bnd hf
    obtain ⟨q105, eq105, hf⟩ := hf
    refine y_callV (mj := miX10_endRun) (args := [.inl x4]) (st := []) dX10_runSite_86 (gd_of 650 rfl rfl) (gd_of 652 rfl rfl) (gd_of 32 rfl rfl) okX10_endRun (obO_spec efs106) rfl rfl (xX10_endRun (by omega) eq105) (Nat.le_of_ble_eq_true rfl) rfl ?_
    show Y l g miX10_runSite (d + 1) 89 [some (.inr (.inr (some a0))), none, none, some (.inr (.inr (some a101))), some (.inl x4), some (.inr (.inr q103.1))] [.inl q105.1] q105.2 _
    obtain rfl := Option.some.inj hf
    exact y_ret (v := some (.inl q105.1)) dX10_runSite_89 rfl
  · rw [if_pos hc] at hf
    refine y_aload (i := 5) dX10_runSite_66 rfl ?_
    refine y_ifnull (tgt := 83) dX10_runSite_68 (by decide) (fun hc => ?_) (fun a107 hc => ?_)
    · rw [hc] at hf; rw [hc]; rw [Option.elim_none] at hf
      refine y_aload_n (i := 0) dX10_runSite_83 rfl rfl ?_
      refine y_iload (i := 4) dX10_runSite_84 rfl ?_
      replace hf := bnd hf
      obtain ⟨fs109, efs109, hf⟩ := hf
      replace hf := bnd hf
      obtain ⟨q108, eq108, hf⟩ := hf
      refine y_callV (mj := miX10_endRun) (args := [.inl x4]) (st := []) dX10_runSite_86 (gd_of 650 rfl rfl) (gd_of 652 rfl rfl) (gd_of 32 rfl rfl) okX10_endRun (obO_spec efs109) rfl rfl (xX10_endRun (by omega) eq108) (Nat.le_of_ble_eq_true rfl) rfl ?_
      show Y l g miX10_runSite (d + 1) 89 [some (.inr (.inr (some a0))), none, none, some (.inr (.inr (some a101))), some (.inl x4), some (.inr (.inr none))] [.inl q108.1] q108.2 _
      obtain rfl := Option.some.inj hf
      exact y_ret (v := some (.inl q108.1)) dX10_runSite_89 rfl
    · rw [hc] at hf; rw [hc]; rw [Option.elim_some] at hf
      refine y_aload_n (i := 0) dX10_runSite_71 rfl rfl ?_
      replace hf := bnd hf
      obtain ⟨r110, er110, hf⟩ := hf
      refine y_getR er110 fl10_47 dX10_runSite_72 ?_
      refine y_aload (i := 5) dX10_runSite_75 rfl ?_
      refine y_iconst (v := 0) dX10_runSite_77 (by decide) ?_
      replace hf := bnd hf
      obtain ⟨a112, rfl, hf⟩ := hf
      replace hf := bnd hf
      obtain ⟨fs113, efs113, hf⟩ := hf
      replace hf := bnd hf
      obtain ⟨q111, eq111, hf⟩ := hf
      refine y_callV (mj := miX5_perform) (args := [.inr (.inr (some a107)), .inl 0]) (st := []) dX10_runSite_78 (gd_of 518 rfl rfl) (gd_of 519 rfl rfl) (gd_of 520 rfl rfl) okX5_perform (obO_spec efs113) rfl rfl (xX5_perform 70 _ (by omega) _ _ _ _ _ eq111) (Nat.le_of_ble_eq_true rfl) rfl ?_
      show Y l g miX10_runSite (d + 1) 81 [some (.inr (.inr (some a0))), none, none, some (.inr (.inr (some a101))), some (.inl x4), some (.inr (.inr (some a107)))] [.inl q111.1] q111.2 _
      refine y_istore (i := 4) (lv2 := [some (.inr (.inr (some a0))), none, none, some (.inr (.inr (some a101))), some (.inl q111.1), some (.inr (.inr (some a107)))]) dX10_runSite_81 (by decide) rfl ?_
      refine y_aload_n (i := 0) dX10_runSite_83 rfl rfl ?_
      refine y_iload (i := 4) dX10_runSite_84 rfl ?_
      replace hf := bnd hf
      obtain ⟨fs115, efs115, hf⟩ := hf
      replace hf := bnd hf
      obtain ⟨q114, eq114, hf⟩ := hf
      refine y_callV (mj := miX10_endRun) (args := [.inl q111.1]) (st := []) dX10_runSite_86 (gd_of 650 rfl rfl) (gd_of 652 rfl rfl) (gd_of 32 rfl rfl) okX10_endRun (obO_spec efs115) rfl rfl (xX10_endRun (by omega) eq114) (Nat.le_of_ble_eq_true rfl) rfl ?_
      show Y l g miX10_runSite (d + 1) 89 [some (.inr (.inr (some a0))), none, none, some (.inr (.inr (some a101))), some (.inl q111.1), some (.inr (.inr (some a107)))] [.inl q114.1] q114.2 _
      obtain rfl := Option.some.inj hf
      exact y_ret (v := some (.inl q114.1)) dX10_runSite_89 rfl
def fX10_runSite (z : Nat → Nat) (a0 : Nat) (x1 : Int32) (x2 : Int32) (h : aH) : Option (Int32 × aH) :=
  (obO h a0 8).bind fun fs102 =>
  (fX10_siteAt z a0 x1 h).bind fun q101 =>
  (Option.elim q101.1
  (some ((-2), q101.2))
  fun a103 =>
  (rdR q101.2 a0 [8] 6).bind fun r104 =>
  (rdR q101.2 a0 [8] 5).bind fun r105 =>
  (rdR q101.2 a103 [5] 0).bind fun r106 =>
  (r104).bind fun a108 =>
  (obO q101.2 a108 4).bind fun fs109 =>
  (fX5_begin z a108 r105 r106 x2 q101.2).bind fun q107 =>
  (if q107.1 = 0 then
  (rdI q107.2 a103 [5] 2).bind fun x110 =>
  (if x110 = (-1) then
  (obO q107.2 a0 8).bind fun fs112 =>
  (fX10_link z a0 (some a103) q107.2).bind fun q111 =>
  fX10_runSite_51 z a0 (some a103) q111.1 q111.2
  else
  fX10_runSite_51 z a0 (some a103) q107.1 q107.2)
  else
  fX10_runSite_51 z a0 (some a103) q107.1 q107.2))
set_option maxHeartbeats 4000000 in
set_option maxRecDepth 100000 in
theorem xX10_runSite {l : Launch} {g : aG} {d : Nat} (hK : 353 ≤ d) {a0 : Nat} {x1 : Int32} {x2 : Int32} {h : aH} {q : Int32 × aH} (hf : fX10_runSite g.2.2 a0 x1 x2 h = some q) : Ev l g miX10_runSite d [.inr (.inr (some a0)), .inl x1, .inl x2] h (some (.inl q.1), q.2) := by
  obtain ⟨d, rfl⟩ : ∃ e, d = e + 1 := ⟨d - 1, by omega⟩
  refine ⟨?_, Or.inl rfl, Nat.le_of_ble_eq_true rfl⟩
  unfold fX10_runSite at hf
  show Y l g miX10_runSite (d + 1) 0 [some (.inr (.inr (some a0))), some (.inl x1), some (.inl x2), none, none, none] [] h _
  refine y_aload_n (i := 0) dX10_runSite_0 rfl rfl ?_
  refine y_iload_n (i := 1) dX10_runSite_1 rfl rfl ?_
  replace hf := bnd hf
  obtain ⟨fs102, efs102, hf⟩ := hf
  replace hf := bnd hf
  obtain ⟨q101, eq101, hf⟩ := hf
  refine y_callV (mj := miX10_siteAt) (args := [.inl x1]) (st := []) dX10_runSite_2 (gd_of 681 rfl rfl) (gd_of 683 rfl rfl) (gd_of 33 rfl rfl) okX10_siteAt (obO_spec efs102) rfl rfl (xX10_siteAt (by omega) eq101) (Nat.le_of_ble_eq_true rfl) rfl ?_
  show Y l g miX10_runSite (d + 1) 5 [some (.inr (.inr (some a0))), some (.inl x1), some (.inl x2), none, none, none] [.inr (.inr q101.1)] q101.2 _
  refine y_astore_n (i := 3) (lv2 := [some (.inr (.inr (some a0))), some (.inl x1), some (.inl x2), some (.inr (.inr q101.1)), none, none]) dX10_runSite_5 rfl (by decide) rfl ?_
  refine y_aload_n (i := 3) dX10_runSite_6 rfl rfl ?_
  refine y_ifnonnull (tgt := 13) dX10_runSite_7 (by decide) (fun hc => ?_) (fun a103 hc => ?_)
  · rw [hc] at hf; rw [hc]; rw [Option.elim_none] at hf
    refine y_bipush (v := (-2)) dX10_runSite_10 (by decide) ?_
    obtain rfl := Option.some.inj hf
    exact y_ret (v := some (.inl (-2))) dX10_runSite_12 rfl
  · rw [hc] at hf; rw [hc]; rw [Option.elim_some] at hf
    refine y_aload_n (i := 0) dX10_runSite_13 rfl rfl ?_
    replace hf := bnd hf
    obtain ⟨r104, er104, hf⟩ := hf
    refine y_getR er104 fl10_47 dX10_runSite_14 ?_
    refine y_aload_n (i := 0) dX10_runSite_17 rfl rfl ?_
    replace hf := bnd hf
    obtain ⟨r105, er105, hf⟩ := hf
    refine y_getR er105 fl10_38 dX10_runSite_18 ?_
    refine y_aload_n (i := 3) dX10_runSite_21 rfl rfl ?_
    replace hf := bnd hf
    obtain ⟨r106, er106, hf⟩ := hf
    refine y_getR er106 fl10_180 dX10_runSite_22 ?_
    refine y_iload_n (i := 2) dX10_runSite_25 rfl rfl ?_
    replace hf := bnd hf
    obtain ⟨a108, rfl, hf⟩ := hf
    replace hf := bnd hf
    obtain ⟨fs109, efs109, hf⟩ := hf
    replace hf := bnd hf
    obtain ⟨q107, eq107, hf⟩ := hf
    refine y_callV (mj := miX5_begin) (args := [.inr (.inr r105), .inr (.inr r106), .inl x2]) (st := []) dX10_runSite_26 (gd_of 491 rfl rfl) (gd_of 492 rfl rfl) (gd_of 493 rfl rfl) okX5_begin (obO_spec efs109) rfl rfl (xX5_begin (by omega) eq107) (Nat.le_of_ble_eq_true rfl) rfl ?_
    show Y l g miX10_runSite (d + 1) 29 [some (.inr (.inr (some a0))), some (.inl x1), some (.inl x2), some (.inr (.inr (some a103))), none, none] [.inl q107.1] q107.2 _
    refine y_istore (i := 4) (lv2 := [some (.inr (.inr (some a0))), some (.inl x1), some (.inl x2), some (.inr (.inr (some a103))), some (.inl q107.1), none]) dX10_runSite_29 (by decide) rfl ?_
    refine y_iload (i := 4) dX10_runSite_31 rfl ?_
    refine y_if_ne (tgt := 51) dX10_runSite_33 (by decide) (fun hc => ?_) (fun hc => ?_)
    · rw [if_neg hc] at hf
      refine Y.weak (lv2 := [some (.inr (.inr (some a0))), none, none, some (.inr (.inr (some a103))), some (.inl q107.1), none]) [true, false, false, true, true, false] rfl ?_
      exact xX10_runSite_51 hK hf
    · rw [if_pos hc] at hf
      refine y_aload_n (i := 3) dX10_runSite_36 rfl rfl ?_
      replace hf := bnd hf
      obtain ⟨x110, ex110, hf⟩ := hf
      refine y_getI ex110 fl10_181 dX10_runSite_37 ?_
      refine y_iconst (v := (-1)) dX10_runSite_40 (by decide) ?_
      refine y_icmp_ne (tgt := 51) dX10_runSite_41 (by decide) (fun hc => ?_) (fun hc => ?_)
      · rw [if_neg hc] at hf
        refine Y.weak (lv2 := [some (.inr (.inr (some a0))), none, none, some (.inr (.inr (some a103))), some (.inl q107.1), none]) [true, false, false, true, true, false] rfl ?_
        exact xX10_runSite_51 hK hf
      · rw [if_pos hc] at hf
        refine y_aload_n (i := 0) dX10_runSite_44 rfl rfl ?_
        refine y_aload_n (i := 3) dX10_runSite_45 rfl rfl ?_
        replace hf := bnd hf
        obtain ⟨fs112, efs112, hf⟩ := hf
        replace hf := bnd hf
        obtain ⟨q111, eq111, hf⟩ := hf
        refine y_callV (mj := miX10_link) (args := [.inr (.inr (some a103))]) (st := []) dX10_runSite_46 (gd_of 685 rfl rfl) (gd_of 687 rfl rfl) (gd_of 34 rfl rfl) okX10_link (obO_spec efs112) rfl rfl (xX10_link (by omega) eq111) (Nat.le_of_ble_eq_true rfl) rfl ?_
        show Y l g miX10_runSite (d + 1) 49 [some (.inr (.inr (some a0))), some (.inl x1), some (.inl x2), some (.inr (.inr (some a103))), some (.inl q107.1), none] [.inl q111.1] q111.2 _
        refine y_istore (i := 4) (lv2 := [some (.inr (.inr (some a0))), some (.inl x1), some (.inl x2), some (.inr (.inr (some a103))), some (.inl q111.1), none]) dX10_runSite_49 (by decide) rfl ?_
        refine Y.weak (lv2 := [some (.inr (.inr (some a0))), none, none, some (.inr (.inr (some a103))), some (.inl q111.1), none]) [true, false, false, true, true, false] rfl ?_
        exact xX10_runSite_51 hK hf
set_option maxRecDepth 100000 in
theorem dX10_set_0 : decode prog_1_method_5_code 0 = .ok (.aload_n 0, 1) := by decide +kernel
set_option maxRecDepth 100000 in
theorem dX10_set_1 : decode prog_1_method_5_code 1 = .ok (.getfield 31, 3) := by decide +kernel
set_option maxRecDepth 100000 in
theorem dX10_set_4 : decode prog_1_method_5_code 4 = .ok (.iload_n 1, 1) := by decide +kernel
set_option maxRecDepth 100000 in
theorem dX10_set_5 : decode prog_1_method_5_code 5 = .ok (.iload_n 2, 1) := by decide +kernel
set_option maxRecDepth 100000 in
theorem dX10_set_6 : decode prog_1_method_5_code 6 = .ok (.invokevirtual 131, 3) := by decide +kernel
set_option maxRecDepth 100000 in
theorem dX10_set_9 : decode prog_1_method_5_code 9 = .ok (.ifCond .ne 6, 3) := by decide +kernel
set_option maxRecDepth 100000 in
theorem dX10_set_12 : decode prog_1_method_5_code 12 = .ok (.bipush (-2), 2) := by decide +kernel
set_option maxRecDepth 100000 in
theorem dX10_set_14 : decode prog_1_method_5_code 14 = .ok (.ireturn, 1) := by decide +kernel
set_option maxRecDepth 100000 in
theorem dX10_set_15 : decode prog_1_method_5_code 15 = .ok (.aload_n 0, 1) := by decide +kernel
set_option maxRecDepth 100000 in
theorem dX10_set_16 : decode prog_1_method_5_code 16 = .ok (.getfield 31, 3) := by decide +kernel
set_option maxRecDepth 100000 in
theorem dX10_set_19 : decode prog_1_method_5_code 19 = .ok (.iload_n 1, 1) := by decide +kernel
set_option maxRecDepth 100000 in
theorem dX10_set_20 : decode prog_1_method_5_code 20 = .ok (.iload_n 2, 1) := by decide +kernel
set_option maxRecDepth 100000 in
theorem dX10_set_21 : decode prog_1_method_5_code 21 = .ok (.iload_n 3, 1) := by decide +kernel
set_option maxRecDepth 100000 in
theorem dX10_set_22 : decode prog_1_method_5_code 22 = .ok (.invokevirtual 135, 3) := by decide +kernel
set_option maxRecDepth 100000 in
theorem dX10_set_25 : decode prog_1_method_5_code 25 = .ok (.iconst 1, 1) := by decide +kernel
set_option maxRecDepth 100000 in
theorem dX10_set_26 : decode prog_1_method_5_code 26 = .ok (.ireturn, 1) := by decide +kernel

def fX10_set (z : Nat → Nat) (a0 : Nat) (x1 : Int32) (x2 : Int32) (x3 : Int32) (h : aH) : Option (Int32 × aH) :=
  (rdR h a0 [8] 4).bind fun r101 =>
  (r101).bind fun a103 =>
  (obO h a103 3).bind fun fs104 =>
  (fX4_hasItem z a103 x1 x2 h).bind fun q102 =>
  (if q102.1 = 0 then
  some ((-2), q102.2)
  else
  (rdR q102.2 a0 [8] 4).bind fun r105 =>
  (r105).bind fun a107 =>
  (obO q102.2 a107 3).bind fun fs108 =>
  (fX4_put z a107 x1 x2 x3 q102.2).bind fun q106 =>
  some (1, q106))
set_option maxHeartbeats 4000000 in
set_option maxRecDepth 100000 in
theorem xX10_set {l : Launch} {g : aG} {d : Nat} (hK : 3 ≤ d) {a0 : Nat} {x1 : Int32} {x2 : Int32} {x3 : Int32} {h : aH} {q : Int32 × aH} (hf : fX10_set g.2.2 a0 x1 x2 x3 h = some q) : Ev l g miX10_set d [.inr (.inr (some a0)), .inl x1, .inl x2, .inl x3] h (some (.inl q.1), q.2) := by
  obtain ⟨d, rfl⟩ : ∃ e, d = e + 1 := ⟨d - 1, by omega⟩
  refine ⟨?_, Or.inl rfl, Nat.le_of_ble_eq_true rfl⟩
  unfold fX10_set at hf
  show Y l g miX10_set (d + 1) 0 [some (.inr (.inr (some a0))), some (.inl x1), some (.inl x2), some (.inl x3)] [] h _
  refine y_aload_n (i := 0) dX10_set_0 rfl rfl ?_
  replace hf := bnd hf
  obtain ⟨r101, er101, hf⟩ := hf
  refine y_getR er101 fl10_31 dX10_set_1 ?_
  refine y_iload_n (i := 1) dX10_set_4 rfl rfl ?_
  refine y_iload_n (i := 2) dX10_set_5 rfl rfl ?_
  replace hf := bnd hf
  obtain ⟨a103, rfl, hf⟩ := hf
  replace hf := bnd hf
  obtain ⟨fs104, efs104, hf⟩ := hf
  replace hf := bnd hf
  obtain ⟨q102, eq102, hf⟩ := hf
  refine y_callV (mj := miX4_hasItem) (args := [.inl x1, .inl x2]) (st := []) dX10_set_6 (gd_of 449 rfl rfl) (gd_of 450 rfl rfl) (gd_of 451 rfl rfl) okX4_hasItem (obO_spec efs104) rfl rfl (xX4_hasItem (by omega) eq102) (Nat.le_of_ble_eq_true rfl) rfl ?_
  show Y l g miX10_set (d + 1) 9 [some (.inr (.inr (some a0))), some (.inl x1), some (.inl x2), some (.inl x3)] [.inl q102.1] q102.2 _
  refine y_if_ne (tgt := 15) dX10_set_9 (by decide) (fun hc => ?_) (fun hc => ?_)
  · rw [if_neg hc] at hf
    refine y_aload_n (i := 0) dX10_set_15 rfl rfl ?_
    replace hf := bnd hf
    obtain ⟨r105, er105, hf⟩ := hf
    refine y_getR er105 fl10_31 dX10_set_16 ?_
    refine y_iload_n (i := 1) dX10_set_19 rfl rfl ?_
    refine y_iload_n (i := 2) dX10_set_20 rfl rfl ?_
    refine y_iload_n (i := 3) dX10_set_21 rfl rfl ?_
    replace hf := bnd hf
    obtain ⟨a107, rfl, hf⟩ := hf
    replace hf := bnd hf
    obtain ⟨fs108, efs108, hf⟩ := hf
    replace hf := bnd hf
    obtain ⟨q106, eq106, hf⟩ := hf
    refine y_callV (mj := miX4_put) (args := [.inl x1, .inl x2, .inl x3]) (st := []) dX10_set_22 (gd_of 454 rfl rfl) (gd_of 455 rfl rfl) (gd_of 456 rfl rfl) okX4_put (obO_spec efs108) rfl rfl (xX4_put (by omega) eq106) (Nat.le_of_ble_eq_true rfl) rfl ?_
    show Y l g miX10_set (d + 1) 25 [some (.inr (.inr (some a0))), some (.inl x1), some (.inl x2), some (.inl x3)] [] q106 _
    refine y_iconst (v := 1) dX10_set_25 (by decide) ?_
    obtain rfl := Option.some.inj hf
    exact y_ret (v := some (.inl 1)) dX10_set_26 rfl
  · rw [if_pos hc] at hf
    refine y_bipush (v := (-2)) dX10_set_12 (by decide) ?_
    obtain rfl := Option.some.inj hf
    exact y_ret (v := some (.inl (-2))) dX10_set_14 rfl
set_option maxRecDepth 100000 in
theorem dX7_init_0 : decode prog_9_method_1_code 0 = .ok (.aload_n 0, 1) := by decide +kernel
set_option maxRecDepth 100000 in
theorem dX7_init_1 : decode prog_9_method_1_code 1 = .ok (.invokespecial 3, 3) := by decide +kernel
set_option maxRecDepth 100000 in
theorem dX7_init_4 : decode prog_9_method_1_code 4 = .ok (.aload_n 0, 1) := by decide +kernel
set_option maxRecDepth 100000 in
theorem dX7_init_5 : decode prog_9_method_1_code 5 = .ok (.iconst (-1), 1) := by decide +kernel
set_option maxRecDepth 100000 in
theorem dX7_init_6 : decode prog_9_method_1_code 6 = .ok (.putfield 9, 3) := by decide +kernel
set_option maxRecDepth 100000 in
theorem dX7_init_9 : decode prog_9_method_1_code 9 = .ok (.aload_n 0, 1) := by decide +kernel
set_option maxRecDepth 100000 in
theorem dX7_init_10 : decode prog_9_method_1_code 10 = .ok (.aload_n 1, 1) := by decide +kernel
set_option maxRecDepth 100000 in
theorem dX7_init_11 : decode prog_9_method_1_code 11 = .ok (.putfield 15, 3) := by decide +kernel
set_option maxRecDepth 100000 in
theorem dX7_init_14 : decode prog_9_method_1_code 14 = .ok (.aload_n 0, 1) := by decide +kernel
set_option maxRecDepth 100000 in
theorem dX7_init_15 : decode prog_9_method_1_code 15 = .ok (.aload_n 2, 1) := by decide +kernel
set_option maxRecDepth 100000 in
theorem dX7_init_16 : decode prog_9_method_1_code 16 = .ok (.putfield 19, 3) := by decide +kernel
set_option maxRecDepth 100000 in
theorem dX7_init_19 : decode prog_9_method_1_code 19 = .ok (.return_, 1) := by decide +kernel
set_option maxRecDepth 100000 in
theorem fl7_9 : ∀ c ∈ ([5] : List Nat), FL "HandleModels$Site" 9 c 2 := fun c hc => by
  cases List.mem_singleton.mp hc
  exact ⟨_, "HandleModels$Site", rfl, by decide, (gd_of 668 rfl rfl), Or.inl rfl⟩
set_option maxRecDepth 100000 in
theorem pl7_9_i {mi : aM} {x : Int32} (ho : "HandleModels$Site" = mi.1.cls) : ∀ c ∈ ([5] : List Nat), FL mi.1.cls 9 c 2 ∧ FT c 2 (.inl x) ∧ FW mi c 2 := fun c h9 => by
  have h8 := fl7_9 c h9
  rw [← ho]
  refine ⟨h8, ?_⟩
  simp only [List.mem_cons, List.not_mem_nil, or_false] at h9
  rcases h9 with rfl
  · exact ⟨ft_int rfl (by decide +kernel), ⟨_, rfl, Or.inl rfl⟩⟩
set_option maxRecDepth 100000 in
theorem fl7_15 : ∀ c ∈ ([5] : List Nat), FL "HandleModels$Site" 15 c 0 := fun c hc => by
  cases List.mem_singleton.mp hc
  exact ⟨_, "HandleModels$Site", rfl, by decide, (gd_of 664 rfl rfl), Or.inl rfl⟩
set_option maxRecDepth 100000 in
theorem pl7_15_i {mi : aM} {x : Option Nat} (ho : "HandleModels$Site" = mi.1.cls) (hn : mi.1.name = "<init>") (hc : "HandleModels$Site" = mi.1.cls) : ∀ c ∈ ([5] : List Nat), FL mi.1.cls 15 c 0 ∧ FT c 0 (.inr (.inr x)) ∧ FW mi c 0 := fun c h9 => by
  have h8 := fl7_15 c h9
  rw [← ho]
  refine ⟨h8, ?_⟩
  simp only [List.mem_cons, List.not_mem_nil, or_false] at h9
  rcases h9 with rfl
  · exact ⟨ft_obj (n := "HandleModels$Types") rfl (by decide +kernel), ⟨_, rfl, Or.inr ⟨rfl, hn, hc⟩⟩⟩
set_option maxRecDepth 100000 in
theorem fl7_19 : ∀ c ∈ ([5] : List Nat), FL "HandleModels$Site" 19 c 1 := fun c hc => by
  cases List.mem_singleton.mp hc
  exact ⟨_, "HandleModels$Site", rfl, by decide, (gd_of 666 rfl rfl), Or.inl rfl⟩
set_option maxRecDepth 100000 in
theorem pl7_19_i {mi : aM} {x : Option Nat} (ho : "HandleModels$Site" = mi.1.cls) (hn : mi.1.name = "<init>") (hc : "HandleModels$Site" = mi.1.cls) : ∀ c ∈ ([5] : List Nat), FL mi.1.cls 19 c 1 ∧ FT c 1 (.inr (.inr x)) ∧ FW mi c 1 := fun c h9 => by
  have h8 := fl7_19 c h9
  rw [← ho]
  refine ⟨h8, ?_⟩
  simp only [List.mem_cons, List.not_mem_nil, or_false] at h9
  rcases h9 with rfl
  · exact ⟨ft_obj (n := "HandleModels$Handle") rfl (by decide +kernel), ⟨_, rfl, Or.inr ⟨rfl, hn, hc⟩⟩⟩
def fX7_init (z : Nat → Nat) (a0 : Nat) (r1 : Option Nat) (r2 : Option Nat) (h : aH) : Option aH :=
  (wrF h a0 [5] 2 (.inl (-1))).bind fun h101 =>
  (wrF h101 a0 [5] 0 (.inr (.inr r1))).bind fun h102 =>
  (wrF h102 a0 [5] 1 (.inr (.inr r2))).bind fun h103 =>
  some h103
set_option maxHeartbeats 4000000 in
set_option maxRecDepth 100000 in
theorem xX7_init {l : Launch} {g : aG} {d : Nat} (hK : 1 ≤ d) {a0 : Nat} {r1 : Option Nat} {r2 : Option Nat} {h : aH} {q : aH} (hf : fX7_init g.2.2 a0 r1 r2 h = some q) : Ev l g miX7_init d [.inr (.inr (some a0)), .inr (.inr r1), .inr (.inr r2)] h (none, q) := by
  obtain ⟨d, rfl⟩ : ∃ e, d = e + 1 := ⟨d - 1, by omega⟩
  refine ⟨?_, rfl, Nat.le_of_ble_eq_true rfl⟩
  unfold fX7_init at hf
  show Y l g miX7_init (d + 1) 0 [some (.inr (.inr (some a0))), some (.inr (.inr r1)), some (.inr (.inr r2))] [] h _
  refine y_aload_n (i := 0) dX7_init_0 rfl rfl ?_
  refine y_obj dX7_init_1 (gd_of 663 rfl rfl) (gd_of 92 rfl rfl) (gd_of 93 rfl rfl) (by simp) (Nat.le_of_ble_eq_true rfl) ?_
  refine y_aload_n (i := 0) dX7_init_4 rfl rfl ?_
  refine y_iconst (v := (-1)) dX7_init_5 (by decide) ?_
  replace hf := bnd hf
  obtain ⟨h101, eh101, hf⟩ := hf
  refine y_put eh101 (pl7_9_i rfl) dX7_init_6 ?_
  refine y_aload_n (i := 0) dX7_init_9 rfl rfl ?_
  refine y_aload_n (i := 1) dX7_init_10 rfl rfl ?_
  replace hf := bnd hf
  obtain ⟨h102, eh102, hf⟩ := hf
  refine y_put eh102 (pl7_15_i rfl rfl rfl) dX7_init_11 ?_
  refine y_aload_n (i := 0) dX7_init_14 rfl rfl ?_
  refine y_aload_n (i := 2) dX7_init_15 rfl rfl ?_
  replace hf := bnd hf
  obtain ⟨h103, eh103, hf⟩ := hf
  refine y_put eh103 (pl7_19_i rfl rfl rfl) dX7_init_16 ?_
  obtain rfl := Option.some.inj hf
  exact y_ret (v := none) dX7_init_19 rfl
set_option maxRecDepth 100000 in
theorem dX10_site_0 : decode prog_1_method_10_code 0 = .ok (.aload_n 0, 1) := by decide +kernel
set_option maxRecDepth 100000 in
theorem dX10_site_1 : decode prog_1_method_10_code 1 = .ok (.iload_n 1, 1) := by decide +kernel
set_option maxRecDepth 100000 in
theorem dX10_site_2 : decode prog_1_method_10_code 2 = .ok (.invokevirtual 82, 3) := by decide +kernel
set_option maxRecDepth 100000 in
theorem dX10_site_5 : decode prog_1_method_10_code 5 = .ok (.astore_n 3, 1) := by decide +kernel
set_option maxRecDepth 100000 in
theorem dX10_site_6 : decode prog_1_method_10_code 6 = .ok (.aload_n 0, 1) := by decide +kernel
set_option maxRecDepth 100000 in
theorem dX10_site_7 : decode prog_1_method_10_code 7 = .ok (.iload_n 2, 1) := by decide +kernel
set_option maxRecDepth 100000 in
theorem dX10_site_8 : decode prog_1_method_10_code 8 = .ok (.invokevirtual 82, 3) := by decide +kernel
set_option maxRecDepth 100000 in
theorem dX10_site_11 : decode prog_1_method_10_code 11 = .ok (.astore 4, 2) := by decide +kernel
set_option maxRecDepth 100000 in
theorem dX10_site_13 : decode prog_1_method_10_code 13 = .ok (.aload_n 3, 1) := by decide +kernel
set_option maxRecDepth 100000 in
theorem dX10_site_14 : decode prog_1_method_10_code 14 = .ok (.ifnull 8, 3) := by decide +kernel
set_option maxRecDepth 100000 in
theorem dX10_site_17 : decode prog_1_method_10_code 17 = .ok (.aload 4, 2) := by decide +kernel
set_option maxRecDepth 100000 in
theorem dX10_site_19 : decode prog_1_method_10_code 19 = .ok (.ifnonnull 6, 3) := by decide +kernel
set_option maxRecDepth 100000 in
theorem dX10_site_22 : decode prog_1_method_10_code 22 = .ok (.bipush (-2), 2) := by decide +kernel
set_option maxRecDepth 100000 in
theorem dX10_site_24 : decode prog_1_method_10_code 24 = .ok (.ireturn, 1) := by decide +kernel
set_option maxRecDepth 100000 in
theorem dX10_site_25 : decode prog_1_method_10_code 25 = .ok (.aload 4, 2) := by decide +kernel
set_option maxRecDepth 100000 in
theorem dX10_site_27 : decode prog_1_method_10_code 27 = .ok (.getfield 106, 3) := by decide +kernel
set_option maxRecDepth 100000 in
theorem dX10_site_30 : decode prog_1_method_10_code 30 = .ok (.invokevirtual 169, 3) := by decide +kernel
set_option maxRecDepth 100000 in
theorem dX10_site_33 : decode prog_1_method_10_code 33 = .ok (.ifCond .ne 14, 3) := by decide +kernel
set_option maxRecDepth 100000 in
theorem dX10_site_36 : decode prog_1_method_10_code 36 = .ok (.aload 4, 2) := by decide +kernel
set_option maxRecDepth 100000 in
theorem dX10_site_38 : decode prog_1_method_10_code 38 = .ok (.getfield 106, 3) := by decide +kernel
set_option maxRecDepth 100000 in
theorem dX10_site_41 : decode prog_1_method_10_code 41 = .ok (.getfield 170, 3) := by decide +kernel
set_option maxRecDepth 100000 in
theorem dX10_site_44 : decode prog_1_method_10_code 44 = .ok (.ifCond .eq 6, 3) := by decide +kernel
set_option maxRecDepth 100000 in
theorem dX10_site_47 : decode prog_1_method_10_code 47 = .ok (.bipush (-4), 2) := by decide +kernel
set_option maxRecDepth 100000 in
theorem dX10_site_49 : decode prog_1_method_10_code 49 = .ok (.ireturn, 1) := by decide +kernel
set_option maxRecDepth 100000 in
theorem dX10_site_50 : decode prog_1_method_10_code 50 = .ok (.aload_n 0, 1) := by decide +kernel
set_option maxRecDepth 100000 in
theorem dX10_site_51 : decode prog_1_method_10_code 51 = .ok (.getfield 25, 3) := by decide +kernel
set_option maxRecDepth 100000 in
theorem dX10_site_54 : decode prog_1_method_10_code 54 = .ok (.bipush 10, 2) := by decide +kernel
set_option maxRecDepth 100000 in
theorem dX10_site_56 : decode prog_1_method_10_code 56 = .ok (.if_icmp .lt 6, 3) := by decide +kernel
set_option maxRecDepth 100000 in
theorem dX10_site_59 : decode prog_1_method_10_code 59 = .ok (.bipush (-5), 2) := by decide +kernel
set_option maxRecDepth 100000 in
theorem dX10_site_61 : decode prog_1_method_10_code 61 = .ok (.ireturn, 1) := by decide +kernel
set_option maxRecDepth 100000 in
theorem dX10_site_62 : decode prog_1_method_10_code 62 = .ok (.aload_n 0, 1) := by decide +kernel
set_option maxRecDepth 100000 in
theorem dX10_site_63 : decode prog_1_method_10_code 63 = .ok (.getfield 21, 3) := by decide +kernel
set_option maxRecDepth 100000 in
theorem dX10_site_66 : decode prog_1_method_10_code 66 = .ok (.aload_n 0, 1) := by decide +kernel
set_option maxRecDepth 100000 in
theorem dX10_site_67 : decode prog_1_method_10_code 67 = .ok (.getfield 25, 3) := by decide +kernel
set_option maxRecDepth 100000 in
theorem dX10_site_70 : decode prog_1_method_10_code 70 = .ok (.new 19, 3) := by decide +kernel
set_option maxRecDepth 100000 in
theorem dX10_site_73 : decode prog_1_method_10_code 73 = .ok (.dup, 1) := by decide +kernel
set_option maxRecDepth 100000 in
theorem dX10_site_74 : decode prog_1_method_10_code 74 = .ok (.aload_n 3, 1) := by decide +kernel
set_option maxRecDepth 100000 in
theorem dX10_site_75 : decode prog_1_method_10_code 75 = .ok (.getfield 106, 3) := by decide +kernel
set_option maxRecDepth 100000 in
theorem dX10_site_78 : decode prog_1_method_10_code 78 = .ok (.aload 4, 2) := by decide +kernel
set_option maxRecDepth 100000 in
theorem dX10_site_80 : decode prog_1_method_10_code 80 = .ok (.invokespecial 173, 3) := by decide +kernel
set_option maxRecDepth 100000 in
theorem dX10_site_83 : decode prog_1_method_10_code 83 = .ok (.aastore, 1) := by decide +kernel
set_option maxRecDepth 100000 in
theorem dX10_site_84 : decode prog_1_method_10_code 84 = .ok (.aload_n 0, 1) := by decide +kernel
set_option maxRecDepth 100000 in
theorem dX10_site_85 : decode prog_1_method_10_code 85 = .ok (.dup, 1) := by decide +kernel
set_option maxRecDepth 100000 in
theorem dX10_site_86 : decode prog_1_method_10_code 86 = .ok (.getfield 25, 3) := by decide +kernel
set_option maxRecDepth 100000 in
theorem dX10_site_89 : decode prog_1_method_10_code 89 = .ok (.iconst 1, 1) := by decide +kernel
set_option maxRecDepth 100000 in
theorem dX10_site_90 : decode prog_1_method_10_code 90 = .ok (.iadd, 1) := by decide +kernel
set_option maxRecDepth 100000 in
theorem dX10_site_91 : decode prog_1_method_10_code 91 = .ok (.putfield 25, 3) := by decide +kernel
set_option maxRecDepth 100000 in
theorem dX10_site_94 : decode prog_1_method_10_code 94 = .ok (.aload_n 0, 1) := by decide +kernel
set_option maxRecDepth 100000 in
theorem dX10_site_95 : decode prog_1_method_10_code 95 = .ok (.getfield 25, 3) := by decide +kernel
set_option maxRecDepth 100000 in
theorem dX10_site_98 : decode prog_1_method_10_code 98 = .ok (.iconst 1, 1) := by decide +kernel
set_option maxRecDepth 100000 in
theorem dX10_site_99 : decode prog_1_method_10_code 99 = .ok (.isub, 1) := by decide +kernel
set_option maxRecDepth 100000 in
theorem dX10_site_100 : decode prog_1_method_10_code 100 = .ok (.ireturn, 1) := by decide +kernel
abbrev dz5 : List aV := [.inr (.inr none), .inr (.inr none), .inl 0]
set_option maxRecDepth 100000 in
theorem dz5_ok : ∀ j, j < 3 → defaultValue (tyX7 j) = vp_V (dz5.map tv) j := by decide +kernel
set_option maxRecDepth 100000 in
theorem okX7_init : mOk miX7_init 2 := ⟨(gd_of 662 rfl rfl), (gd_of 85 rfl rfl), by decide +kernel, ⟨by decide +kernel, by decide +kernel, by decide +kernel⟩, by decide⟩
set_option maxRecDepth 100000 in
theorem ac1 : ∀ c ∈ ([5] : List Nat), AC c 1 := fun c hc => by
  cases List.mem_singleton.mp hc
  exact ⟨_, rfl, Or.inl rfl⟩
set_option maxRecDepth 100000 in
theorem pl10_25_m {mi : aM} {x : Int32} (ho : "HandleModels" = mi.1.cls) : ∀ c ∈ ([8] : List Nat), FL mi.1.cls 25 c 3 ∧ FT c 3 (.inl x) ∧ FW mi c 3 := fun c h9 => by
  have h8 := fl10_25 c h9
  rw [← ho]
  refine ⟨h8, ?_⟩
  simp only [List.mem_cons, List.not_mem_nil, or_false] at h9
  rcases h9 with rfl
  · exact ⟨ft_int rfl (by decide +kernel), ⟨_, rfl, Or.inl rfl⟩⟩
def fX10_site (z : Nat → Nat) (a0 : Nat) (x1 : Int32) (x2 : Int32) (h : aH) : Option (Int32 × aH) :=
  (obO h a0 8).bind fun fs102 =>
  (fX10_handleAt z a0 x1 h).bind fun q101 =>
  (obO q101.2 a0 8).bind fun fs104 =>
  (fX10_handleAt z a0 x2 q101.2).bind fun q103 =>
  (Option.elim q101.1
  (some ((-2), q103.2))
  fun a105 =>
  (Option.elim q103.1
  (some ((-2), q103.2))
  fun a106 =>
  (rdR q103.2 a106 [0, 1] 1).bind fun r107 =>
  (r107).bind fun a109 =>
  (obO q103.2 a109 6).bind fun fs110 =>
  (fX8_count z a109 q103.2).bind fun q108 =>
  (if q108.1 = 0 then
  (rdR q108.2 a106 [0, 1] 1).bind fun r111 =>
  (r111).bind fun a112 =>
  (rdI q108.2 a112 [6] 1).bind fun x113 =>
  (if x113 = 0 then
  (rdI q108.2 a0 [8] 3).bind fun x114 =>
  (if x114 < 10 then
  (rdR q108.2 a0 [8] 2).bind fun r115 =>
  (rdI q108.2 a0 [8] 3).bind fun x116 =>
  (rdR (hnew q108.2 3 (.inr (5, dz5))) a105 [0, 1] 1).bind fun r117 =>
  (fX7_init z q108.2.1 r117 (some a106) (hnew q108.2 3 (.inr (5, dz5)))).bind fun q118 =>
  (r115).bind fun a119 =>
  (awR q118 a119 x116 1 [5] q108.2.1).bind fun h120 =>
  (rdI h120 a0 [8] 3).bind fun x121 =>
  (wrF h120 a0 [8] 3 (.inl (x121 + 1))).bind fun h122 =>
  (rdI h122 a0 [8] 3).bind fun x123 =>
  some ((x123 - 1), h122)
  else
  some ((-5), q108.2))
  else
  some ((-4), q108.2))
  else
  some ((-4), q108.2))))
set_option maxHeartbeats 4000000 in
set_option maxRecDepth 100000 in
theorem xX10_site {l : Launch} {g : aG} {d : Nat} (hK : 2 ≤ d) {a0 : Nat} {x1 : Int32} {x2 : Int32} {h : aH} {q : Int32 × aH} (hf : fX10_site g.2.2 a0 x1 x2 h = some q) : Ev l g miX10_site d [.inr (.inr (some a0)), .inl x1, .inl x2] h (some (.inl q.1), q.2) := by
  obtain ⟨d, rfl⟩ : ∃ e, d = e + 1 := ⟨d - 1, by omega⟩
  refine ⟨?_, Or.inl rfl, Nat.le_of_ble_eq_true rfl⟩
  unfold fX10_site at hf
  show Y l g miX10_site (d + 1) 0 [some (.inr (.inr (some a0))), some (.inl x1), some (.inl x2), none, none] [] h _
  refine y_aload_n (i := 0) dX10_site_0 rfl rfl ?_
  refine y_iload_n (i := 1) dX10_site_1 rfl rfl ?_
  replace hf := bnd hf
  obtain ⟨fs102, efs102, hf⟩ := hf
  replace hf := bnd hf
  obtain ⟨q101, eq101, hf⟩ := hf
  refine y_callV (mj := miX10_handleAt) (args := [.inl x1]) (st := []) dX10_site_2 (gd_of 263 rfl rfl) (gd_of 265 rfl rfl) (gd_of 1 rfl rfl) okX10_handleAt (obO_spec efs102) rfl rfl (xX10_handleAt (by omega) eq101) (Nat.le_of_ble_eq_true rfl) rfl ?_
  show Y l g miX10_site (d + 1) 5 [some (.inr (.inr (some a0))), some (.inl x1), some (.inl x2), none, none] [.inr (.inr q101.1)] q101.2 _
  refine y_astore_n (i := 3) (lv2 := [some (.inr (.inr (some a0))), some (.inl x1), some (.inl x2), some (.inr (.inr q101.1)), none]) dX10_site_5 rfl (by decide) rfl ?_
  refine y_aload_n (i := 0) dX10_site_6 rfl rfl ?_
  refine y_iload_n (i := 2) dX10_site_7 rfl rfl ?_
  replace hf := bnd hf
  obtain ⟨fs104, efs104, hf⟩ := hf
  replace hf := bnd hf
  obtain ⟨q103, eq103, hf⟩ := hf
  refine y_callV (mj := miX10_handleAt) (args := [.inl x2]) (st := []) dX10_site_8 (gd_of 263 rfl rfl) (gd_of 265 rfl rfl) (gd_of 1 rfl rfl) okX10_handleAt (obO_spec efs104) rfl rfl (xX10_handleAt (by omega) eq103) (Nat.le_of_ble_eq_true rfl) rfl ?_
  show Y l g miX10_site (d + 1) 11 [some (.inr (.inr (some a0))), some (.inl x1), some (.inl x2), some (.inr (.inr q101.1)), none] [.inr (.inr q103.1)] q103.2 _
  refine y_astore (i := 4) (lv2 := [some (.inr (.inr (some a0))), some (.inl x1), some (.inl x2), some (.inr (.inr q101.1)), some (.inr (.inr q103.1))]) dX10_site_11 (by decide) rfl ?_
  refine y_aload_n (i := 3) dX10_site_13 rfl rfl ?_
  refine y_ifnull (tgt := 22) dX10_site_14 (by decide) (fun hc => ?_) (fun a105 hc => ?_)
  · rw [hc] at hf; rw [hc]; rw [Option.elim_none] at hf
    refine y_bipush (v := (-2)) dX10_site_22 (by decide) ?_
    obtain rfl := Option.some.inj hf
    exact y_ret (v := some (.inl (-2))) dX10_site_24 rfl
  · rw [hc] at hf; rw [hc]; rw [Option.elim_some] at hf
    refine y_aload (i := 4) dX10_site_17 rfl ?_
    refine y_ifnonnull (tgt := 25) dX10_site_19 (by decide) (fun hc => ?_) (fun a106 hc => ?_)
    · rw [hc] at hf; rw [hc]; rw [Option.elim_none] at hf
      refine y_bipush (v := (-2)) dX10_site_22 (by decide) ?_
      obtain rfl := Option.some.inj hf
      exact y_ret (v := some (.inl (-2))) dX10_site_24 rfl
    · rw [hc] at hf; rw [hc]; rw [Option.elim_some] at hf
      refine y_aload (i := 4) dX10_site_25 rfl ?_
      replace hf := bnd hf
      obtain ⟨r107, er107, hf⟩ := hf
      refine y_getR er107 fl10_106 dX10_site_27 ?_
      replace hf := bnd hf
      obtain ⟨a109, rfl, hf⟩ := hf
      replace hf := bnd hf
      obtain ⟨fs110, efs110, hf⟩ := hf
      replace hf := bnd hf
      obtain ⟨q108, eq108, hf⟩ := hf
      refine y_callV (mj := miX8_count) (args := []) (st := []) dX10_site_30 (gd_of 658 rfl rfl) (gd_of 314 rfl rfl) (gd_of 315 rfl rfl) okX8_count (obO_spec efs110) rfl rfl (xX8_count (by omega) eq108) (Nat.le_of_ble_eq_true rfl) rfl ?_
      show Y l g miX10_site (d + 1) 33 [some (.inr (.inr (some a0))), some (.inl x1), some (.inl x2), some (.inr (.inr (some a105))), some (.inr (.inr (some a106)))] [.inl q108.1] q108.2 _
      refine y_if_ne (tgt := 47) dX10_site_33 (by decide) (fun hc => ?_) (fun hc => ?_)
      · rw [if_neg hc] at hf
        refine y_bipush (v := (-4)) dX10_site_47 (by decide) ?_
        obtain rfl := Option.some.inj hf
        exact y_ret (v := some (.inl (-4))) dX10_site_49 rfl
      · rw [if_pos hc] at hf
        refine y_aload (i := 4) dX10_site_36 rfl ?_
        replace hf := bnd hf
        obtain ⟨r111, er111, hf⟩ := hf
        refine y_getR er111 fl10_106 dX10_site_38 ?_
        replace hf := bnd hf
        obtain ⟨a112, rfl, hf⟩ := hf
        replace hf := bnd hf
        obtain ⟨x113, ex113, hf⟩ := hf
        refine y_getI ex113 fl10_170 dX10_site_41 ?_
        refine y_if_eq (tgt := 50) dX10_site_44 (by decide) (fun hc => ?_) (fun hc => ?_)
        · rw [if_pos hc] at hf
          refine y_aload_n (i := 0) dX10_site_50 rfl rfl ?_
          replace hf := bnd hf
          obtain ⟨x114, ex114, hf⟩ := hf
          refine y_getI ex114 fl10_25 dX10_site_51 ?_
          refine y_bipush (v := 10) dX10_site_54 (by decide) ?_
          refine y_icmp_lt (tgt := 62) dX10_site_56 (by decide) (fun hc => ?_) (fun hc => ?_)
          · rw [if_pos hc] at hf
            refine y_aload_n (i := 0) dX10_site_62 rfl rfl ?_
            replace hf := bnd hf
            obtain ⟨r115, er115, hf⟩ := hf
            refine y_getR er115 fl10_21 dX10_site_63 ?_
            refine y_aload_n (i := 0) dX10_site_66 rfl rfl ?_
            replace hf := bnd hf
            obtain ⟨x116, ex116, hf⟩ := hf
            refine y_getI ex116 fl10_25 dX10_site_67 ?_
            refine y_new (c := 5) (fs := dz5) rfl tyX7 tyX7_ok rfl dz5_ok (gd_of 96 rfl rfl) (gd_of 659 rfl rfl) (gd_of 85 rfl rfl) dX10_site_70 ?_
            refine y_dup dX10_site_73 rfl ?_
            refine y_aload_n (i := 3) dX10_site_74 rfl rfl ?_
            replace hf := bnd hf
            obtain ⟨r117, er117, hf⟩ := hf
            refine y_getR er117 fl10_106 dX10_site_75 ?_
            refine y_aload (i := 4) dX10_site_78 rfl ?_
            replace hf := bnd hf
            obtain ⟨q118, eq118, hf⟩ := hf
            refine y_callI (mj := miX7_init) (args := [.inr (.inr r117), .inr (.inr (some a106))]) (st := [.inr (.inr (some q108.2.1)), .inl x116, .inr (.inr r115)]) dX10_site_80 (Or.inl (gd_of 660 rfl rfl)) (gd_of 661 rfl rfl) rfl rfl okX7_init (xX7_init (by omega) eq118) (Nat.le_of_ble_eq_true rfl) rfl ?_
            show Y l g miX10_site (d + 1) 83 [some (.inr (.inr (some a0))), some (.inl x1), some (.inl x2), some (.inr (.inr (some a105))), some (.inr (.inr (some a106)))] [.inr (.inr (some q108.2.1)), .inl x116, .inr (.inr r115)] q118 _
            replace hf := bnd hf
            obtain ⟨a119, rfl, hf⟩ := hf
            replace hf := bnd hf
            obtain ⟨h120, eh120, hf⟩ := hf
            refine y_aastore eh120 ac1 dX10_site_83 ?_
            refine y_aload_n (i := 0) dX10_site_84 rfl rfl ?_
            refine y_dup dX10_site_85 rfl ?_
            replace hf := bnd hf
            obtain ⟨x121, ex121, hf⟩ := hf
            refine y_getI ex121 fl10_25 dX10_site_86 ?_
            refine y_iconst (v := 1) dX10_site_89 (by decide) ?_
            refine y_iadd dX10_site_90 ?_
            replace hf := bnd hf
            obtain ⟨h122, eh122, hf⟩ := hf
            refine y_put eh122 (pl10_25_m rfl) dX10_site_91 ?_
            refine y_aload_n (i := 0) dX10_site_94 rfl rfl ?_
            replace hf := bnd hf
            obtain ⟨x123, ex123, hf⟩ := hf
            refine y_getI ex123 fl10_25 dX10_site_95 ?_
            refine y_iconst (v := 1) dX10_site_98 (by decide) ?_
            refine y_isub dX10_site_99 ?_
            obtain rfl := Option.some.inj hf
            exact y_ret (v := some (.inl (x123 - 1))) dX10_site_100 rfl
          · rw [if_neg hc] at hf
            refine y_bipush (v := (-5)) dX10_site_59 (by decide) ?_
            obtain rfl := Option.some.inj hf
            exact y_ret (v := some (.inl (-5))) dX10_site_61 rfl
        · rw [if_neg hc] at hf
          refine y_bipush (v := (-4)) dX10_site_47 (by decide) ?_
          obtain rfl := Option.some.inj hf
          exact y_ret (v := some (.inl (-4))) dX10_site_49 rfl
set_option maxRecDepth 100000 in
theorem dX4_count_0 : decode prog_6_method_2_code 0 = .ok (.aload_n 0, 1) := by decide +kernel
set_option maxRecDepth 100000 in
theorem dX4_count_1 : decode prog_6_method_2_code 1 = .ok (.getfield 18, 3) := by decide +kernel
set_option maxRecDepth 100000 in
theorem dX4_count_4 : decode prog_6_method_2_code 4 = .ok (.ireturn, 1) := by decide +kernel

def fX4_count (z : Nat → Nat) (a0 : Nat) (h : aH) : Option (Int32 × aH) :=
  (rdI h a0 [3] 2).bind fun x101 =>
  some (x101, h)
set_option maxHeartbeats 4000000 in
set_option maxRecDepth 100000 in
theorem xX4_count {l : Launch} {g : aG} {d : Nat} (hK : 0 ≤ d) {a0 : Nat} {h : aH} {q : Int32 × aH} (hf : fX4_count g.2.2 a0 h = some q) : Ev l g miX4_count d [.inr (.inr (some a0))] h (some (.inl q.1), q.2) := by
  refine ⟨?_, Or.inl rfl, Nat.le_of_ble_eq_true rfl⟩
  unfold fX4_count at hf
  show Y l g miX4_count d 0 [some (.inr (.inr (some a0)))] [] h _
  refine y_aload_n (i := 0) dX4_count_0 rfl rfl ?_
  replace hf := bnd hf
  obtain ⟨x101, ex101, hf⟩ := hf
  refine y_getI ex101 fl4_18 dX4_count_1 ?_
  obtain rfl := Option.some.inj hf
  exact y_ret (v := some (.inl x101)) dX4_count_4 rfl
set_option maxRecDepth 100000 in
theorem dX10_told_0 : decode prog_1_method_17_code 0 = .ok (.iload_n 1, 1) := by decide +kernel
set_option maxRecDepth 100000 in
theorem dX10_told_1 : decode prog_1_method_17_code 1 = .ok (.tableswitch 90 0 6 #[43, 48, 56, 61, 69, 77, 85], 43) := by decide +kernel
set_option maxRecDepth 100000 in
theorem dX10_told_44 : decode prog_1_method_17_code 44 = .ok (.aload_n 0, 1) := by decide +kernel
set_option maxRecDepth 100000 in
theorem dX10_told_45 : decode prog_1_method_17_code 45 = .ok (.getfield 15, 3) := by decide +kernel
set_option maxRecDepth 100000 in
theorem dX10_told_48 : decode prog_1_method_17_code 48 = .ok (.ireturn, 1) := by decide +kernel
set_option maxRecDepth 100000 in
theorem dX10_told_49 : decode prog_1_method_17_code 49 = .ok (.aload_n 0, 1) := by decide +kernel
set_option maxRecDepth 100000 in
theorem dX10_told_50 : decode prog_1_method_17_code 50 = .ok (.getfield 31, 3) := by decide +kernel
set_option maxRecDepth 100000 in
theorem dX10_told_53 : decode prog_1_method_17_code 53 = .ok (.invokevirtual 192, 3) := by decide +kernel
set_option maxRecDepth 100000 in
theorem dX10_told_56 : decode prog_1_method_17_code 56 = .ok (.ireturn, 1) := by decide +kernel
set_option maxRecDepth 100000 in
theorem dX10_told_57 : decode prog_1_method_17_code 57 = .ok (.aload_n 0, 1) := by decide +kernel
set_option maxRecDepth 100000 in
theorem dX10_told_58 : decode prog_1_method_17_code 58 = .ok (.getfield 25, 3) := by decide +kernel
set_option maxRecDepth 100000 in
theorem dX10_told_61 : decode prog_1_method_17_code 61 = .ok (.ireturn, 1) := by decide +kernel
set_option maxRecDepth 100000 in
theorem dX10_told_62 : decode prog_1_method_17_code 62 = .ok (.aload_n 0, 1) := by decide +kernel
set_option maxRecDepth 100000 in
theorem dX10_told_63 : decode prog_1_method_17_code 63 = .ok (.getfield 38, 3) := by decide +kernel
set_option maxRecDepth 100000 in
theorem dX10_told_66 : decode prog_1_method_17_code 66 = .ok (.invokevirtual 147, 3) := by decide +kernel
set_option maxRecDepth 100000 in
theorem dX10_told_69 : decode prog_1_method_17_code 69 = .ok (.ireturn, 1) := by decide +kernel
set_option maxRecDepth 100000 in
theorem dX10_told_70 : decode prog_1_method_17_code 70 = .ok (.aload_n 0, 1) := by decide +kernel
set_option maxRecDepth 100000 in
theorem dX10_told_71 : decode prog_1_method_17_code 71 = .ok (.getfield 47, 3) := by decide +kernel
set_option maxRecDepth 100000 in
theorem dX10_told_74 : decode prog_1_method_17_code 74 = .ok (.getfield 193, 3) := by decide +kernel
set_option maxRecDepth 100000 in
theorem dX10_told_77 : decode prog_1_method_17_code 77 = .ok (.ireturn, 1) := by decide +kernel
set_option maxRecDepth 100000 in
theorem dX10_told_78 : decode prog_1_method_17_code 78 = .ok (.aload_n 0, 1) := by decide +kernel
set_option maxRecDepth 100000 in
theorem dX10_told_79 : decode prog_1_method_17_code 79 = .ok (.getfield 47, 3) := by decide +kernel
set_option maxRecDepth 100000 in
theorem dX10_told_82 : decode prog_1_method_17_code 82 = .ok (.getfield 196, 3) := by decide +kernel
set_option maxRecDepth 100000 in
theorem dX10_told_85 : decode prog_1_method_17_code 85 = .ok (.ireturn, 1) := by decide +kernel
set_option maxRecDepth 100000 in
theorem dX10_told_86 : decode prog_1_method_17_code 86 = .ok (.aload_n 0, 1) := by decide +kernel
set_option maxRecDepth 100000 in
theorem dX10_told_87 : decode prog_1_method_17_code 87 = .ok (.getfield 58, 3) := by decide +kernel
set_option maxRecDepth 100000 in
theorem dX10_told_90 : decode prog_1_method_17_code 90 = .ok (.ireturn, 1) := by decide +kernel
set_option maxRecDepth 100000 in
theorem dX10_told_91 : decode prog_1_method_17_code 91 = .ok (.bipush (-3), 2) := by decide +kernel
set_option maxRecDepth 100000 in
theorem dX10_told_93 : decode prog_1_method_17_code 93 = .ok (.ireturn, 1) := by decide +kernel
set_option maxRecDepth 100000 in
theorem okX4_count : mOk miX4_count 0 := ⟨(gd_of 721 rfl rfl), (gd_of 73 rfl rfl), by decide +kernel, ⟨by decide +kernel, by decide +kernel, by decide +kernel⟩, by decide⟩
set_option maxRecDepth 100000 in
theorem fl10_193 : ∀ c ∈ ([4] : List Nat), FL "HandleModels" 193 c 2 := fun c hc => by
  cases List.mem_singleton.mp hc
  exact ⟨_, "HandleModels$Runner", rfl, by decide, (gd_of 144 rfl rfl), Or.inl rfl⟩
set_option maxRecDepth 100000 in
theorem fl10_196 : ∀ c ∈ ([4] : List Nat), FL "HandleModels" 196 c 3 := fun c hc => by
  cases List.mem_singleton.mp hc
  exact ⟨_, "HandleModels$Runner", rfl, by decide, (gd_of 146 rfl rfl), Or.inl rfl⟩
def fX10_told (z : Nat → Nat) (a0 : Nat) (x1 : Int32) (h : aH) : Option (Int32 × aH) :=
  (if x1 = 0 then
  (rdI h a0 [8] 1).bind fun x101 =>
  some (x101, h)
  else
  (if x1 = 1 then
  (rdR h a0 [8] 4).bind fun r102 =>
  (r102).bind fun a104 =>
  (obO h a104 3).bind fun fs105 =>
  (fX4_count z a104 h).bind fun q103 =>
  some (q103.1, q103.2)
  else
  (if x1 = 2 then
  (rdI h a0 [8] 3).bind fun x106 =>
  some (x106, h)
  else
  (if x1 = 3 then
  (rdR h a0 [8] 5).bind fun r107 =>
  (r107).bind fun a109 =>
  (obO h a109 7).bind fun fs110 =>
  (fX9_count z a109 h).bind fun q108 =>
  some (q108.1, q108.2)
  else
  (if x1 = 4 then
  (rdR h a0 [8] 6).bind fun r111 =>
  (r111).bind fun a112 =>
  (rdI h a112 [4] 2).bind fun x113 =>
  some (x113, h)
  else
  (if x1 = 5 then
  (rdR h a0 [8] 6).bind fun r114 =>
  (r114).bind fun a115 =>
  (rdI h a115 [4] 3).bind fun x116 =>
  some (x116, h)
  else
  (if x1 = 6 then
  (rdI h a0 [8] 9).bind fun x117 =>
  some (x117, h)
  else
  some ((-3), h))))))))
set_option maxHeartbeats 4000000 in
set_option maxRecDepth 100000 in
theorem xX10_told {l : Launch} {g : aG} {d : Nat} (hK : 1 ≤ d) {a0 : Nat} {x1 : Int32} {h : aH} {q : Int32 × aH} (hf : fX10_told g.2.2 a0 x1 h = some q) : Ev l g miX10_told d [.inr (.inr (some a0)), .inl x1] h (some (.inl q.1), q.2) := by
  obtain ⟨d, rfl⟩ : ∃ e, d = e + 1 := ⟨d - 1, by omega⟩
  refine ⟨?_, Or.inl rfl, Nat.le_of_ble_eq_true rfl⟩
  unfold fX10_told at hf
  show Y l g miX10_told (d + 1) 0 [some (.inr (.inr (some a0))), some (.inl x1)] [] h _
  refine y_iload_n (i := 1) dX10_told_0 rfl rfl ?_
  refine y_table dX10_told_1 [(0, 44), (1, 49), (2, 57), (3, 62), (4, 70), (5, 78), (6, 86)] 91 (by decide) (by decide) (by decide) (by decide) ?_
  refine y_swc (fun hc => ?_) (fun hc => ?_)
  · rw [if_pos hc] at hf
    refine y_aload_n (i := 0) dX10_told_44 rfl rfl ?_
    replace hf := bnd hf
    obtain ⟨x101, ex101, hf⟩ := hf
    refine y_getI ex101 fl10_15 dX10_told_45 ?_
    obtain rfl := Option.some.inj hf
    exact y_ret (v := some (.inl x101)) dX10_told_48 rfl
  rw [if_neg hc] at hf
  refine y_swc (fun hc => ?_) (fun hc => ?_)
  · rw [if_pos hc] at hf
    refine y_aload_n (i := 0) dX10_told_49 rfl rfl ?_
    replace hf := bnd hf
    obtain ⟨r102, er102, hf⟩ := hf
    refine y_getR er102 fl10_31 dX10_told_50 ?_
    replace hf := bnd hf
    obtain ⟨a104, rfl, hf⟩ := hf
    replace hf := bnd hf
    obtain ⟨fs105, efs105, hf⟩ := hf
    replace hf := bnd hf
    obtain ⟨q103, eq103, hf⟩ := hf
    refine y_callV (mj := miX4_count) (args := []) (st := []) dX10_told_53 (gd_of 718 rfl rfl) (gd_of 719 rfl rfl) (gd_of 720 rfl rfl) okX4_count (obO_spec efs105) rfl rfl (xX4_count (by omega) eq103) (Nat.le_of_ble_eq_true rfl) rfl ?_
    show Y l g miX10_told (d + 1) 56 [some (.inr (.inr (some a0))), some (.inl x1)] [.inl q103.1] q103.2 _
    obtain rfl := Option.some.inj hf
    exact y_ret (v := some (.inl q103.1)) dX10_told_56 rfl
  rw [if_neg hc] at hf
  refine y_swc (fun hc => ?_) (fun hc => ?_)
  · rw [if_pos hc] at hf
    refine y_aload_n (i := 0) dX10_told_57 rfl rfl ?_
    replace hf := bnd hf
    obtain ⟨x106, ex106, hf⟩ := hf
    refine y_getI ex106 fl10_25 dX10_told_58 ?_
    obtain rfl := Option.some.inj hf
    exact y_ret (v := some (.inl x106)) dX10_told_61 rfl
  rw [if_neg hc] at hf
  refine y_swc (fun hc => ?_) (fun hc => ?_)
  · rw [if_pos hc] at hf
    refine y_aload_n (i := 0) dX10_told_62 rfl rfl ?_
    replace hf := bnd hf
    obtain ⟨r107, er107, hf⟩ := hf
    refine y_getR er107 fl10_38 dX10_told_63 ?_
    replace hf := bnd hf
    obtain ⟨a109, rfl, hf⟩ := hf
    replace hf := bnd hf
    obtain ⟨fs110, efs110, hf⟩ := hf
    replace hf := bnd hf
    obtain ⟨q108, eq108, hf⟩ := hf
    refine y_callV (mj := miX9_count) (args := []) (st := []) dX10_told_66 (gd_of 382 rfl rfl) (gd_of 383 rfl rfl) (gd_of 384 rfl rfl) okX9_count (obO_spec efs110) rfl rfl (xX9_count (by omega) eq108) (Nat.le_of_ble_eq_true rfl) rfl ?_
    show Y l g miX10_told (d + 1) 69 [some (.inr (.inr (some a0))), some (.inl x1)] [.inl q108.1] q108.2 _
    obtain rfl := Option.some.inj hf
    exact y_ret (v := some (.inl q108.1)) dX10_told_69 rfl
  rw [if_neg hc] at hf
  refine y_swc (fun hc => ?_) (fun hc => ?_)
  · rw [if_pos hc] at hf
    refine y_aload_n (i := 0) dX10_told_70 rfl rfl ?_
    replace hf := bnd hf
    obtain ⟨r111, er111, hf⟩ := hf
    refine y_getR er111 fl10_47 dX10_told_71 ?_
    replace hf := bnd hf
    obtain ⟨a112, rfl, hf⟩ := hf
    replace hf := bnd hf
    obtain ⟨x113, ex113, hf⟩ := hf
    refine y_getI ex113 fl10_193 dX10_told_74 ?_
    obtain rfl := Option.some.inj hf
    exact y_ret (v := some (.inl x113)) dX10_told_77 rfl
  rw [if_neg hc] at hf
  refine y_swc (fun hc => ?_) (fun hc => ?_)
  · rw [if_pos hc] at hf
    refine y_aload_n (i := 0) dX10_told_78 rfl rfl ?_
    replace hf := bnd hf
    obtain ⟨r114, er114, hf⟩ := hf
    refine y_getR er114 fl10_47 dX10_told_79 ?_
    replace hf := bnd hf
    obtain ⟨a115, rfl, hf⟩ := hf
    replace hf := bnd hf
    obtain ⟨x116, ex116, hf⟩ := hf
    refine y_getI ex116 fl10_196 dX10_told_82 ?_
    obtain rfl := Option.some.inj hf
    exact y_ret (v := some (.inl x116)) dX10_told_85 rfl
  rw [if_neg hc] at hf
  refine y_swc (fun hc => ?_) (fun hc => ?_)
  · rw [if_pos hc] at hf
    refine y_aload_n (i := 0) dX10_told_86 rfl rfl ?_
    replace hf := bnd hf
    obtain ⟨x117, ex117, hf⟩ := hf
    refine y_getI ex117 fl10_58 dX10_told_87 ?_
    obtain rfl := Option.some.inj hf
    exact y_ret (v := some (.inl x117)) dX10_told_90 rfl
  rw [if_neg hc] at hf
  refine y_swn ?_
  refine y_bipush (v := (-3)) dX10_told_91 (by decide) ?_
  obtain rfl := Option.some.inj hf
  exact y_ret (v := some (.inl (-3))) dX10_told_93 rfl
set_option maxRecDepth 100000 in
theorem dX10_turn_0 : decode prog_1_method_12_code 0 = .ok (.aload_n 0, 1) := by decide +kernel
set_option maxRecDepth 100000 in
theorem dX10_turn_1 : decode prog_1_method_12_code 1 = .ok (.iload_n 1, 1) := by decide +kernel
set_option maxRecDepth 100000 in
theorem dX10_turn_2 : decode prog_1_method_12_code 2 = .ok (.invokevirtual 176, 3) := by decide +kernel
set_option maxRecDepth 100000 in
theorem dX10_turn_5 : decode prog_1_method_12_code 5 = .ok (.astore_n 3, 1) := by decide +kernel
set_option maxRecDepth 100000 in
theorem dX10_turn_6 : decode prog_1_method_12_code 6 = .ok (.aload_n 0, 1) := by decide +kernel
set_option maxRecDepth 100000 in
theorem dX10_turn_7 : decode prog_1_method_12_code 7 = .ok (.iload_n 2, 1) := by decide +kernel
set_option maxRecDepth 100000 in
theorem dX10_turn_8 : decode prog_1_method_12_code 8 = .ok (.invokevirtual 82, 3) := by decide +kernel
set_option maxRecDepth 100000 in
theorem dX10_turn_11 : decode prog_1_method_12_code 11 = .ok (.astore 4, 2) := by decide +kernel
set_option maxRecDepth 100000 in
theorem dX10_turn_13 : decode prog_1_method_12_code 13 = .ok (.aload_n 3, 1) := by decide +kernel
set_option maxRecDepth 100000 in
theorem dX10_turn_14 : decode prog_1_method_12_code 14 = .ok (.ifnull 8, 3) := by decide +kernel
set_option maxRecDepth 100000 in
theorem dX10_turn_17 : decode prog_1_method_12_code 17 = .ok (.aload 4, 2) := by decide +kernel
set_option maxRecDepth 100000 in
theorem dX10_turn_19 : decode prog_1_method_12_code 19 = .ok (.ifnonnull 6, 3) := by decide +kernel
set_option maxRecDepth 100000 in
theorem dX10_turn_22 : decode prog_1_method_12_code 22 = .ok (.bipush (-2), 2) := by decide +kernel
set_option maxRecDepth 100000 in
theorem dX10_turn_24 : decode prog_1_method_12_code 24 = .ok (.ireturn, 1) := by decide +kernel
set_option maxRecDepth 100000 in
theorem dX10_turn_25 : decode prog_1_method_12_code 25 = .ok (.aload_n 3, 1) := by decide +kernel
set_option maxRecDepth 100000 in
theorem dX10_turn_26 : decode prog_1_method_12_code 26 = .ok (.getfield 181, 3) := by decide +kernel
set_option maxRecDepth 100000 in
theorem dX10_turn_29 : decode prog_1_method_12_code 29 = .ok (.iconst (-1), 1) := by decide +kernel
set_option maxRecDepth 100000 in
theorem dX10_turn_30 : decode prog_1_method_12_code 30 = .ok (.if_icmp .eq 18, 3) := by decide +kernel
set_option maxRecDepth 100000 in
theorem dX10_turn_33 : decode prog_1_method_12_code 33 = .ok (.aload 4, 2) := by decide +kernel
set_option maxRecDepth 100000 in
theorem dX10_turn_35 : decode prog_1_method_12_code 35 = .ok (.getfield 106, 3) := by decide +kernel
set_option maxRecDepth 100000 in
theorem dX10_turn_38 : decode prog_1_method_12_code 38 = .ok (.aload_n 3, 1) := by decide +kernel
set_option maxRecDepth 100000 in
theorem dX10_turn_39 : decode prog_1_method_12_code 39 = .ok (.getfield 180, 3) := by decide +kernel
set_option maxRecDepth 100000 in
theorem dX10_turn_42 : decode prog_1_method_12_code 42 = .ok (.invokevirtual 188, 3) := by decide +kernel
set_option maxRecDepth 100000 in
theorem dX10_turn_45 : decode prog_1_method_12_code 45 = .ok (.ifCond .ne 6, 3) := by decide +kernel
set_option maxRecDepth 100000 in
theorem dX10_turn_48 : decode prog_1_method_12_code 48 = .ok (.bipush (-4), 2) := by decide +kernel
set_option maxRecDepth 100000 in
theorem dX10_turn_50 : decode prog_1_method_12_code 50 = .ok (.ireturn, 1) := by decide +kernel
set_option maxRecDepth 100000 in
theorem dX10_turn_51 : decode prog_1_method_12_code 51 = .ok (.aload_n 3, 1) := by decide +kernel
set_option maxRecDepth 100000 in
theorem dX10_turn_52 : decode prog_1_method_12_code 52 = .ok (.iload_n 2, 1) := by decide +kernel
set_option maxRecDepth 100000 in
theorem dX10_turn_53 : decode prog_1_method_12_code 53 = .ok (.putfield 181, 3) := by decide +kernel
set_option maxRecDepth 100000 in
theorem dX10_turn_56 : decode prog_1_method_12_code 56 = .ok (.iconst 1, 1) := by decide +kernel
set_option maxRecDepth 100000 in
theorem dX10_turn_57 : decode prog_1_method_12_code 57 = .ok (.ireturn, 1) := by decide +kernel

def fX10_turn (z : Nat → Nat) (a0 : Nat) (x1 : Int32) (x2 : Int32) (h : aH) : Option (Int32 × aH) :=
  (obO h a0 8).bind fun fs102 =>
  (fX10_siteAt z a0 x1 h).bind fun q101 =>
  (obO q101.2 a0 8).bind fun fs104 =>
  (fX10_handleAt z a0 x2 q101.2).bind fun q103 =>
  (Option.elim q101.1
  (some ((-2), q103.2))
  fun a105 =>
  (Option.elim q103.1
  (some ((-2), q103.2))
  fun a106 =>
  (rdI q103.2 a105 [5] 2).bind fun x107 =>
  (if x107 = (-1) then
  some ((-4), q103.2)
  else
  (rdR q103.2 a106 [0, 1] 1).bind fun r108 =>
  (rdR q103.2 a105 [5] 0).bind fun r109 =>
  (r108).bind fun a111 =>
  (obO q103.2 a111 6).bind fun fs112 =>
  (fX8_alike z a111 r109 q103.2).bind fun q110 =>
  (if q110.1 = 0 then
  some ((-4), q110.2)
  else
  (wrF q110.2 a105 [5] 2 (.inl x2)).bind fun h113 =>
  some (1, h113)))))
set_option maxHeartbeats 4000000 in
set_option maxRecDepth 100000 in
theorem xX10_turn {l : Launch} {g : aG} {d : Nat} (hK : 3 ≤ d) {a0 : Nat} {x1 : Int32} {x2 : Int32} {h : aH} {q : Int32 × aH} (hf : fX10_turn g.2.2 a0 x1 x2 h = some q) : Ev l g miX10_turn d [.inr (.inr (some a0)), .inl x1, .inl x2] h (some (.inl q.1), q.2) := by
  obtain ⟨d, rfl⟩ : ∃ e, d = e + 1 := ⟨d - 1, by omega⟩
  refine ⟨?_, Or.inl rfl, Nat.le_of_ble_eq_true rfl⟩
  unfold fX10_turn at hf
  show Y l g miX10_turn (d + 1) 0 [some (.inr (.inr (some a0))), some (.inl x1), some (.inl x2), none, none] [] h _
  refine y_aload_n (i := 0) dX10_turn_0 rfl rfl ?_
  refine y_iload_n (i := 1) dX10_turn_1 rfl rfl ?_
  replace hf := bnd hf
  obtain ⟨fs102, efs102, hf⟩ := hf
  replace hf := bnd hf
  obtain ⟨q101, eq101, hf⟩ := hf
  refine y_callV (mj := miX10_siteAt) (args := [.inl x1]) (st := []) dX10_turn_2 (gd_of 681 rfl rfl) (gd_of 683 rfl rfl) (gd_of 33 rfl rfl) okX10_siteAt (obO_spec efs102) rfl rfl (xX10_siteAt (by omega) eq101) (Nat.le_of_ble_eq_true rfl) rfl ?_
  show Y l g miX10_turn (d + 1) 5 [some (.inr (.inr (some a0))), some (.inl x1), some (.inl x2), none, none] [.inr (.inr q101.1)] q101.2 _
  refine y_astore_n (i := 3) (lv2 := [some (.inr (.inr (some a0))), some (.inl x1), some (.inl x2), some (.inr (.inr q101.1)), none]) dX10_turn_5 rfl (by decide) rfl ?_
  refine y_aload_n (i := 0) dX10_turn_6 rfl rfl ?_
  refine y_iload_n (i := 2) dX10_turn_7 rfl rfl ?_
  replace hf := bnd hf
  obtain ⟨fs104, efs104, hf⟩ := hf
  replace hf := bnd hf
  obtain ⟨q103, eq103, hf⟩ := hf
  refine y_callV (mj := miX10_handleAt) (args := [.inl x2]) (st := []) dX10_turn_8 (gd_of 263 rfl rfl) (gd_of 265 rfl rfl) (gd_of 1 rfl rfl) okX10_handleAt (obO_spec efs104) rfl rfl (xX10_handleAt (by omega) eq103) (Nat.le_of_ble_eq_true rfl) rfl ?_
  show Y l g miX10_turn (d + 1) 11 [some (.inr (.inr (some a0))), some (.inl x1), some (.inl x2), some (.inr (.inr q101.1)), none] [.inr (.inr q103.1)] q103.2 _
  refine y_astore (i := 4) (lv2 := [some (.inr (.inr (some a0))), some (.inl x1), some (.inl x2), some (.inr (.inr q101.1)), some (.inr (.inr q103.1))]) dX10_turn_11 (by decide) rfl ?_
  refine y_aload_n (i := 3) dX10_turn_13 rfl rfl ?_
  refine y_ifnull (tgt := 22) dX10_turn_14 (by decide) (fun hc => ?_) (fun a105 hc => ?_)
  · rw [hc] at hf; rw [hc]; rw [Option.elim_none] at hf
    refine y_bipush (v := (-2)) dX10_turn_22 (by decide) ?_
    obtain rfl := Option.some.inj hf
    exact y_ret (v := some (.inl (-2))) dX10_turn_24 rfl
  · rw [hc] at hf; rw [hc]; rw [Option.elim_some] at hf
    refine y_aload (i := 4) dX10_turn_17 rfl ?_
    refine y_ifnonnull (tgt := 25) dX10_turn_19 (by decide) (fun hc => ?_) (fun a106 hc => ?_)
    · rw [hc] at hf; rw [hc]; rw [Option.elim_none] at hf
      refine y_bipush (v := (-2)) dX10_turn_22 (by decide) ?_
      obtain rfl := Option.some.inj hf
      exact y_ret (v := some (.inl (-2))) dX10_turn_24 rfl
    · rw [hc] at hf; rw [hc]; rw [Option.elim_some] at hf
      refine y_aload_n (i := 3) dX10_turn_25 rfl rfl ?_
      replace hf := bnd hf
      obtain ⟨x107, ex107, hf⟩ := hf
      refine y_getI ex107 fl10_181 dX10_turn_26 ?_
      refine y_iconst (v := (-1)) dX10_turn_29 (by decide) ?_
      refine y_icmp_eq (tgt := 48) dX10_turn_30 (by decide) (fun hc => ?_) (fun hc => ?_)
      · rw [if_pos hc] at hf
        refine y_bipush (v := (-4)) dX10_turn_48 (by decide) ?_
        obtain rfl := Option.some.inj hf
        exact y_ret (v := some (.inl (-4))) dX10_turn_50 rfl
      · rw [if_neg hc] at hf
        refine y_aload (i := 4) dX10_turn_33 rfl ?_
        replace hf := bnd hf
        obtain ⟨r108, er108, hf⟩ := hf
        refine y_getR er108 fl10_106 dX10_turn_35 ?_
        refine y_aload_n (i := 3) dX10_turn_38 rfl rfl ?_
        replace hf := bnd hf
        obtain ⟨r109, er109, hf⟩ := hf
        refine y_getR er109 fl10_180 dX10_turn_39 ?_
        replace hf := bnd hf
        obtain ⟨a111, rfl, hf⟩ := hf
        replace hf := bnd hf
        obtain ⟨fs112, efs112, hf⟩ := hf
        replace hf := bnd hf
        obtain ⟨q110, eq110, hf⟩ := hf
        refine y_callV (mj := miX8_alike) (args := [.inr (.inr r109)]) (st := []) dX10_turn_42 (gd_of 693 rfl rfl) (gd_of 355 rfl rfl) (gd_of 356 rfl rfl) okX8_alike (obO_spec efs112) rfl rfl (xX8_alike (by omega) eq110) (Nat.le_of_ble_eq_true rfl) rfl ?_
        show Y l g miX10_turn (d + 1) 45 [some (.inr (.inr (some a0))), some (.inl x1), some (.inl x2), some (.inr (.inr (some a105))), some (.inr (.inr (some a106)))] [.inl q110.1] q110.2 _
        refine y_if_ne (tgt := 51) dX10_turn_45 (by decide) (fun hc => ?_) (fun hc => ?_)
        · rw [if_neg hc] at hf
          refine y_aload_n (i := 3) dX10_turn_51 rfl rfl ?_
          refine y_iload_n (i := 2) dX10_turn_52 rfl rfl ?_
          replace hf := bnd hf
          obtain ⟨h113, eh113, hf⟩ := hf
          refine y_put eh113 (pl10_181_m rfl) dX10_turn_53 ?_
          refine y_iconst (v := 1) dX10_turn_56 (by decide) ?_
          obtain rfl := Option.some.inj hf
          exact y_ret (v := some (.inl 1)) dX10_turn_57 rfl
        · rw [if_pos hc] at hf
          refine y_bipush (v := (-4)) dX10_turn_48 (by decide) ?_
          obtain rfl := Option.some.inj hf
          exact y_ret (v := some (.inl (-4))) dX10_turn_50 rfl
set_option maxRecDepth 100000 in
theorem dX10_value_0 : decode prog_1_method_7_code 0 = .ok (.iload_n 2, 1) := by decide +kernel
set_option maxRecDepth 100000 in
theorem dX10_value_1 : decode prog_1_method_7_code 1 = .ok (.iconst 2, 1) := by decide +kernel
set_option maxRecDepth 100000 in
theorem dX10_value_2 : decode prog_1_method_7_code 2 = .ok (.if_icmp .ne 17, 3) := by decide +kernel
set_option maxRecDepth 100000 in
theorem dX10_value_5 : decode prog_1_method_7_code 5 = .ok (.aload_n 0, 1) := by decide +kernel
set_option maxRecDepth 100000 in
theorem dX10_value_6 : decode prog_1_method_7_code 6 = .ok (.getfield 31, 3) := by decide +kernel
set_option maxRecDepth 100000 in
theorem dX10_value_9 : decode prog_1_method_7_code 9 = .ok (.lload_n 3, 1) := by decide +kernel
set_option maxRecDepth 100000 in
theorem dX10_value_10 : decode prog_1_method_7_code 10 = .ok (.invokevirtual 61, 3) := by decide +kernel
set_option maxRecDepth 100000 in
theorem dX10_value_13 : decode prog_1_method_7_code 13 = .ok (.ifCond .ne 6, 3) := by decide +kernel
set_option maxRecDepth 100000 in
theorem dX10_value_16 : decode prog_1_method_7_code 16 = .ok (.bipush (-2), 2) := by decide +kernel
set_option maxRecDepth 100000 in
theorem dX10_value_18 : decode prog_1_method_7_code 18 = .ok (.ireturn, 1) := by decide +kernel
set_option maxRecDepth 100000 in
theorem dX10_value_19 : decode prog_1_method_7_code 19 = .ok (.iload_n 1, 1) := by decide +kernel
set_option maxRecDepth 100000 in
theorem dX10_value_20 : decode prog_1_method_7_code 20 = .ok (.ifCond .lt 29, 3) := by decide +kernel
set_option maxRecDepth 100000 in
theorem dX10_value_23 : decode prog_1_method_7_code 23 = .ok (.iload_n 1, 1) := by decide +kernel
set_option maxRecDepth 100000 in
theorem dX10_value_24 : decode prog_1_method_7_code 24 = .ok (.aload_n 0, 1) := by decide +kernel
set_option maxRecDepth 100000 in
theorem dX10_value_25 : decode prog_1_method_7_code 25 = .ok (.getfield 38, 3) := by decide +kernel
set_option maxRecDepth 100000 in
theorem dX10_value_28 : decode prog_1_method_7_code 28 = .ok (.invokevirtual 147, 3) := by decide +kernel
set_option maxRecDepth 100000 in
theorem dX10_value_31 : decode prog_1_method_7_code 31 = .ok (.if_icmp .gt 18, 3) := by decide +kernel
set_option maxRecDepth 100000 in
theorem dX10_value_34 : decode prog_1_method_7_code 34 = .ok (.iload_n 1, 1) := by decide +kernel
set_option maxRecDepth 100000 in
theorem dX10_value_35 : decode prog_1_method_7_code 35 = .ok (.bipush 6, 2) := by decide +kernel
set_option maxRecDepth 100000 in
theorem dX10_value_37 : decode prog_1_method_7_code 37 = .ok (.if_icmp .ge 12, 3) := by decide +kernel
set_option maxRecDepth 100000 in
theorem dX10_value_40 : decode prog_1_method_7_code 40 = .ok (.iload_n 2, 1) := by decide +kernel
set_option maxRecDepth 100000 in
theorem dX10_value_41 : decode prog_1_method_7_code 41 = .ok (.ifCond .lt 8, 3) := by decide +kernel
set_option maxRecDepth 100000 in
theorem dX10_value_44 : decode prog_1_method_7_code 44 = .ok (.iload_n 2, 1) := by decide +kernel
set_option maxRecDepth 100000 in
theorem dX10_value_45 : decode prog_1_method_7_code 45 = .ok (.iconst 3, 1) := by decide +kernel
set_option maxRecDepth 100000 in
theorem dX10_value_46 : decode prog_1_method_7_code 46 = .ok (.if_icmp .le 6, 3) := by decide +kernel
set_option maxRecDepth 100000 in
theorem dX10_value_49 : decode prog_1_method_7_code 49 = .ok (.bipush (-3), 2) := by decide +kernel
set_option maxRecDepth 100000 in
theorem dX10_value_51 : decode prog_1_method_7_code 51 = .ok (.ireturn, 1) := by decide +kernel
set_option maxRecDepth 100000 in
theorem dX10_value_52 : decode prog_1_method_7_code 52 = .ok (.iload_n 2, 1) := by decide +kernel
set_option maxRecDepth 100000 in
theorem dX10_value_53 : decode prog_1_method_7_code 53 = .ok (.ifCond .ne 14, 3) := by decide +kernel
set_option maxRecDepth 100000 in
theorem dX10_value_56 : decode prog_1_method_7_code 56 = .ok (.lload_n 3, 1) := by decide +kernel
set_option maxRecDepth 100000 in
theorem dX10_value_57 : decode prog_1_method_7_code 57 = .ok (.lload_n 3, 1) := by decide +kernel
set_option maxRecDepth 100000 in
theorem dX10_value_58 : decode prog_1_method_7_code 58 = .ok (.l2i, 1) := by decide +kernel
set_option maxRecDepth 100000 in
theorem dX10_value_59 : decode prog_1_method_7_code 59 = .ok (.i2l, 1) := by decide +kernel
set_option maxRecDepth 100000 in
theorem dX10_value_60 : decode prog_1_method_7_code 60 = .ok (.lcmp, 1) := by decide +kernel
set_option maxRecDepth 100000 in
theorem dX10_value_61 : decode prog_1_method_7_code 61 = .ok (.ifCond .eq 6, 3) := by decide +kernel
set_option maxRecDepth 100000 in
theorem dX10_value_64 : decode prog_1_method_7_code 64 = .ok (.bipush (-3), 2) := by decide +kernel
set_option maxRecDepth 100000 in
theorem dX10_value_66 : decode prog_1_method_7_code 66 = .ok (.ireturn, 1) := by decide +kernel
set_option maxRecDepth 100000 in
theorem dX10_value_67 : decode prog_1_method_7_code 67 = .ok (.aload_n 0, 1) := by decide +kernel
set_option maxRecDepth 100000 in
theorem dX10_value_68 : decode prog_1_method_7_code 68 = .ok (.getfield 38, 3) := by decide +kernel
set_option maxRecDepth 100000 in
theorem dX10_value_71 : decode prog_1_method_7_code 71 = .ok (.iload_n 1, 1) := by decide +kernel
set_option maxRecDepth 100000 in
theorem dX10_value_72 : decode prog_1_method_7_code 72 = .ok (.invokevirtual 151, 3) := by decide +kernel
set_option maxRecDepth 100000 in
theorem dX10_value_75 : decode prog_1_method_7_code 75 = .ok (.aload_n 0, 1) := by decide +kernel
set_option maxRecDepth 100000 in
theorem dX10_value_76 : decode prog_1_method_7_code 76 = .ok (.getfield 38, 3) := by decide +kernel
set_option maxRecDepth 100000 in
theorem dX10_value_79 : decode prog_1_method_7_code 79 = .ok (.iload_n 2, 1) := by decide +kernel
set_option maxRecDepth 100000 in
theorem dX10_value_80 : decode prog_1_method_7_code 80 = .ok (.iload_n 2, 1) := by decide +kernel
set_option maxRecDepth 100000 in
theorem dX10_value_81 : decode prog_1_method_7_code 81 = .ok (.iconst 3, 1) := by decide +kernel
set_option maxRecDepth 100000 in
theorem dX10_value_82 : decode prog_1_method_7_code 82 = .ok (.if_icmp .ne 7, 3) := by decide +kernel
set_option maxRecDepth 100000 in
theorem dX10_value_85 : decode prog_1_method_7_code 85 = .ok (.lconst 0, 1) := by decide +kernel
set_option maxRecDepth 100000 in
theorem dX10_value_86 : decode prog_1_method_7_code 86 = .ok (.goto 4, 3) := by decide +kernel
set_option maxRecDepth 100000 in
theorem dX10_value_89 : decode prog_1_method_7_code 89 = .ok (.lload_n 3, 1) := by decide +kernel
set_option maxRecDepth 100000 in
theorem dX10_value_90 : decode prog_1_method_7_code 90 = .ok (.invokevirtual 155, 3) := by decide +kernel
set_option maxRecDepth 100000 in
theorem dX10_value_93 : decode prog_1_method_7_code 93 = .ok (.aload_n 0, 1) := by decide +kernel
set_option maxRecDepth 100000 in
theorem dX10_value_94 : decode prog_1_method_7_code 94 = .ok (.getfield 38, 3) := by decide +kernel
set_option maxRecDepth 100000 in
theorem dX10_value_97 : decode prog_1_method_7_code 97 = .ok (.invokevirtual 147, 3) := by decide +kernel
set_option maxRecDepth 100000 in
theorem dX10_value_100 : decode prog_1_method_7_code 100 = .ok (.ireturn, 1) := by decide +kernel

def fX10_value_67 (z : Nat → Nat) (a0 : Nat) (x1 : Int32) (x2 : Int32) (j3 : Int64) (h : aH) : Option (Int32 × aH) :=
  (rdR h a0 [8] 5).bind fun r101 =>
  (r101).bind fun a103 =>
  (obO h a103 7).bind fun fs104 =>
  (fX9_cutTo z a103 x1 h).bind fun q102 =>
  (rdR q102 a0 [8] 5).bind fun r105 =>
  (if x2 = 3 then
  (r105).bind fun a114 =>
  (obO q102 a114 7).bind fun fs115 =>
  (fX9_add z a114 x2 0 q102).bind fun q113 =>
  (rdR q113 a0 [8] 5).bind fun r116 =>
  (r116).bind fun a118 =>
  (obO q113 a118 7).bind fun fs119 =>
  (fX9_count z a118 q113).bind fun q117 =>
  some (q117.1, q117.2)
  else
  (r105).bind fun a107 =>
  (obO q102 a107 7).bind fun fs108 =>
  (fX9_add z a107 x2 j3 q102).bind fun q106 =>
  (rdR q106 a0 [8] 5).bind fun r109 =>
  (r109).bind fun a111 =>
  (obO q106 a111 7).bind fun fs112 =>
  (fX9_count z a111 q106).bind fun q110 =>
  some (q110.1, q110.2))
set_option maxHeartbeats 4000000 in
set_option maxRecDepth 100000 in
theorem xX10_value_67 {l : Launch} {g : aG} {d : Nat} (hK : 1 ≤ d + 1) {a0 : Nat} {x1 : Int32} {x2 : Int32} {j3 : Int64} {h : aH} {q : Int32 × aH} (hf : fX10_value_67 g.2.2 a0 x1 x2 j3 h = some q) : Y l g miX10_value (d + 1) 67 [some (.inr (.inr (some a0))), some (.inl x1), some (.inl x2), some (.inr (.inl j3)), none] [] h (some (.inl q.1), q.2) := by
  unfold fX10_value_67 at hf
  refine y_aload_n (i := 0) dX10_value_67 rfl rfl ?_
  replace hf := bnd hf
  obtain ⟨r101, er101, hf⟩ := hf
  refine y_getR er101 fl10_38 dX10_value_68 ?_
  refine y_iload_n (i := 1) dX10_value_71 rfl rfl ?_
  replace hf := bnd hf
  obtain ⟨a103, rfl, hf⟩ := hf
  replace hf := bnd hf
  obtain ⟨fs104, efs104, hf⟩ := hf
  replace hf := bnd hf
  obtain ⟨q102, eq102, hf⟩ := hf
  refine y_callV (mj := miX9_cutTo) (args := [.inl x1]) (st := []) dX10_value_72 (gd_of 475 rfl rfl) (gd_of 476 rfl rfl) (gd_of 477 rfl rfl) okX9_cutTo (obO_spec efs104) rfl rfl (xX9_cutTo (by omega) eq102) (Nat.le_of_ble_eq_true rfl) rfl ?_
  show Y l g miX10_value (d + 1) 75 [some (.inr (.inr (some a0))), some (.inl x1), some (.inl x2), some (.inr (.inl j3)), none] [] q102 _
  refine y_aload_n (i := 0) dX10_value_75 rfl rfl ?_
  replace hf := bnd hf
  obtain ⟨r105, er105, hf⟩ := hf
  refine y_getR er105 fl10_38 dX10_value_76 ?_
  refine y_iload_n (i := 2) dX10_value_79 rfl rfl ?_
  refine y_iload_n (i := 2) dX10_value_80 rfl rfl ?_
  refine y_iconst (v := 3) dX10_value_81 (by decide) ?_
  refine y_icmp_ne (tgt := 89) dX10_value_82 (by decide) (fun hc => ?_) (fun hc => ?_)
  · rw [if_neg hc] at hf
    refine y_lload_n (i := 3) dX10_value_89 rfl rfl ?_
    replace hf := bnd hf
    obtain ⟨a107, rfl, hf⟩ := hf
    replace hf := bnd hf
    obtain ⟨fs108, efs108, hf⟩ := hf
    replace hf := bnd hf
    obtain ⟨q106, eq106, hf⟩ := hf
    refine y_callV (mj := miX9_add) (args := [.inl x2, .inr (.inl j3)]) (st := []) dX10_value_90 (gd_of 479 rfl rfl) (gd_of 480 rfl rfl) (gd_of 481 rfl rfl) okX9_add (obO_spec efs108) rfl rfl (xX9_add (by omega) eq106) (Nat.le_of_ble_eq_true rfl) rfl ?_
    show Y l g miX10_value (d + 1) 93 [some (.inr (.inr (some a0))), some (.inl x1), some (.inl x2), some (.inr (.inl j3)), none] [] q106 _
    refine y_aload_n (i := 0) dX10_value_93 rfl rfl ?_
    replace hf := bnd hf
    obtain ⟨r109, er109, hf⟩ := hf
    refine y_getR er109 fl10_38 dX10_value_94 ?_
    replace hf := bnd hf
    obtain ⟨a111, rfl, hf⟩ := hf
    replace hf := bnd hf
    obtain ⟨fs112, efs112, hf⟩ := hf
    replace hf := bnd hf
    obtain ⟨q110, eq110, hf⟩ := hf
    refine y_callV (mj := miX9_count) (args := []) (st := []) dX10_value_97 (gd_of 382 rfl rfl) (gd_of 383 rfl rfl) (gd_of 384 rfl rfl) okX9_count (obO_spec efs112) rfl rfl (xX9_count (by omega) eq110) (Nat.le_of_ble_eq_true rfl) rfl ?_
    show Y l g miX10_value (d + 1) 100 [some (.inr (.inr (some a0))), some (.inl x1), some (.inl x2), some (.inr (.inl j3)), none] [.inl q110.1] q110.2 _
    obtain rfl := Option.some.inj hf
    exact y_ret (v := some (.inl q110.1)) dX10_value_100 rfl
  · rw [if_pos hc] at hf
    refine y_lconst (v := 0) dX10_value_85 (by decide) ?_
    refine y_goto (tgt := 90) dX10_value_86 (by decide) ?_
    replace hf := bnd hf
    obtain ⟨a114, rfl, hf⟩ := hf
    replace hf := bnd hf
    obtain ⟨fs115, efs115, hf⟩ := hf
    replace hf := bnd hf
    obtain ⟨q113, eq113, hf⟩ := hf
    refine y_callV (mj := miX9_add) (args := [.inl x2, .inr (.inl 0)]) (st := []) dX10_value_90 (gd_of 479 rfl rfl) (gd_of 480 rfl rfl) (gd_of 481 rfl rfl) okX9_add (obO_spec efs115) rfl rfl (xX9_add (by omega) eq113) (Nat.le_of_ble_eq_true rfl) rfl ?_
    show Y l g miX10_value (d + 1) 93 [some (.inr (.inr (some a0))), some (.inl x1), some (.inl x2), some (.inr (.inl j3)), none] [] q113 _
    refine y_aload_n (i := 0) dX10_value_93 rfl rfl ?_
    replace hf := bnd hf
    obtain ⟨r116, er116, hf⟩ := hf
    refine y_getR er116 fl10_38 dX10_value_94 ?_
    replace hf := bnd hf
    obtain ⟨a118, rfl, hf⟩ := hf
    replace hf := bnd hf
    obtain ⟨fs119, efs119, hf⟩ := hf
    replace hf := bnd hf
    obtain ⟨q117, eq117, hf⟩ := hf
    refine y_callV (mj := miX9_count) (args := []) (st := []) dX10_value_97 (gd_of 382 rfl rfl) (gd_of 383 rfl rfl) (gd_of 384 rfl rfl) okX9_count (obO_spec efs119) rfl rfl (xX9_count (by omega) eq117) (Nat.le_of_ble_eq_true rfl) rfl ?_
    show Y l g miX10_value (d + 1) 100 [some (.inr (.inr (some a0))), some (.inl x1), some (.inl x2), some (.inr (.inl j3)), none] [.inl q117.1] q117.2 _
    obtain rfl := Option.some.inj hf
    exact y_ret (v := some (.inl q117.1)) dX10_value_100 rfl
def fX10_value_19 (z : Nat → Nat) (a0 : Nat) (x1 : Int32) (x2 : Int32) (j3 : Int64) (h : aH) : Option (Int32 × aH) :=
  (if x1 < 0 then
  some ((-3), h)
  else
  (rdR h a0 [8] 5).bind fun r101 =>
  (r101).bind fun a103 =>
  (obO h a103 7).bind fun fs104 =>
  (fX9_count z a103 h).bind fun q102 =>
  (if q102.1 < x1 then
  some ((-3), q102.2)
  else
  (if 6 ≤ x1 then
  some ((-3), q102.2)
  else
  (if x2 < 0 then
  some ((-3), q102.2)
  else
  (if x2 ≤ 3 then
  (if x2 = 0 then
  (if (lg_cmp j3 (Int32.toInt64 (Int64.toInt32 j3))) = 0 then
  fX10_value_67 z a0 x1 x2 j3 q102.2
  else
  some ((-3), q102.2))
  else
  fX10_value_67 z a0 x1 x2 j3 q102.2)
  else
  some ((-3), q102.2))))))
set_option maxHeartbeats 4000000 in
set_option maxRecDepth 100000 in
theorem xX10_value_19 {l : Launch} {g : aG} {d : Nat} (hK : 1 ≤ d + 1) {a0 : Nat} {x1 : Int32} {x2 : Int32} {j3 : Int64} {h : aH} {q : Int32 × aH} (hf : fX10_value_19 g.2.2 a0 x1 x2 j3 h = some q) : Y l g miX10_value (d + 1) 19 [some (.inr (.inr (some a0))), some (.inl x1), some (.inl x2), some (.inr (.inl j3)), none] [] h (some (.inl q.1), q.2) := by
  unfold fX10_value_19 at hf
  refine y_iload_n (i := 1) dX10_value_19 rfl rfl ?_
  refine y_if_lt (tgt := 49) dX10_value_20 (by decide) (fun hc => ?_) (fun hc => ?_)
  · rw [if_pos hc] at hf
    refine y_bipush (v := (-3)) dX10_value_49 (by decide) ?_
    obtain rfl := Option.some.inj hf
    exact y_ret (v := some (.inl (-3))) dX10_value_51 rfl
  · rw [if_neg hc] at hf
    refine y_iload_n (i := 1) dX10_value_23 rfl rfl ?_
    refine y_aload_n (i := 0) dX10_value_24 rfl rfl ?_
    replace hf := bnd hf
    obtain ⟨r101, er101, hf⟩ := hf
    refine y_getR er101 fl10_38 dX10_value_25 ?_
    replace hf := bnd hf
    obtain ⟨a103, rfl, hf⟩ := hf
    replace hf := bnd hf
    obtain ⟨fs104, efs104, hf⟩ := hf
    replace hf := bnd hf
    obtain ⟨q102, eq102, hf⟩ := hf
    refine y_callV (mj := miX9_count) (args := []) (st := [.inl x1]) dX10_value_28 (gd_of 382 rfl rfl) (gd_of 383 rfl rfl) (gd_of 384 rfl rfl) okX9_count (obO_spec efs104) rfl rfl (xX9_count (by omega) eq102) (Nat.le_of_ble_eq_true rfl) rfl ?_
    show Y l g miX10_value (d + 1) 31 [some (.inr (.inr (some a0))), some (.inl x1), some (.inl x2), some (.inr (.inl j3)), none] [.inl q102.1, .inl x1] q102.2 _
    refine y_icmp_gt (tgt := 49) dX10_value_31 (by decide) (fun hc => ?_) (fun hc => ?_)
    · rw [if_pos hc] at hf
      refine y_bipush (v := (-3)) dX10_value_49 (by decide) ?_
      obtain rfl := Option.some.inj hf
      exact y_ret (v := some (.inl (-3))) dX10_value_51 rfl
    · rw [if_neg hc] at hf
      refine y_iload_n (i := 1) dX10_value_34 rfl rfl ?_
      refine y_bipush (v := 6) dX10_value_35 (by decide) ?_
      refine y_icmp_ge (tgt := 49) dX10_value_37 (by decide) (fun hc => ?_) (fun hc => ?_)
      · rw [if_pos hc] at hf
        refine y_bipush (v := (-3)) dX10_value_49 (by decide) ?_
        obtain rfl := Option.some.inj hf
        exact y_ret (v := some (.inl (-3))) dX10_value_51 rfl
      · rw [if_neg hc] at hf
        refine y_iload_n (i := 2) dX10_value_40 rfl rfl ?_
        refine y_if_lt (tgt := 49) dX10_value_41 (by decide) (fun hc => ?_) (fun hc => ?_)
        · rw [if_pos hc] at hf
          refine y_bipush (v := (-3)) dX10_value_49 (by decide) ?_
          obtain rfl := Option.some.inj hf
          exact y_ret (v := some (.inl (-3))) dX10_value_51 rfl
        · rw [if_neg hc] at hf
          refine y_iload_n (i := 2) dX10_value_44 rfl rfl ?_
          refine y_iconst (v := 3) dX10_value_45 (by decide) ?_
          refine y_icmp_le (tgt := 52) dX10_value_46 (by decide) (fun hc => ?_) (fun hc => ?_)
          · rw [if_pos hc] at hf
            refine y_iload_n (i := 2) dX10_value_52 rfl rfl ?_
            refine y_if_ne (tgt := 67) dX10_value_53 (by decide) (fun hc => ?_) (fun hc => ?_)
            · rw [if_neg hc] at hf
              refine Y.weak (lv2 := [some (.inr (.inr (some a0))), some (.inl x1), some (.inl x2), some (.inr (.inl j3)), none]) [true, true, true, true, false] rfl ?_
              exact xX10_value_67 hK hf
            · rw [if_pos hc] at hf
              refine y_lload_n (i := 3) dX10_value_56 rfl rfl ?_
              refine y_lload_n (i := 3) dX10_value_57 rfl rfl ?_
              refine y_l2i dX10_value_58 ?_
              refine y_i2l dX10_value_59 ?_
              refine y_lcmp dX10_value_60 ?_
              refine y_if_eq (tgt := 67) dX10_value_61 (by decide) (fun hc => ?_) (fun hc => ?_)
              · rw [if_pos hc] at hf
                refine Y.weak (lv2 := [some (.inr (.inr (some a0))), some (.inl x1), some (.inl x2), some (.inr (.inl j3)), none]) [true, true, true, true, false] rfl ?_
                exact xX10_value_67 hK hf
              · rw [if_neg hc] at hf
                refine y_bipush (v := (-3)) dX10_value_64 (by decide) ?_
                obtain rfl := Option.some.inj hf
                exact y_ret (v := some (.inl (-3))) dX10_value_66 rfl
          · rw [if_neg hc] at hf
            refine y_bipush (v := (-3)) dX10_value_49 (by decide) ?_
            obtain rfl := Option.some.inj hf
            exact y_ret (v := some (.inl (-3))) dX10_value_51 rfl
def fX10_value (z : Nat → Nat) (a0 : Nat) (x1 : Int32) (x2 : Int32) (j3 : Int64) (h : aH) : Option (Int32 × aH) :=
  (if x2 = 2 then
  (rdR h a0 [8] 4).bind fun r101 =>
  (r101).bind fun a103 =>
  (obO h a103 3).bind fun fs104 =>
  (fX4_has z a103 j3 h).bind fun q102 =>
  (if q102.1 = 0 then
  some ((-2), q102.2)
  else
  fX10_value_19 z a0 x1 x2 j3 q102.2)
  else
  fX10_value_19 z a0 x1 x2 j3 h)
set_option maxHeartbeats 4000000 in
set_option maxRecDepth 100000 in
theorem xX10_value {l : Launch} {g : aG} {d : Nat} (hK : 1 ≤ d) {a0 : Nat} {x1 : Int32} {x2 : Int32} {j3 : Int64} {h : aH} {q : Int32 × aH} (hf : fX10_value g.2.2 a0 x1 x2 j3 h = some q) : Ev l g miX10_value d [.inr (.inr (some a0)), .inl x1, .inl x2, .inr (.inl j3)] h (some (.inl q.1), q.2) := by
  obtain ⟨d, rfl⟩ : ∃ e, d = e + 1 := ⟨d - 1, by omega⟩
  refine ⟨?_, Or.inl rfl, Nat.le_of_ble_eq_true rfl⟩
  unfold fX10_value at hf
  show Y l g miX10_value (d + 1) 0 [some (.inr (.inr (some a0))), some (.inl x1), some (.inl x2), some (.inr (.inl j3)), none] [] h _
  refine y_iload_n (i := 2) dX10_value_0 rfl rfl ?_
  refine y_iconst (v := 2) dX10_value_1 (by decide) ?_
  refine y_icmp_ne (tgt := 19) dX10_value_2 (by decide) (fun hc => ?_) (fun hc => ?_)
  · rw [if_neg hc] at hf
    refine Y.weak (lv2 := [some (.inr (.inr (some a0))), some (.inl x1), some (.inl x2), some (.inr (.inl j3)), none]) [true, true, true, true, false] rfl ?_
    exact xX10_value_19 hK hf
  · rw [if_pos hc] at hf
    refine y_aload_n (i := 0) dX10_value_5 rfl rfl ?_
    replace hf := bnd hf
    obtain ⟨r101, er101, hf⟩ := hf
    refine y_getR er101 fl10_31 dX10_value_6 ?_
    refine y_lload_n (i := 3) dX10_value_9 rfl rfl ?_
    replace hf := bnd hf
    obtain ⟨a103, rfl, hf⟩ := hf
    replace hf := bnd hf
    obtain ⟨fs104, efs104, hf⟩ := hf
    replace hf := bnd hf
    obtain ⟨q102, eq102, hf⟩ := hf
    refine y_callV (mj := miX4_has) (args := [.inr (.inl j3)]) (st := []) dX10_value_10 (gd_of 199 rfl rfl) (gd_of 200 rfl rfl) (gd_of 201 rfl rfl) okX4_has (obO_spec efs104) rfl rfl (xX4_has (by omega) eq102) (Nat.le_of_ble_eq_true rfl) rfl ?_
    show Y l g miX10_value (d + 1) 13 [some (.inr (.inr (some a0))), some (.inl x1), some (.inl x2), some (.inr (.inl j3)), none] [.inl q102.1] q102.2 _
    refine y_if_ne (tgt := 19) dX10_value_13 (by decide) (fun hc => ?_) (fun hc => ?_)
    · rw [if_neg hc] at hf
      refine Y.weak (lv2 := [some (.inr (.inr (some a0))), some (.inl x1), some (.inl x2), some (.inr (.inl j3)), none]) [true, true, true, true, false] rfl ?_
      exact xX10_value_19 hK hf
    · rw [if_pos hc] at hf
      refine y_bipush (v := (-2)) dX10_value_16 (by decide) ?_
      obtain rfl := Option.some.inj hf
      exact y_ret (v := some (.inl (-2))) dX10_value_18 rfl
