set_option maxRecDepth 100000 in
theorem dX11_spreads_0 : decode prog_13_method_43_code 0 = .ok (.aload_n 0, 1) := by decide +kernel
set_option maxRecDepth 100000 in
theorem dX11_spreads_1 : decode prog_13_method_43_code 1 = .ok (.getfield 84, 3) := by decide +kernel
set_option maxRecDepth 100000 in
theorem dX11_spreads_4 : decode prog_13_method_43_code 4 = .ok (.bipush 7, 2) := by decide +kernel
set_option maxRecDepth 100000 in
theorem dX11_spreads_6 : decode prog_13_method_43_code 6 = .ok (.iload_n 1, 1) := by decide +kernel
set_option maxRecDepth 100000 in
theorem dX11_spreads_7 : decode prog_13_method_43_code 7 = .ok (.imul, 1) := by decide +kernel
set_option maxRecDepth 100000 in
theorem dX11_spreads_8 : decode prog_13_method_43_code 8 = .ok (.iload 4, 2) := by decide +kernel
set_option maxRecDepth 100000 in
theorem dX11_spreads_10 : decode prog_13_method_43_code 10 = .ok (.iadd, 1) := by decide +kernel
set_option maxRecDepth 100000 in
theorem dX11_spreads_11 : decode prog_13_method_43_code 11 = .ok (.iconst 1, 1) := by decide +kernel
set_option maxRecDepth 100000 in
theorem dX11_spreads_12 : decode prog_13_method_43_code 12 = .ok (.isub, 1) := by decide +kernel
set_option maxRecDepth 100000 in
theorem dX11_spreads_13 : decode prog_13_method_43_code 13 = .ok (.laload, 1) := by decide +kernel
set_option maxRecDepth 100000 in
theorem dX11_spreads_14 : decode prog_13_method_43_code 14 = .ok (.l2i, 1) := by decide +kernel
set_option maxRecDepth 100000 in
theorem dX11_spreads_15 : decode prog_13_method_43_code 15 = .ok (.istore 5, 2) := by decide +kernel
set_option maxRecDepth 100000 in
theorem dX11_spreads_17 : decode prog_13_method_43_code 17 = .ok (.aload_n 0, 1) := by decide +kernel
set_option maxRecDepth 100000 in
theorem dX11_spreads_18 : decode prog_13_method_43_code 18 = .ok (.getfield 81, 3) := by decide +kernel
set_option maxRecDepth 100000 in
theorem dX11_spreads_21 : decode prog_13_method_43_code 21 = .ok (.bipush 7, 2) := by decide +kernel
set_option maxRecDepth 100000 in
theorem dX11_spreads_23 : decode prog_13_method_43_code 23 = .ok (.iload_n 1, 1) := by decide +kernel
set_option maxRecDepth 100000 in
theorem dX11_spreads_24 : decode prog_13_method_43_code 24 = .ok (.imul, 1) := by decide +kernel
set_option maxRecDepth 100000 in
theorem dX11_spreads_25 : decode prog_13_method_43_code 25 = .ok (.iload 4, 2) := by decide +kernel
set_option maxRecDepth 100000 in
theorem dX11_spreads_27 : decode prog_13_method_43_code 27 = .ok (.iadd, 1) := by decide +kernel
set_option maxRecDepth 100000 in
theorem dX11_spreads_28 : decode prog_13_method_43_code 28 = .ok (.iconst 1, 1) := by decide +kernel
set_option maxRecDepth 100000 in
theorem dX11_spreads_29 : decode prog_13_method_43_code 29 = .ok (.isub, 1) := by decide +kernel
set_option maxRecDepth 100000 in
theorem dX11_spreads_30 : decode prog_13_method_43_code 30 = .ok (.iaload, 1) := by decide +kernel
set_option maxRecDepth 100000 in
theorem dX11_spreads_31 : decode prog_13_method_43_code 31 = .ok (.iconst 3, 1) := by decide +kernel
set_option maxRecDepth 100000 in
theorem dX11_spreads_32 : decode prog_13_method_43_code 32 = .ok (.if_icmp .eq 14, 3) := by decide +kernel
set_option maxRecDepth 100000 in
theorem dX11_spreads_35 : decode prog_13_method_43_code 35 = .ok (.aload_n 0, 1) := by decide +kernel
set_option maxRecDepth 100000 in
theorem dX11_spreads_36 : decode prog_13_method_43_code 36 = .ok (.getfield 48, 3) := by decide +kernel
set_option maxRecDepth 100000 in
theorem dX11_spreads_39 : decode prog_13_method_43_code 39 = .ok (.iload 5, 2) := by decide +kernel
set_option maxRecDepth 100000 in
theorem dX11_spreads_41 : decode prog_13_method_43_code 41 = .ok (.iaload, 1) := by decide +kernel
set_option maxRecDepth 100000 in
theorem dX11_spreads_42 : decode prog_13_method_43_code 42 = .ok (.iload_n 3, 1) := by decide +kernel
set_option maxRecDepth 100000 in
theorem dX11_spreads_43 : decode prog_13_method_43_code 43 = .ok (.if_icmp .eq 32, 3) := by decide +kernel
set_option maxRecDepth 100000 in
theorem dX11_spreads_46 : decode prog_13_method_43_code 46 = .ok (.aload_n 0, 1) := by decide +kernel
set_option maxRecDepth 100000 in
theorem dX11_spreads_47 : decode prog_13_method_43_code 47 = .ok (.aload_n 0, 1) := by decide +kernel
set_option maxRecDepth 100000 in
theorem dX11_spreads_48 : decode prog_13_method_43_code 48 = .ok (.getfield 81, 3) := by decide +kernel
set_option maxRecDepth 100000 in
theorem dX11_spreads_51 : decode prog_13_method_43_code 51 = .ok (.bipush 7, 2) := by decide +kernel
set_option maxRecDepth 100000 in
theorem dX11_spreads_53 : decode prog_13_method_43_code 53 = .ok (.iload_n 1, 1) := by decide +kernel
set_option maxRecDepth 100000 in
theorem dX11_spreads_54 : decode prog_13_method_43_code 54 = .ok (.imul, 1) := by decide +kernel
set_option maxRecDepth 100000 in
theorem dX11_spreads_55 : decode prog_13_method_43_code 55 = .ok (.iload 4, 2) := by decide +kernel
set_option maxRecDepth 100000 in
theorem dX11_spreads_57 : decode prog_13_method_43_code 57 = .ok (.iadd, 1) := by decide +kernel
set_option maxRecDepth 100000 in
theorem dX11_spreads_58 : decode prog_13_method_43_code 58 = .ok (.iconst 1, 1) := by decide +kernel
set_option maxRecDepth 100000 in
theorem dX11_spreads_59 : decode prog_13_method_43_code 59 = .ok (.isub, 1) := by decide +kernel
set_option maxRecDepth 100000 in
theorem dX11_spreads_60 : decode prog_13_method_43_code 60 = .ok (.iaload, 1) := by decide +kernel
set_option maxRecDepth 100000 in
theorem dX11_spreads_61 : decode prog_13_method_43_code 61 = .ok (.iconst 3, 1) := by decide +kernel
set_option maxRecDepth 100000 in
theorem dX11_spreads_62 : decode prog_13_method_43_code 62 = .ok (.if_icmp .ne 7, 3) := by decide +kernel
set_option maxRecDepth 100000 in
theorem dX11_spreads_65 : decode prog_13_method_43_code 65 = .ok (.iconst 3, 1) := by decide +kernel
set_option maxRecDepth 100000 in
theorem dX11_spreads_66 : decode prog_13_method_43_code 66 = .ok (.goto 5, 3) := by decide +kernel
set_option maxRecDepth 100000 in
theorem dX11_spreads_69 : decode prog_13_method_43_code 69 = .ok (.bipush 6, 2) := by decide +kernel
set_option maxRecDepth 100000 in
theorem dX11_spreads_71 : decode prog_13_method_43_code 71 = .ok (.invokevirtual 285, 3) := by decide +kernel
set_option maxRecDepth 100000 in
theorem dX11_spreads_74 : decode prog_13_method_43_code 74 = .ok (.return_, 1) := by decide +kernel
set_option maxRecDepth 100000 in
theorem dX11_spreads_75 : decode prog_13_method_43_code 75 = .ok (.aload_n 0, 1) := by decide +kernel
set_option maxRecDepth 100000 in
theorem dX11_spreads_76 : decode prog_13_method_43_code 76 = .ok (.iload_n 1, 1) := by decide +kernel
set_option maxRecDepth 100000 in
theorem dX11_spreads_77 : decode prog_13_method_43_code 77 = .ok (.iconst 0, 1) := by decide +kernel
set_option maxRecDepth 100000 in
theorem dX11_spreads_78 : decode prog_13_method_43_code 78 = .ok (.iload 4, 2) := by decide +kernel
set_option maxRecDepth 100000 in
theorem dX11_spreads_80 : decode prog_13_method_43_code 80 = .ok (.iconst 1, 1) := by decide +kernel
set_option maxRecDepth 100000 in
theorem dX11_spreads_81 : decode prog_13_method_43_code 81 = .ok (.isub, 1) := by decide +kernel
set_option maxRecDepth 100000 in
theorem dX11_spreads_82 : decode prog_13_method_43_code 82 = .ok (.invokevirtual 265, 3) := by decide +kernel
set_option maxRecDepth 100000 in
theorem dX11_spreads_85 : decode prog_13_method_43_code 85 = .ok (.iconst 0, 1) := by decide +kernel
set_option maxRecDepth 100000 in
theorem dX11_spreads_86 : decode prog_13_method_43_code 86 = .ok (.istore 6, 2) := by decide +kernel
set_option maxRecDepth 100000 in
theorem dX11_spreads_88 : decode prog_13_method_43_code 88 = .ok (.iload 6, 2) := by decide +kernel
set_option maxRecDepth 100000 in
theorem dX11_spreads_90 : decode prog_13_method_43_code 90 = .ok (.iload_n 3, 1) := by decide +kernel
set_option maxRecDepth 100000 in
theorem dX11_spreads_91 : decode prog_13_method_43_code 91 = .ok (.if_icmp .ge 28, 3) := by decide +kernel
set_option maxRecDepth 100000 in
theorem dX11_spreads_94 : decode prog_13_method_43_code 94 = .ok (.aload_n 0, 1) := by decide +kernel
set_option maxRecDepth 100000 in
theorem dX11_spreads_95 : decode prog_13_method_43_code 95 = .ok (.iconst 0, 1) := by decide +kernel
set_option maxRecDepth 100000 in
theorem dX11_spreads_96 : decode prog_13_method_43_code 96 = .ok (.aload_n 0, 1) := by decide +kernel
set_option maxRecDepth 100000 in
theorem dX11_spreads_97 : decode prog_13_method_43_code 97 = .ok (.getfield 51, 3) := by decide +kernel
set_option maxRecDepth 100000 in
theorem dX11_spreads_100 : decode prog_13_method_43_code 100 = .ok (.bipush 20, 2) := by decide +kernel
set_option maxRecDepth 100000 in
theorem dX11_spreads_102 : decode prog_13_method_43_code 102 = .ok (.iload 5, 2) := by decide +kernel
set_option maxRecDepth 100000 in
theorem dX11_spreads_104 : decode prog_13_method_43_code 104 = .ok (.imul, 1) := by decide +kernel
set_option maxRecDepth 100000 in
theorem dX11_spreads_105 : decode prog_13_method_43_code 105 = .ok (.iload 6, 2) := by decide +kernel
set_option maxRecDepth 100000 in
theorem dX11_spreads_107 : decode prog_13_method_43_code 107 = .ok (.iadd, 1) := by decide +kernel
set_option maxRecDepth 100000 in
theorem dX11_spreads_108 : decode prog_13_method_43_code 108 = .ok (.iaload, 1) := by decide +kernel
set_option maxRecDepth 100000 in
theorem dX11_spreads_109 : decode prog_13_method_43_code 109 = .ok (.i2l, 1) := by decide +kernel
set_option maxRecDepth 100000 in
theorem dX11_spreads_110 : decode prog_13_method_43_code 110 = .ok (.invokevirtual 230, 3) := by decide +kernel
set_option maxRecDepth 100000 in
theorem dX11_spreads_113 : decode prog_13_method_43_code 113 = .ok (.iinc 6 1, 3) := by decide +kernel
set_option maxRecDepth 100000 in
theorem dX11_spreads_116 : decode prog_13_method_43_code 116 = .ok (.goto (-28), 3) := by decide +kernel
set_option maxRecDepth 100000 in
theorem dX11_spreads_119 : decode prog_13_method_43_code 119 = .ok (.aload_n 0, 1) := by decide +kernel
set_option maxRecDepth 100000 in
theorem dX11_spreads_120 : decode prog_13_method_43_code 120 = .ok (.iload_n 1, 1) := by decide +kernel
set_option maxRecDepth 100000 in
theorem dX11_spreads_121 : decode prog_13_method_43_code 121 = .ok (.iload_n 2, 1) := by decide +kernel
set_option maxRecDepth 100000 in
theorem dX11_spreads_122 : decode prog_13_method_43_code 122 = .ok (.invokevirtual 269, 3) := by decide +kernel
set_option maxRecDepth 100000 in
theorem dX11_spreads_125 : decode prog_13_method_43_code 125 = .ok (.return_, 1) := by decide +kernel
set_option maxRecDepth 100000 in
theorem okX11_fails : mOk miX11_fails 1 := ⟨(gd_of 1058 rfl rfl), (gd_of 76 rfl rfl), by decide +kernel, ⟨by decide +kernel, by decide +kernel, by decide +kernel⟩, by decide⟩
set_option maxRecDepth 100000 in
theorem okX11_last : mOk miX11_last 2 := ⟨(gd_of 1036 rfl rfl), (gd_of 76 rfl rfl), by decide +kernel, ⟨by decide +kernel, by decide +kernel, by decide +kernel⟩, by decide⟩
def fX11_spreads_46 (z : Nat → Nat) (a0 : Nat) (x1 : Int32) (x4 : Int32) (h : aH) : Option aH :=
  (rdR h a0 [9] 37).bind fun r101 =>
  (r101).bind fun a102 =>
  (arI h a102 (((7 * x1) + x4) - 1)).bind fun x103 =>
  (if x103 = 3 then
  (obO h a0 9).bind fun fs107 =>
  (fX11_fails z a0 3 h).bind fun q106 =>
  some q106
  else
  (obO h a0 9).bind fun fs105 =>
  (fX11_fails z a0 6 h).bind fun q104 =>
  some q104)
set_option maxHeartbeats 4000000 in
set_option maxRecDepth 100000 in
theorem xX11_spreads_46 {l : Launch} {g : aG} {d : Nat} (hK : 2 ≤ d + 1) {a0 : Nat} {x1 : Int32} {x4 : Int32} {h : aH} {q : aH} (hf : fX11_spreads_46 g.2.2 a0 x1 x4 h = some q) : Y l g miX11_spreads (d + 1) 46 [some (.inr (.inr (some a0))), some (.inl x1), none, none, some (.inl x4), none, none] [] h (none, q) := by
  unfold fX11_spreads_46 at hf
  refine y_aload_n (i := 0) dX11_spreads_46 rfl rfl ?_
  refine y_aload_n (i := 0) dX11_spreads_47 rfl rfl ?_
  replace hf := bnd hf
  obtain ⟨r101, er101, hf⟩ := hf
  refine y_getR er101 fl11_81 dX11_spreads_48 ?_
  refine y_bipush (v := 7) dX11_spreads_51 (by decide) ?_
  refine y_iload_n (i := 1) dX11_spreads_53 rfl rfl ?_
  refine y_imul dX11_spreads_54 ?_
  refine y_iload (i := 4) dX11_spreads_55 rfl ?_
  refine y_iadd dX11_spreads_57 ?_
  refine y_iconst (v := 1) dX11_spreads_58 (by decide) ?_
  refine y_isub dX11_spreads_59 ?_
  replace hf := bnd hf
  obtain ⟨a102, rfl, hf⟩ := hf
  replace hf := bnd hf
  obtain ⟨x103, ex103, hf⟩ := hf
  refine y_iaload ex103 dX11_spreads_60 ?_
  refine y_iconst (v := 3) dX11_spreads_61 (by decide) ?_
  refine y_icmp_ne (tgt := 69) dX11_spreads_62 (by decide) (fun hc => ?_) (fun hc => ?_)
  · rw [if_neg hc] at hf
    refine y_bipush (v := 6) dX11_spreads_69 (by decide) ?_
    replace hf := bnd hf
    obtain ⟨fs105, efs105, hf⟩ := hf
    replace hf := bnd hf
    obtain ⟨q104, eq104, hf⟩ := hf
    refine y_callV (mj := miX11_fails) (args := [.inl 6]) (st := []) dX11_spreads_71 (gd_of 1055 rfl rfl) (gd_of 1057 rfl rfl) (gd_of 67 rfl rfl) okX11_fails (obO_spec efs105) rfl rfl (xX11_fails (by omega) eq104) (Nat.le_of_ble_eq_true rfl) rfl ?_
    show Y l g miX11_spreads (d + 1) 74 [some (.inr (.inr (some a0))), some (.inl x1), none, none, some (.inl x4), none, none] [] q104 _
    obtain rfl := Option.some.inj hf
    exact y_ret (v := none) dX11_spreads_74 rfl
  · rw [if_pos hc] at hf
    refine y_iconst (v := 3) dX11_spreads_65 (by decide) ?_
    refine y_goto (tgt := 71) dX11_spreads_66 (by decide) ?_
    replace hf := bnd hf
    obtain ⟨fs107, efs107, hf⟩ := hf
    replace hf := bnd hf
    obtain ⟨q106, eq106, hf⟩ := hf
    refine y_callV (mj := miX11_fails) (args := [.inl 3]) (st := []) dX11_spreads_71 (gd_of 1055 rfl rfl) (gd_of 1057 rfl rfl) (gd_of 67 rfl rfl) okX11_fails (obO_spec efs107) rfl rfl (xX11_fails (by omega) eq106) (Nat.le_of_ble_eq_true rfl) rfl ?_
    show Y l g miX11_spreads (d + 1) 74 [some (.inr (.inr (some a0))), some (.inl x1), none, none, some (.inl x4), none, none] [] q106 _
    obtain rfl := Option.some.inj hf
    exact y_ret (v := none) dX11_spreads_74 rfl
def fX11_spreads_88 (z : Nat → Nat) : Nat → Nat → Int32 → Int32 → Int32 → Int32 → Int32 → aH → Option aH
  | 0, _, _, _, _, _, _, _ => none
  | n + 1, a0, x1, x2, x3, x5, x6, h => (if x3 ≤ x6 then
  (obO h a0 9).bind fun fs102 =>
  (fX11_last z a0 x1 x2 h).bind fun q101 =>
  some q101
  else
  (rdR h a0 [9] 15).bind fun r103 =>
  (r103).bind fun a104 =>
  (arI h a104 ((20 * x5) + x6)).bind fun x105 =>
  (obO h a0 9).bind fun fs107 =>
  (fX11_add z a0 0 (Int32.toInt64 x105) h).bind fun q106 =>
  fX11_spreads_88 z n a0 x1 x2 x3 x5 (x6 + 1) q106)
set_option maxHeartbeats 4000000 in
set_option maxRecDepth 100000 in
theorem xX11_spreads_88 {l : Launch} {g : aG} {d : Nat} (hK : 2 ≤ d + 1) : ∀ (n : Nat) (a0 : Nat) (x1 : Int32) (x2 : Int32) (x3 : Int32) (x5 : Int32) (x6 : Int32) (h : aH) (q : aH), fX11_spreads_88 g.2.2 n a0 x1 x2 x3 x5 x6 h = some q → Y l g miX11_spreads (d + 1) 88 [some (.inr (.inr (some a0))), some (.inl x1), some (.inl x2), some (.inl x3), none, some (.inl x5), some (.inl x6)] [] h (none, q) := by
  intro n
  induction n with
  | zero => intro a0 x1 x2 x3 x5 x6 h q hf; simp [fX11_spreads_88] at hf
  | succ n ih =>
    intro a0 x1 x2 x3 x5 x6 h q hf
    rw [fX11_spreads_88] at hf
    refine y_iload (i := 6) dX11_spreads_88 rfl ?_
    refine y_iload_n (i := 3) dX11_spreads_90 rfl rfl ?_
    refine y_icmp_ge (tgt := 119) dX11_spreads_91 (by decide) (fun hc => ?_) (fun hc => ?_)
    · rw [if_pos hc] at hf
      refine y_aload_n (i := 0) dX11_spreads_119 rfl rfl ?_
      refine y_iload_n (i := 1) dX11_spreads_120 rfl rfl ?_
      refine y_iload_n (i := 2) dX11_spreads_121 rfl rfl ?_
      replace hf := bnd hf
      obtain ⟨fs102, efs102, hf⟩ := hf
      replace hf := bnd hf
      obtain ⟨q101, eq101, hf⟩ := hf
      refine y_callV (mj := miX11_last) (args := [.inl x1, .inl x2]) (st := []) dX11_spreads_122 (gd_of 1033 rfl rfl) (gd_of 1035 rfl rfl) (gd_of 62 rfl rfl) okX11_last (obO_spec efs102) rfl rfl (xX11_last (by omega) eq101) (Nat.le_of_ble_eq_true rfl) rfl ?_
      show Y l g miX11_spreads (d + 1) 125 [some (.inr (.inr (some a0))), some (.inl x1), some (.inl x2), some (.inl x3), none, some (.inl x5), some (.inl x6)] [] q101 _
      obtain rfl := Option.some.inj hf
      exact y_ret (v := none) dX11_spreads_125 rfl
    · rw [if_neg hc] at hf
      refine y_aload_n (i := 0) dX11_spreads_94 rfl rfl ?_
      refine y_iconst (v := 0) dX11_spreads_95 (by decide) ?_
      refine y_aload_n (i := 0) dX11_spreads_96 rfl rfl ?_
      replace hf := bnd hf
      obtain ⟨r103, er103, hf⟩ := hf
      refine y_getR er103 fl11_51 dX11_spreads_97 ?_
      refine y_bipush (v := 20) dX11_spreads_100 (by decide) ?_
      refine y_iload (i := 5) dX11_spreads_102 rfl ?_
      refine y_imul dX11_spreads_104 ?_
      refine y_iload (i := 6) dX11_spreads_105 rfl ?_
      refine y_iadd dX11_spreads_107 ?_
      replace hf := bnd hf
      obtain ⟨a104, rfl, hf⟩ := hf
      replace hf := bnd hf
      obtain ⟨x105, ex105, hf⟩ := hf
      refine y_iaload ex105 dX11_spreads_108 ?_
      refine y_i2l dX11_spreads_109 ?_
      replace hf := bnd hf
      obtain ⟨fs107, efs107, hf⟩ := hf
      replace hf := bnd hf
      obtain ⟨q106, eq106, hf⟩ := hf
      refine y_callV (mj := miX11_add) (args := [.inl 0, .inr (.inl (Int32.toInt64 x105))]) (st := []) dX11_spreads_110 (gd_of 1001 rfl rfl) (gd_of 1003 rfl rfl) (gd_of 54 rfl rfl) okX11_add (obO_spec efs107) rfl rfl (xX11_add (by omega) eq106) (Nat.le_of_ble_eq_true rfl) rfl ?_
      show Y l g miX11_spreads (d + 1) 113 [some (.inr (.inr (some a0))), some (.inl x1), some (.inl x2), some (.inl x3), none, some (.inl x5), some (.inl x6)] [] q106 _
      refine y_iinc (i := 6) (y := 1) (lv2 := [some (.inr (.inr (some a0))), some (.inl x1), some (.inl x2), some (.inl x3), none, some (.inl x5), some (.inl (x6 + 1))]) dX11_spreads_113 rfl (by decide) (by decide) rfl ?_
      refine y_goto (tgt := 88) dX11_spreads_116 (by decide) ?_
      refine Y.weak (lv2 := [some (.inr (.inr (some a0))), some (.inl x1), some (.inl x2), some (.inl x3), none, some (.inl x5), some (.inl (x6 + 1))]) [true, true, true, true, false, true, true] rfl ?_
      exact ih _ _ _ _ _ _ _ _ hf
def fX11_spreads (z : Nat → Nat) (a0 : Nat) (x1 : Int32) (x2 : Int32) (x3 : Int32) (x4 : Int32) (h : aH) : Option aH :=
  (rdR h a0 [9] 38).bind fun r101 =>
  (r101).bind fun a102 =>
  (arJ h a102 (((7 * x1) + x4) - 1)).bind fun j103 =>
  (rdR h a0 [9] 37).bind fun r104 =>
  (r104).bind fun a105 =>
  (arI h a105 (((7 * x1) + x4) - 1)).bind fun x106 =>
  (if x106 = 3 then
  fX11_spreads_46 z a0 x1 x4 h
  else
  (rdR h a0 [9] 14).bind fun r107 =>
  (r107).bind fun a108 =>
  (arI h a108 (Int64.toInt32 j103)).bind fun x109 =>
  (if x109 = x3 then
  (obO h a0 9).bind fun fs111 =>
  (fX11_addOwn z a0 x1 0 (x4 - 1) h).bind fun q110 =>
  fX11_spreads_88 z 4000 a0 x1 x2 x3 (Int64.toInt32 j103) 0 q110
  else
  fX11_spreads_46 z a0 x1 x4 h))
set_option maxHeartbeats 4000000 in
set_option maxRecDepth 100000 in
theorem xX11_spreads {l : Launch} {g : aG} {d : Nat} (hK : 2 ≤ d) {a0 : Nat} {x1 : Int32} {x2 : Int32} {x3 : Int32} {x4 : Int32} {h : aH} {q : aH} (hf : fX11_spreads g.2.2 a0 x1 x2 x3 x4 h = some q) : Ev l g miX11_spreads d [.inr (.inr (some a0)), .inl x1, .inl x2, .inl x3, .inl x4] h (none, q) := by
  obtain ⟨d, rfl⟩ : ∃ e, d = e + 1 := ⟨d - 1, by omega⟩
  refine ⟨?_, rfl, Nat.le_of_ble_eq_true rfl⟩
  unfold fX11_spreads at hf
  show Y l g miX11_spreads (d + 1) 0 [some (.inr (.inr (some a0))), some (.inl x1), some (.inl x2), some (.inl x3), some (.inl x4), none, none] [] h _
  refine y_aload_n (i := 0) dX11_spreads_0 rfl rfl ?_
  replace hf := bnd hf
  obtain ⟨r101, er101, hf⟩ := hf
  refine y_getR er101 fl11_84 dX11_spreads_1 ?_
  refine y_bipush (v := 7) dX11_spreads_4 (by decide) ?_
  refine y_iload_n (i := 1) dX11_spreads_6 rfl rfl ?_
  refine y_imul dX11_spreads_7 ?_
  refine y_iload (i := 4) dX11_spreads_8 rfl ?_
  refine y_iadd dX11_spreads_10 ?_
  refine y_iconst (v := 1) dX11_spreads_11 (by decide) ?_
  refine y_isub dX11_spreads_12 ?_
  replace hf := bnd hf
  obtain ⟨a102, rfl, hf⟩ := hf
  replace hf := bnd hf
  obtain ⟨j103, ej103, hf⟩ := hf
  refine y_laload ej103 dX11_spreads_13 ?_
  refine y_l2i dX11_spreads_14 ?_
  refine y_istore (i := 5) (lv2 := [some (.inr (.inr (some a0))), some (.inl x1), some (.inl x2), some (.inl x3), some (.inl x4), some (.inl (Int64.toInt32 j103)), none]) dX11_spreads_15 (by decide) rfl ?_
  refine y_aload_n (i := 0) dX11_spreads_17 rfl rfl ?_
  replace hf := bnd hf
  obtain ⟨r104, er104, hf⟩ := hf
  refine y_getR er104 fl11_81 dX11_spreads_18 ?_
  refine y_bipush (v := 7) dX11_spreads_21 (by decide) ?_
  refine y_iload_n (i := 1) dX11_spreads_23 rfl rfl ?_
  refine y_imul dX11_spreads_24 ?_
  refine y_iload (i := 4) dX11_spreads_25 rfl ?_
  refine y_iadd dX11_spreads_27 ?_
  refine y_iconst (v := 1) dX11_spreads_28 (by decide) ?_
  refine y_isub dX11_spreads_29 ?_
  replace hf := bnd hf
  obtain ⟨a105, rfl, hf⟩ := hf
  replace hf := bnd hf
  obtain ⟨x106, ex106, hf⟩ := hf
  refine y_iaload ex106 dX11_spreads_30 ?_
  refine y_iconst (v := 3) dX11_spreads_31 (by decide) ?_
  refine y_icmp_eq (tgt := 46) dX11_spreads_32 (by decide) (fun hc => ?_) (fun hc => ?_)
  · rw [if_pos hc] at hf
    refine Y.weak (lv2 := [some (.inr (.inr (some a0))), some (.inl x1), none, none, some (.inl x4), none, none]) [true, true, false, false, true, false, false] rfl ?_
    exact xX11_spreads_46 hK hf
  · rw [if_neg hc] at hf
    refine y_aload_n (i := 0) dX11_spreads_35 rfl rfl ?_
    replace hf := bnd hf
    obtain ⟨r107, er107, hf⟩ := hf
    refine y_getR er107 fl11_48 dX11_spreads_36 ?_
    refine y_iload (i := 5) dX11_spreads_39 rfl ?_
    replace hf := bnd hf
    obtain ⟨a108, rfl, hf⟩ := hf
    replace hf := bnd hf
    obtain ⟨x109, ex109, hf⟩ := hf
    refine y_iaload ex109 dX11_spreads_41 ?_
    refine y_iload_n (i := 3) dX11_spreads_42 rfl rfl ?_
    refine y_icmp_eq (tgt := 75) dX11_spreads_43 (by decide) (fun hc => ?_) (fun hc => ?_)
    · rw [if_pos hc] at hf
      refine y_aload_n (i := 0) dX11_spreads_75 rfl rfl ?_
      refine y_iload_n (i := 1) dX11_spreads_76 rfl rfl ?_
      refine y_iconst (v := 0) dX11_spreads_77 (by decide) ?_
      refine y_iload (i := 4) dX11_spreads_78 rfl ?_
      refine y_iconst (v := 1) dX11_spreads_80 (by decide) ?_
      refine y_isub dX11_spreads_81 ?_
      replace hf := bnd hf
      obtain ⟨fs111, efs111, hf⟩ := hf
      replace hf := bnd hf
      obtain ⟨q110, eq110, hf⟩ := hf
      refine y_callV (mj := miX11_addOwn) (args := [.inl x1, .inl 0, .inl (x4 - 1)]) (st := []) dX11_spreads_82 (gd_of 1029 rfl rfl) (gd_of 1031 rfl rfl) (gd_of 61 rfl rfl) okX11_addOwn (obO_spec efs111) rfl rfl (xX11_addOwn (by omega) eq110) (Nat.le_of_ble_eq_true rfl) rfl ?_
      show Y l g miX11_spreads (d + 1) 85 [some (.inr (.inr (some a0))), some (.inl x1), some (.inl x2), some (.inl x3), some (.inl x4), some (.inl (Int64.toInt32 j103)), none] [] q110 _
      refine y_iconst (v := 0) dX11_spreads_85 (by decide) ?_
      refine y_istore (i := 6) (lv2 := [some (.inr (.inr (some a0))), some (.inl x1), some (.inl x2), some (.inl x3), some (.inl x4), some (.inl (Int64.toInt32 j103)), some (.inl 0)]) dX11_spreads_86 (by decide) rfl ?_
      refine Y.weak (lv2 := [some (.inr (.inr (some a0))), some (.inl x1), some (.inl x2), some (.inl x3), none, some (.inl (Int64.toInt32 j103)), some (.inl 0)]) [true, true, true, true, false, true, true] rfl ?_
      exact xX11_spreads_88 hK 4000 _ _ _ _ _ _ _ _ hf
    · rw [if_neg hc] at hf
      refine Y.weak (lv2 := [some (.inr (.inr (some a0))), some (.inl x1), none, none, some (.inl x4), none, none]) [true, true, false, false, true, false, false] rfl ?_
      exact xX11_spreads_46 hK hf
