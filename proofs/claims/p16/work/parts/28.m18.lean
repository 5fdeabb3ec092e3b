set_option maxRecDepth 100000 in
theorem dX11_value_0 : decode prog_13_method_25_code 0 = .ok (.aload_n 0, 1) := by decide +kernel
set_option maxRecDepth 100000 in
theorem dX11_value_1 : decode prog_13_method_25_code 1 = .ok (.iconst 0, 1) := by decide +kernel
set_option maxRecDepth 100000 in
theorem dX11_value_2 : decode prog_13_method_25_code 2 = .ok (.putfield 1, 3) := by decide +kernel
set_option maxRecDepth 100000 in
theorem dX11_value_5 : decode prog_13_method_25_code 5 = .ok (.iload_n 2, 1) := by decide +kernel
set_option maxRecDepth 100000 in
theorem dX11_value_6 : decode prog_13_method_25_code 6 = .ok (.iconst 2, 1) := by decide +kernel
set_option maxRecDepth 100000 in
theorem dX11_value_7 : decode prog_13_method_25_code 7 = .ok (.if_icmp .ne 14, 3) := by decide +kernel
set_option maxRecDepth 100000 in
theorem dX11_value_10 : decode prog_13_method_25_code 10 = .ok (.aload_n 0, 1) := by decide +kernel
set_option maxRecDepth 100000 in
theorem dX11_value_11 : decode prog_13_method_25_code 11 = .ok (.lload_n 3, 1) := by decide +kernel
set_option maxRecDepth 100000 in
theorem dX11_value_12 : decode prog_13_method_25_code 12 = .ok (.invokevirtual 121, 3) := by decide +kernel
set_option maxRecDepth 100000 in
theorem dX11_value_15 : decode prog_13_method_25_code 15 = .ok (.ifCond .ne 6, 3) := by decide +kernel
set_option maxRecDepth 100000 in
theorem dX11_value_18 : decode prog_13_method_25_code 18 = .ok (.bipush (-2), 2) := by decide +kernel
set_option maxRecDepth 100000 in
theorem dX11_value_20 : decode prog_13_method_25_code 20 = .ok (.ireturn, 1) := by decide +kernel
set_option maxRecDepth 100000 in
theorem dX11_value_21 : decode prog_13_method_25_code 21 = .ok (.iload_n 1, 1) := by decide +kernel
set_option maxRecDepth 100000 in
theorem dX11_value_22 : decode prog_13_method_25_code 22 = .ok (.i2l, 1) := by decide +kernel
set_option maxRecDepth 100000 in
theorem dX11_value_23 : decode prog_13_method_25_code 23 = .ok (.lconst 0, 1) := by decide +kernel
set_option maxRecDepth 100000 in
theorem dX11_value_24 : decode prog_13_method_25_code 24 = .ok (.aload_n 0, 1) := by decide +kernel
set_option maxRecDepth 100000 in
theorem dX11_value_25 : decode prog_13_method_25_code 25 = .ok (.getfield 159, 3) := by decide +kernel
set_option maxRecDepth 100000 in
theorem dX11_value_28 : decode prog_13_method_25_code 28 = .ok (.iconst 5, 1) := by decide +kernel
set_option maxRecDepth 100000 in
theorem dX11_value_29 : decode prog_13_method_25_code 29 = .ok (.if_icmp .ge 11, 3) := by decide +kernel
set_option maxRecDepth 100000 in
theorem dX11_value_32 : decode prog_13_method_25_code 32 = .ok (.aload_n 0, 1) := by decide +kernel
set_option maxRecDepth 100000 in
theorem dX11_value_33 : decode prog_13_method_25_code 33 = .ok (.getfield 159, 3) := by decide +kernel
set_option maxRecDepth 100000 in
theorem dX11_value_36 : decode prog_13_method_25_code 36 = .ok (.i2l, 1) := by decide +kernel
set_option maxRecDepth 100000 in
theorem dX11_value_37 : decode prog_13_method_25_code 37 = .ok (.goto 6, 3) := by decide +kernel
set_option maxRecDepth 100000 in
theorem dX11_value_40 : decode prog_13_method_25_code 40 = .ok (.ldc2_w 155, 3) := by decide +kernel
set_option maxRecDepth 100000 in
theorem dX11_value_43 : decode prog_13_method_25_code 43 = .ok (.invokestatic 111, 3) := by decide +kernel
set_option maxRecDepth 100000 in
theorem dX11_value_46 : decode prog_13_method_25_code 46 = .ok (.ifCond .eq 27, 3) := by decide +kernel
set_option maxRecDepth 100000 in
theorem dX11_value_49 : decode prog_13_method_25_code 49 = .ok (.iload_n 2, 1) := by decide +kernel
set_option maxRecDepth 100000 in
theorem dX11_value_50 : decode prog_13_method_25_code 50 = .ok (.i2l, 1) := by decide +kernel
set_option maxRecDepth 100000 in
theorem dX11_value_51 : decode prog_13_method_25_code 51 = .ok (.lconst 0, 1) := by decide +kernel
set_option maxRecDepth 100000 in
theorem dX11_value_52 : decode prog_13_method_25_code 52 = .ok (.ldc2_w 129, 3) := by decide +kernel
set_option maxRecDepth 100000 in
theorem dX11_value_55 : decode prog_13_method_25_code 55 = .ok (.invokestatic 111, 3) := by decide +kernel
set_option maxRecDepth 100000 in
theorem dX11_value_58 : decode prog_13_method_25_code 58 = .ok (.ifCond .eq 15, 3) := by decide +kernel
set_option maxRecDepth 100000 in
theorem dX11_value_61 : decode prog_13_method_25_code 61 = .ok (.iload_n 2, 1) := by decide +kernel
set_option maxRecDepth 100000 in
theorem dX11_value_62 : decode prog_13_method_25_code 62 = .ok (.ifCond .ne 14, 3) := by decide +kernel
set_option maxRecDepth 100000 in
theorem dX11_value_65 : decode prog_13_method_25_code 65 = .ok (.lload_n 3, 1) := by decide +kernel
set_option maxRecDepth 100000 in
theorem dX11_value_66 : decode prog_13_method_25_code 66 = .ok (.l2i, 1) := by decide +kernel
set_option maxRecDepth 100000 in
theorem dX11_value_67 : decode prog_13_method_25_code 67 = .ok (.i2l, 1) := by decide +kernel
set_option maxRecDepth 100000 in
theorem dX11_value_68 : decode prog_13_method_25_code 68 = .ok (.lload_n 3, 1) := by decide +kernel
set_option maxRecDepth 100000 in
theorem dX11_value_69 : decode prog_13_method_25_code 69 = .ok (.lcmp, 1) := by decide +kernel
set_option maxRecDepth 100000 in
theorem dX11_value_70 : decode prog_13_method_25_code 70 = .ok (.ifCond .eq 6, 3) := by decide +kernel
set_option maxRecDepth 100000 in
theorem dX11_value_73 : decode prog_13_method_25_code 73 = .ok (.bipush (-3), 2) := by decide +kernel
set_option maxRecDepth 100000 in
theorem dX11_value_75 : decode prog_13_method_25_code 75 = .ok (.ireturn, 1) := by decide +kernel
set_option maxRecDepth 100000 in
theorem dX11_value_76 : decode prog_13_method_25_code 76 = .ok (.aload_n 0, 1) := by decide +kernel
set_option maxRecDepth 100000 in
theorem dX11_value_77 : decode prog_13_method_25_code 77 = .ok (.getfield 63, 3) := by decide +kernel
set_option maxRecDepth 100000 in
theorem dX11_value_80 : decode prog_13_method_25_code 80 = .ok (.iload_n 1, 1) := by decide +kernel
set_option maxRecDepth 100000 in
theorem dX11_value_81 : decode prog_13_method_25_code 81 = .ok (.iload_n 2, 1) := by decide +kernel
set_option maxRecDepth 100000 in
theorem dX11_value_82 : decode prog_13_method_25_code 82 = .ok (.iastore, 1) := by decide +kernel
set_option maxRecDepth 100000 in
theorem dX11_value_83 : decode prog_13_method_25_code 83 = .ok (.aload_n 0, 1) := by decide +kernel
set_option maxRecDepth 100000 in
theorem dX11_value_84 : decode prog_13_method_25_code 84 = .ok (.getfield 66, 3) := by decide +kernel
set_option maxRecDepth 100000 in
theorem dX11_value_87 : decode prog_13_method_25_code 87 = .ok (.iload_n 1, 1) := by decide +kernel
set_option maxRecDepth 100000 in
theorem dX11_value_88 : decode prog_13_method_25_code 88 = .ok (.iload_n 2, 1) := by decide +kernel
set_option maxRecDepth 100000 in
theorem dX11_value_89 : decode prog_13_method_25_code 89 = .ok (.iconst 3, 1) := by decide +kernel
set_option maxRecDepth 100000 in
theorem dX11_value_90 : decode prog_13_method_25_code 90 = .ok (.if_icmp .ne 7, 3) := by decide +kernel
set_option maxRecDepth 100000 in
theorem dX11_value_93 : decode prog_13_method_25_code 93 = .ok (.lconst 0, 1) := by decide +kernel
set_option maxRecDepth 100000 in
theorem dX11_value_94 : decode prog_13_method_25_code 94 = .ok (.goto 4, 3) := by decide +kernel
set_option maxRecDepth 100000 in
theorem dX11_value_97 : decode prog_13_method_25_code 97 = .ok (.lload_n 3, 1) := by decide +kernel
set_option maxRecDepth 100000 in
theorem dX11_value_98 : decode prog_13_method_25_code 98 = .ok (.lastore, 1) := by decide +kernel
set_option maxRecDepth 100000 in
theorem dX11_value_99 : decode prog_13_method_25_code 99 = .ok (.aload_n 0, 1) := by decide +kernel
set_option maxRecDepth 100000 in
theorem dX11_value_100 : decode prog_13_method_25_code 100 = .ok (.iload_n 1, 1) := by decide +kernel
set_option maxRecDepth 100000 in
theorem dX11_value_101 : decode prog_13_method_25_code 101 = .ok (.iconst 1, 1) := by decide +kernel
set_option maxRecDepth 100000 in
theorem dX11_value_102 : decode prog_13_method_25_code 102 = .ok (.iadd, 1) := by decide +kernel
set_option maxRecDepth 100000 in
theorem dX11_value_103 : decode prog_13_method_25_code 103 = .ok (.putfield 159, 3) := by decide +kernel
set_option maxRecDepth 100000 in
theorem dX11_value_106 : decode prog_13_method_25_code 106 = .ok (.aload_n 0, 1) := by decide +kernel
set_option maxRecDepth 100000 in
theorem dX11_value_107 : decode prog_13_method_25_code 107 = .ok (.getfield 159, 3) := by decide +kernel
set_option maxRecDepth 100000 in
theorem dX11_value_110 : decode prog_13_method_25_code 110 = .ok (.ireturn, 1) := by decide +kernel

def fX11_value_98 (z : Nat → Nat) (a0 : Nat) (x1 : Int32) (sr0 : Option Nat) (sx1 : Int32) (sj2 : Int64) (h : aH) : Option (Int32 × aH) :=
  (sr0).bind fun a101 =>
  (awJ h a101 sx1 sj2).bind fun h102 =>
  (wrF h102 a0 [9] 20 (.inl (x1 + 1))).bind fun h103 =>
  (rdI h103 a0 [9] 20).bind fun x104 =>
  some (x104, h103)
set_option maxHeartbeats 4000000 in
set_option maxRecDepth 100000 in
theorem xX11_value_98 {l : Launch} {g : aG} {d : Nat} (hK : 2 ≤ d + 1) {a0 : Nat} {x1 : Int32} {sr0 : Option Nat} {sx1 : Int32} {sj2 : Int64} {h : aH} {q : Int32 × aH} (hf : fX11_value_98 g.2.2 a0 x1 sr0 sx1 sj2 h = some q) : Y l g miX11_value (d + 1) 98 [some (.inr (.inr (some a0))), some (.inl x1), none, none, none] [.inr (.inl sj2), .inl sx1, .inr (.inr sr0)] h (some (.inl q.1), q.2) := by
  unfold fX11_value_98 at hf
  replace hf := bnd hf
  obtain ⟨a101, rfl, hf⟩ := hf
  replace hf := bnd hf
  obtain ⟨h102, eh102, hf⟩ := hf
  refine y_lastore eh102 dX11_value_98 ?_
  refine y_aload_n (i := 0) dX11_value_99 rfl rfl ?_
  refine y_iload_n (i := 1) dX11_value_100 rfl rfl ?_
  refine y_iconst (v := 1) dX11_value_101 (by decide) ?_
  refine y_iadd dX11_value_102 ?_
  replace hf := bnd hf
  obtain ⟨h103, eh103, hf⟩ := hf
  refine y_put eh103 (pl11_159_m rfl) dX11_value_103 ?_
  refine y_aload_n (i := 0) dX11_value_106 rfl rfl ?_
  replace hf := bnd hf
  obtain ⟨x104, ex104, hf⟩ := hf
  refine y_getI ex104 fl11_159 dX11_value_107 ?_
  obtain rfl := Option.some.inj hf
  exact y_ret (v := some (.inl x104)) dX11_value_110 rfl
def fX11_value_76 (z : Nat → Nat) (a0 : Nat) (x1 : Int32) (x2 : Int32) (j3 : Int64) (h : aH) : Option (Int32 × aH) :=
  (rdR h a0 [9] 21).bind fun r101 =>
  (r101).bind fun a102 =>
  (awI h a102 x1 x2).bind fun h103 =>
  (rdR h103 a0 [9] 22).bind fun r104 =>
  (if x2 = 3 then
  fX11_value_98 z a0 x1 r104 x1 0 h103
  else
  fX11_value_98 z a0 x1 r104 x1 j3 h103)
set_option maxHeartbeats 4000000 in
set_option maxRecDepth 100000 in
theorem xX11_value_76 {l : Launch} {g : aG} {d : Nat} (hK : 2 ≤ d + 1) {a0 : Nat} {x1 : Int32} {x2 : Int32} {j3 : Int64} {h : aH} {q : Int32 × aH} (hf : fX11_value_76 g.2.2 a0 x1 x2 j3 h = some q) : Y l g miX11_value (d + 1) 76 [some (.inr (.inr (some a0))), some (.inl x1), some (.inl x2), some (.inr (.inl j3)), none] [] h (some (.inl q.1), q.2) := by
  unfold fX11_value_76 at hf
  refine y_aload_n (i := 0) dX11_value_76 rfl rfl ?_
  replace hf := bnd hf
  obtain ⟨r101, er101, hf⟩ := hf
  refine y_getR er101 fl11_63 dX11_value_77 ?_
  refine y_iload_n (i := 1) dX11_value_80 rfl rfl ?_
  refine y_iload_n (i := 2) dX11_value_81 rfl rfl ?_
  replace hf := bnd hf
  obtain ⟨a102, rfl, hf⟩ := hf
  replace hf := bnd hf
  obtain ⟨h103, eh103, hf⟩ := hf
  refine y_iastore eh103 dX11_value_82 ?_
  refine y_aload_n (i := 0) dX11_value_83 rfl rfl ?_
  replace hf := bnd hf
  obtain ⟨r104, er104, hf⟩ := hf
  refine y_getR er104 fl11_66 dX11_value_84 ?_
  refine y_iload_n (i := 1) dX11_value_87 rfl rfl ?_
  refine y_iload_n (i := 2) dX11_value_88 rfl rfl ?_
  refine y_iconst (v := 3) dX11_value_89 (by decide) ?_
  refine y_icmp_ne (tgt := 97) dX11_value_90 (by decide) (fun hc => ?_) (fun hc => ?_)
  · rw [if_neg hc] at hf
    refine y_lload_n (i := 3) dX11_value_97 rfl rfl ?_
    refine Y.weak (lv2 := [some (.inr (.inr (some a0))), some (.inl x1), none, none, none]) [true, true, false, false, false] rfl ?_
    exact xX11_value_98 hK hf
  · rw [if_pos hc] at hf
    refine y_lconst (v := 0) dX11_value_93 (by decide) ?_
    refine y_goto (tgt := 98) dX11_value_94 (by decide) ?_
    refine Y.weak (lv2 := [some (.inr (.inr (some a0))), some (.inl x1), none, none, none]) [true, true, false, false, false] rfl ?_
    exact xX11_value_98 hK hf
def fX11_value_43 (z : Nat → Nat) (a0 : Nat) (x1 : Int32) (x2 : Int32) (j3 : Int64) (sj0 : Int64) (sj1 : Int64) (sj2 : Int64) (h : aH) : Option (Int32 × aH) :=
  (fX11_in z sj0 sj1 sj2 h).bind fun q101 =>
  (if q101.1 = 0 then
  some ((-3), q101.2)
  else
  (fX11_in z (Int32.toInt64 x2) 0 3 q101.2).bind fun q102 =>
  (if q102.1 = 0 then
  some ((-3), q102.2)
  else
  (if x2 = 0 then
  (if (lg_cmp (Int32.toInt64 (Int64.toInt32 j3)) j3) = 0 then
  fX11_value_76 z a0 x1 x2 j3 q102.2
  else
  some ((-3), q102.2))
  else
  fX11_value_76 z a0 x1 x2 j3 q102.2)))
set_option maxHeartbeats 4000000 in
set_option maxRecDepth 100000 in
theorem xX11_value_43 {l : Launch} {g : aG} {d : Nat} (hK : 2 ≤ d + 1) {a0 : Nat} {x1 : Int32} {x2 : Int32} {j3 : Int64} {sj0 : Int64} {sj1 : Int64} {sj2 : Int64} {h : aH} {q : Int32 × aH} (hf : fX11_value_43 g.2.2 a0 x1 x2 j3 sj0 sj1 sj2 h = some q) : Y l g miX11_value (d + 1) 43 [some (.inr (.inr (some a0))), some (.inl x1), some (.inl x2), some (.inr (.inl j3)), none] [.inr (.inl sj2), .inr (.inl sj1), .inr (.inl sj0)] h (some (.inl q.1), q.2) := by
  unfold fX11_value_43 at hf
  replace hf := bnd hf
  obtain ⟨q101, eq101, hf⟩ := hf
  refine y_callS (mj := miX11_in) (args := [.inr (.inl sj0), .inr (.inl sj1), .inr (.inl sj2)]) (st := []) dX11_value_43 (gd_of 878 rfl rfl) (gd_of 879 rfl rfl) okX11_in (xX11_in (by omega) eq101) (Nat.le_of_ble_eq_true rfl) rfl ?_
  show Y l g miX11_value (d + 1) 46 [some (.inr (.inr (some a0))), some (.inl x1), some (.inl x2), some (.inr (.inl j3)), none] [.inl q101.1] q101.2 _
  refine y_if_eq (tgt := 73) dX11_value_46 (by decide) (fun hc => ?_) (fun hc => ?_)
  · rw [if_pos hc] at hf
    refine y_bipush (v := (-3)) dX11_value_73 (by decide) ?_
    obtain rfl := Option.some.inj hf
    exact y_ret (v := some (.inl (-3))) dX11_value_75 rfl
  · rw [if_neg hc] at hf
    refine y_iload_n (i := 2) dX11_value_49 rfl rfl ?_
    refine y_i2l dX11_value_50 ?_
    refine y_lconst (v := 0) dX11_value_51 (by decide) ?_
    refine y_ldc2 (v := 3) dX11_value_52 (gd_of 883 rfl rfl) ?_
    replace hf := bnd hf
    obtain ⟨q102, eq102, hf⟩ := hf
    refine y_callS (mj := miX11_in) (args := [.inr (.inl (Int32.toInt64 x2)), .inr (.inl 0), .inr (.inl 3)]) (st := []) dX11_value_55 (gd_of 878 rfl rfl) (gd_of 879 rfl rfl) okX11_in (xX11_in (by omega) eq102) (Nat.le_of_ble_eq_true rfl) rfl ?_
    show Y l g miX11_value (d + 1) 58 [some (.inr (.inr (some a0))), some (.inl x1), some (.inl x2), some (.inr (.inl j3)), none] [.inl q102.1] q102.2 _
    refine y_if_eq (tgt := 73) dX11_value_58 (by decide) (fun hc => ?_) (fun hc => ?_)
    · rw [if_pos hc] at hf
      refine y_bipush (v := (-3)) dX11_value_73 (by decide) ?_
      obtain rfl := Option.some.inj hf
      exact y_ret (v := some (.inl (-3))) dX11_value_75 rfl
    · rw [if_neg hc] at hf
      refine y_iload_n (i := 2) dX11_value_61 rfl rfl ?_
      refine y_if_ne (tgt := 76) dX11_value_62 (by decide) (fun hc => ?_) (fun hc => ?_)
      · rw [if_neg hc] at hf
        refine Y.weak (lv2 := [some (.inr (.inr (some a0))), some (.inl x1), some (.inl x2), some (.inr (.inl j3)), none]) [true, true, true, true, false] rfl ?_
        exact xX11_value_76 hK hf
      · rw [if_pos hc] at hf
        refine y_lload_n (i := 3) dX11_value_65 rfl rfl ?_
        refine y_l2i dX11_value_66 ?_
        refine y_i2l dX11_value_67 ?_
        refine y_lload_n (i := 3) dX11_value_68 rfl rfl ?_
        refine y_lcmp dX11_value_69 ?_
        refine y_if_eq (tgt := 76) dX11_value_70 (by decide) (fun hc => ?_) (fun hc => ?_)
        · rw [if_pos hc] at hf
          refine Y.weak (lv2 := [some (.inr (.inr (some a0))), some (.inl x1), some (.inl x2), some (.inr (.inl j3)), none]) [true, true, true, true, false] rfl ?_
          exact xX11_value_76 hK hf
        · rw [if_neg hc] at hf
          refine y_bipush (v := (-3)) dX11_value_73 (by decide) ?_
          obtain rfl := Option.some.inj hf
          exact y_ret (v := some (.inl (-3))) dX11_value_75 rfl
def fX11_value_21 (z : Nat → Nat) (a0 : Nat) (x1 : Int32) (x2 : Int32) (j3 : Int64) (h : aH) : Option (Int32 × aH) :=
  (rdI h a0 [9] 20).bind fun x101 =>
  (if 5 ≤ x101 then
  fX11_value_43 z a0 x1 x2 j3 (Int32.toInt64 x1) 0 5 h
  else
  (rdI h a0 [9] 20).bind fun x102 =>
  fX11_value_43 z a0 x1 x2 j3 (Int32.toInt64 x1) 0 (Int32.toInt64 x102) h)
set_option maxHeartbeats 4000000 in
set_option maxRecDepth 100000 in
theorem xX11_value_21 {l : Launch} {g : aG} {d : Nat} (hK : 2 ≤ d + 1) {a0 : Nat} {x1 : Int32} {x2 : Int32} {j3 : Int64} {h : aH} {q : Int32 × aH} (hf : fX11_value_21 g.2.2 a0 x1 x2 j3 h = some q) : Y l g miX11_value (d + 1) 21 [some (.inr (.inr (some a0))), some (.inl x1), some (.inl x2), some (.inr (.inl j3)), none] [] h (some (.inl q.1), q.2) := by
  unfold fX11_value_21 at hf
  refine y_iload_n (i := 1) dX11_value_21 rfl rfl ?_
  refine y_i2l dX11_value_22 ?_
  refine y_lconst (v := 0) dX11_value_23 (by decide) ?_
  refine y_aload_n (i := 0) dX11_value_24 rfl rfl ?_
  replace hf := bnd hf
  obtain ⟨x101, ex101, hf⟩ := hf
  refine y_getI ex101 fl11_159 dX11_value_25 ?_
  refine y_iconst (v := 5) dX11_value_28 (by decide) ?_
  refine y_icmp_ge (tgt := 40) dX11_value_29 (by decide) (fun hc => ?_) (fun hc => ?_)
  · rw [if_pos hc] at hf
    refine y_ldc2 (v := 5) dX11_value_40 (gd_of 915 rfl rfl) ?_
    refine Y.weak (lv2 := [some (.inr (.inr (some a0))), some (.inl x1), some (.inl x2), some (.inr (.inl j3)), none]) [true, true, true, true, false] rfl ?_
    exact xX11_value_43 hK hf
  · rw [if_neg hc] at hf
    refine y_aload_n (i := 0) dX11_value_32 rfl rfl ?_
    replace hf := bnd hf
    obtain ⟨x102, ex102, hf⟩ := hf
    refine y_getI ex102 fl11_159 dX11_value_33 ?_
    refine y_i2l dX11_value_36 ?_
    refine y_goto (tgt := 43) dX11_value_37 (by decide) ?_
    refine Y.weak (lv2 := [some (.inr (.inr (some a0))), some (.inl x1), some (.inl x2), some (.inr (.inl j3)), none]) [true, true, true, true, false] rfl ?_
    exact xX11_value_43 hK hf
def fX11_value (z : Nat → Nat) (a0 : Nat) (x1 : Int32) (x2 : Int32) (j3 : Int64) (h : aH) : Option (Int32 × aH) :=
  (wrF h a0 [9] 0 (.inl 0)).bind fun h101 =>
  (if x2 = 2 then
  (obO h101 a0 9).bind fun fs103 =>
  (fX11_isRow z a0 j3 h101).bind fun q102 =>
  (if q102.1 = 0 then
  some ((-2), q102.2)
  else
  fX11_value_21 z a0 x1 x2 j3 q102.2)
  else
  fX11_value_21 z a0 x1 x2 j3 h101)
set_option maxHeartbeats 4000000 in
set_option maxRecDepth 100000 in
theorem xX11_value {l : Launch} {g : aG} {d : Nat} (hK : 2 ≤ d) {a0 : Nat} {x1 : Int32} {x2 : Int32} {j3 : Int64} {h : aH} {q : Int32 × aH} (hf : fX11_value g.2.2 a0 x1 x2 j3 h = some q) : Ev l g miX11_value d [.inr (.inr (some a0)), .inl x1, .inl x2, .inr (.inl j3)] h (some (.inl q.1), q.2) := by
  obtain ⟨d, rfl⟩ : ∃ e, d = e + 1 := ⟨d - 1, by omega⟩
  refine ⟨?_, Or.inl rfl, Nat.le_of_ble_eq_true rfl⟩
  unfold fX11_value at hf
  show Y l g miX11_value (d + 1) 0 [some (.inr (.inr (some a0))), some (.inl x1), some (.inl x2), some (.inr (.inl j3)), none] [] h _
  refine y_aload_n (i := 0) dX11_value_0 rfl rfl ?_
  refine y_iconst (v := 0) dX11_value_1 (by decide) ?_
  replace hf := bnd hf
  obtain ⟨h101, eh101, hf⟩ := hf
  refine y_put eh101 (pl11_1_m rfl) dX11_value_2 ?_
  refine y_iload_n (i := 2) dX11_value_5 rfl rfl ?_
  refine y_iconst (v := 2) dX11_value_6 (by decide) ?_
  refine y_icmp_ne (tgt := 21) dX11_value_7 (by decide) (fun hc => ?_) (fun hc => ?_)
  · rw [if_neg hc] at hf
    refine Y.weak (lv2 := [some (.inr (.inr (some a0))), some (.inl x1), some (.inl x2), some (.inr (.inl j3)), none]) [true, true, true, true, false] rfl ?_
    exact xX11_value_21 hK hf
  · rw [if_pos hc] at hf
    refine y_aload_n (i := 0) dX11_value_10 rfl rfl ?_
    refine y_lload_n (i := 3) dX11_value_11 rfl rfl ?_
    replace hf := bnd hf
    obtain ⟨fs103, efs103, hf⟩ := hf
    replace hf := bnd hf
    obtain ⟨q102, eq102, hf⟩ := hf
    refine y_callV (mj := miX11_isRow) (args := [.inr (.inl j3)]) (st := []) dX11_value_12 (gd_of 874 rfl rfl) (gd_of 876 rfl rfl) (gd_of 35 rfl rfl) okX11_isRow (obO_spec efs103) rfl rfl (xX11_isRow (by omega) eq102) (Nat.le_of_ble_eq_true rfl) rfl ?_
    show Y l g miX11_value (d + 1) 15 [some (.inr (.inr (some a0))), some (.inl x1), some (.inl x2), some (.inr (.inl j3)), none] [.inl q102.1] q102.2 _
    refine y_if_ne (tgt := 21) dX11_value_15 (by decide) (fun hc => ?_) (fun hc => ?_)
    · rw [if_neg hc] at hf
      refine Y.weak (lv2 := [some (.inr (.inr (some a0))), some (.inl x1), some (.inl x2), some (.inr (.inl j3)), none]) [true, true, true, true, false] rfl ?_
      exact xX11_value_21 hK hf
    · rw [if_pos hc] at hf
      refine y_bipush (v := (-2)) dX11_value_18 (by decide) ?_
      obtain rfl := Option.some.inj hf
      exact y_ret (v := some (.inl (-2))) dX11_value_20 rfl
