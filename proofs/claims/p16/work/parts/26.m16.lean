set_option maxRecDepth 100000 in
theorem dX11_ofRow_0 : decode prog_13_method_37_code 0 = .ok (.aload_n 0, 1) := by decide +kernel
set_option maxRecDepth 100000 in
theorem dX11_ofRow_1 : decode prog_13_method_37_code 1 = .ok (.getfield 81, 3) := by decide +kernel
set_option maxRecDepth 100000 in
theorem dX11_ofRow_4 : decode prog_13_method_37_code 4 = .ok (.bipush 7, 2) := by decide +kernel
set_option maxRecDepth 100000 in
theorem dX11_ofRow_6 : decode prog_13_method_37_code 6 = .ok (.iload_n 1, 1) := by decide +kernel
set_option maxRecDepth 100000 in
theorem dX11_ofRow_7 : decode prog_13_method_37_code 7 = .ok (.imul, 1) := by decide +kernel
set_option maxRecDepth 100000 in
theorem dX11_ofRow_8 : decode prog_13_method_37_code 8 = .ok (.iaload, 1) := by decide +kernel
set_option maxRecDepth 100000 in
theorem dX11_ofRow_9 : decode prog_13_method_37_code 9 = .ok (.iconst 3, 1) := by decide +kernel
set_option maxRecDepth 100000 in
theorem dX11_ofRow_10 : decode prog_13_method_37_code 10 = .ok (.if_icmp .ne 11, 3) := by decide +kernel
set_option maxRecDepth 100000 in
theorem dX11_ofRow_13 : decode prog_13_method_37_code 13 = .ok (.aload_n 0, 1) := by decide +kernel
set_option maxRecDepth 100000 in
theorem dX11_ofRow_14 : decode prog_13_method_37_code 14 = .ok (.iconst 3, 1) := by decide +kernel
set_option maxRecDepth 100000 in
theorem dX11_ofRow_15 : decode prog_13_method_37_code 15 = .ok (.putfield 173, 3) := by decide +kernel
set_option maxRecDepth 100000 in
theorem dX11_ofRow_18 : decode prog_13_method_37_code 18 = .ok (.goto 113, 3) := by decide +kernel
set_option maxRecDepth 100000 in
theorem dX11_ofRow_21 : decode prog_13_method_37_code 21 = .ok (.iload_n 2, 1) := by decide +kernel
set_option maxRecDepth 100000 in
theorem dX11_ofRow_22 : decode prog_13_method_37_code 22 = .ok (.bipush 10, 2) := by decide +kernel
set_option maxRecDepth 100000 in
theorem dX11_ofRow_24 : decode prog_13_method_37_code 24 = .ok (.if_icmp .ne 19, 3) := by decide +kernel
set_option maxRecDepth 100000 in
theorem dX11_ofRow_27 : decode prog_13_method_37_code 27 = .ok (.aload_n 0, 1) := by decide +kernel
set_option maxRecDepth 100000 in
theorem dX11_ofRow_28 : decode prog_13_method_37_code 28 = .ok (.iconst 0, 1) := by decide +kernel
set_option maxRecDepth 100000 in
theorem dX11_ofRow_29 : decode prog_13_method_37_code 29 = .ok (.aload_n 0, 1) := by decide +kernel
set_option maxRecDepth 100000 in
theorem dX11_ofRow_30 : decode prog_13_method_37_code 30 = .ok (.getfield 48, 3) := by decide +kernel
set_option maxRecDepth 100000 in
theorem dX11_ofRow_33 : decode prog_13_method_37_code 33 = .ok (.lload_n 3, 1) := by decide +kernel
set_option maxRecDepth 100000 in
theorem dX11_ofRow_34 : decode prog_13_method_37_code 34 = .ok (.l2i, 1) := by decide +kernel
set_option maxRecDepth 100000 in
theorem dX11_ofRow_35 : decode prog_13_method_37_code 35 = .ok (.iaload, 1) := by decide +kernel
set_option maxRecDepth 100000 in
theorem dX11_ofRow_36 : decode prog_13_method_37_code 36 = .ok (.i2l, 1) := by decide +kernel
set_option maxRecDepth 100000 in
theorem dX11_ofRow_37 : decode prog_13_method_37_code 37 = .ok (.invokevirtual 223, 3) := by decide +kernel
set_option maxRecDepth 100000 in
theorem dX11_ofRow_40 : decode prog_13_method_37_code 40 = .ok (.goto 91, 3) := by decide +kernel
set_option maxRecDepth 100000 in
theorem dX11_ofRow_43 : decode prog_13_method_37_code 43 = .ok (.lload 5, 2) := by decide +kernel
set_option maxRecDepth 100000 in
theorem dX11_ofRow_45 : decode prog_13_method_37_code 45 = .ok (.lconst 0, 1) := by decide +kernel
set_option maxRecDepth 100000 in
theorem dX11_ofRow_46 : decode prog_13_method_37_code 46 = .ok (.aload_n 0, 1) := by decide +kernel
set_option maxRecDepth 100000 in
theorem dX11_ofRow_47 : decode prog_13_method_37_code 47 = .ok (.getfield 48, 3) := by decide +kernel
set_option maxRecDepth 100000 in
theorem dX11_ofRow_50 : decode prog_13_method_37_code 50 = .ok (.lload_n 3, 1) := by decide +kernel
set_option maxRecDepth 100000 in
theorem dX11_ofRow_51 : decode prog_13_method_37_code 51 = .ok (.l2i, 1) := by decide +kernel
set_option maxRecDepth 100000 in
theorem dX11_ofRow_52 : decode prog_13_method_37_code 52 = .ok (.iaload, 1) := by decide +kernel
set_option maxRecDepth 100000 in
theorem dX11_ofRow_53 : decode prog_13_method_37_code 53 = .ok (.iconst 1, 1) := by decide +kernel
set_option maxRecDepth 100000 in
theorem dX11_ofRow_54 : decode prog_13_method_37_code 54 = .ok (.isub, 1) := by decide +kernel
set_option maxRecDepth 100000 in
theorem dX11_ofRow_55 : decode prog_13_method_37_code 55 = .ok (.i2l, 1) := by decide +kernel
set_option maxRecDepth 100000 in
theorem dX11_ofRow_56 : decode prog_13_method_37_code 56 = .ok (.invokestatic 111, 3) := by decide +kernel
set_option maxRecDepth 100000 in
theorem dX11_ofRow_59 : decode prog_13_method_37_code 59 = .ok (.ifCond .ne 11, 3) := by decide +kernel
set_option maxRecDepth 100000 in
theorem dX11_ofRow_62 : decode prog_13_method_37_code 62 = .ok (.aload_n 0, 1) := by decide +kernel
set_option maxRecDepth 100000 in
theorem dX11_ofRow_63 : decode prog_13_method_37_code 63 = .ok (.iconst 4, 1) := by decide +kernel
set_option maxRecDepth 100000 in
theorem dX11_ofRow_64 : decode prog_13_method_37_code 64 = .ok (.putfield 173, 3) := by decide +kernel
set_option maxRecDepth 100000 in
theorem dX11_ofRow_67 : decode prog_13_method_37_code 67 = .ok (.goto 64, 3) := by decide +kernel
set_option maxRecDepth 100000 in
theorem dX11_ofRow_70 : decode prog_13_method_37_code 70 = .ok (.iload_n 2, 1) := by decide +kernel
set_option maxRecDepth 100000 in
theorem dX11_ofRow_71 : decode prog_13_method_37_code 71 = .ok (.bipush 8, 2) := by decide +kernel
set_option maxRecDepth 100000 in
theorem dX11_ofRow_73 : decode prog_13_method_37_code 73 = .ok (.if_icmp .ne 26, 3) := by decide +kernel
set_option maxRecDepth 100000 in
theorem dX11_ofRow_76 : decode prog_13_method_37_code 76 = .ok (.aload_n 0, 1) := by decide +kernel
set_option maxRecDepth 100000 in
theorem dX11_ofRow_77 : decode prog_13_method_37_code 77 = .ok (.iconst 0, 1) := by decide +kernel
set_option maxRecDepth 100000 in
theorem dX11_ofRow_78 : decode prog_13_method_37_code 78 = .ok (.aload_n 0, 1) := by decide +kernel
set_option maxRecDepth 100000 in
theorem dX11_ofRow_79 : decode prog_13_method_37_code 79 = .ok (.getfield 51, 3) := by decide +kernel
set_option maxRecDepth 100000 in
theorem dX11_ofRow_82 : decode prog_13_method_37_code 82 = .ok (.bipush 20, 2) := by decide +kernel
set_option maxRecDepth 100000 in
theorem dX11_ofRow_84 : decode prog_13_method_37_code 84 = .ok (.lload_n 3, 1) := by decide +kernel
set_option maxRecDepth 100000 in
theorem dX11_ofRow_85 : decode prog_13_method_37_code 85 = .ok (.l2i, 1) := by decide +kernel
set_option maxRecDepth 100000 in
theorem dX11_ofRow_86 : decode prog_13_method_37_code 86 = .ok (.imul, 1) := by decide +kernel
set_option maxRecDepth 100000 in
theorem dX11_ofRow_87 : decode prog_13_method_37_code 87 = .ok (.lload 5, 2) := by decide +kernel
set_option maxRecDepth 100000 in
theorem dX11_ofRow_89 : decode prog_13_method_37_code 89 = .ok (.l2i, 1) := by decide +kernel
set_option maxRecDepth 100000 in
theorem dX11_ofRow_90 : decode prog_13_method_37_code 90 = .ok (.iadd, 1) := by decide +kernel
set_option maxRecDepth 100000 in
theorem dX11_ofRow_91 : decode prog_13_method_37_code 91 = .ok (.iaload, 1) := by decide +kernel
set_option maxRecDepth 100000 in
theorem dX11_ofRow_92 : decode prog_13_method_37_code 92 = .ok (.i2l, 1) := by decide +kernel
set_option maxRecDepth 100000 in
theorem dX11_ofRow_93 : decode prog_13_method_37_code 93 = .ok (.invokevirtual 223, 3) := by decide +kernel
set_option maxRecDepth 100000 in
theorem dX11_ofRow_96 : decode prog_13_method_37_code 96 = .ok (.goto 35, 3) := by decide +kernel
set_option maxRecDepth 100000 in
theorem dX11_ofRow_99 : decode prog_13_method_37_code 99 = .ok (.aload_n 0, 1) := by decide +kernel
set_option maxRecDepth 100000 in
theorem dX11_ofRow_100 : decode prog_13_method_37_code 100 = .ok (.getfield 51, 3) := by decide +kernel
set_option maxRecDepth 100000 in
theorem dX11_ofRow_103 : decode prog_13_method_37_code 103 = .ok (.bipush 20, 2) := by decide +kernel
set_option maxRecDepth 100000 in
theorem dX11_ofRow_105 : decode prog_13_method_37_code 105 = .ok (.lload_n 3, 1) := by decide +kernel
set_option maxRecDepth 100000 in
theorem dX11_ofRow_106 : decode prog_13_method_37_code 106 = .ok (.l2i, 1) := by decide +kernel
set_option maxRecDepth 100000 in
theorem dX11_ofRow_107 : decode prog_13_method_37_code 107 = .ok (.imul, 1) := by decide +kernel
set_option maxRecDepth 100000 in
theorem dX11_ofRow_108 : decode prog_13_method_37_code 108 = .ok (.lload 5, 2) := by decide +kernel
set_option maxRecDepth 100000 in
theorem dX11_ofRow_110 : decode prog_13_method_37_code 110 = .ok (.l2i, 1) := by decide +kernel
set_option maxRecDepth 100000 in
theorem dX11_ofRow_111 : decode prog_13_method_37_code 111 = .ok (.iadd, 1) := by decide +kernel
set_option maxRecDepth 100000 in
theorem dX11_ofRow_112 : decode prog_13_method_37_code 112 = .ok (.aload_n 0, 1) := by decide +kernel
set_option maxRecDepth 100000 in
theorem dX11_ofRow_113 : decode prog_13_method_37_code 113 = .ok (.getfield 84, 3) := by decide +kernel
set_option maxRecDepth 100000 in
theorem dX11_ofRow_116 : decode prog_13_method_37_code 116 = .ok (.bipush 7, 2) := by decide +kernel
set_option maxRecDepth 100000 in
theorem dX11_ofRow_118 : decode prog_13_method_37_code 118 = .ok (.iload_n 1, 1) := by decide +kernel
set_option maxRecDepth 100000 in
theorem dX11_ofRow_119 : decode prog_13_method_37_code 119 = .ok (.imul, 1) := by decide +kernel
set_option maxRecDepth 100000 in
theorem dX11_ofRow_120 : decode prog_13_method_37_code 120 = .ok (.iconst 2, 1) := by decide +kernel
set_option maxRecDepth 100000 in
theorem dX11_ofRow_121 : decode prog_13_method_37_code 121 = .ok (.iadd, 1) := by decide +kernel
set_option maxRecDepth 100000 in
theorem dX11_ofRow_122 : decode prog_13_method_37_code 122 = .ok (.laload, 1) := by decide +kernel
set_option maxRecDepth 100000 in
theorem dX11_ofRow_123 : decode prog_13_method_37_code 123 = .ok (.l2i, 1) := by decide +kernel
set_option maxRecDepth 100000 in
theorem dX11_ofRow_124 : decode prog_13_method_37_code 124 = .ok (.iastore, 1) := by decide +kernel
set_option maxRecDepth 100000 in
theorem dX11_ofRow_125 : decode prog_13_method_37_code 125 = .ok (.aload_n 0, 1) := by decide +kernel
set_option maxRecDepth 100000 in
theorem dX11_ofRow_126 : decode prog_13_method_37_code 126 = .ok (.iconst 3, 1) := by decide +kernel
set_option maxRecDepth 100000 in
theorem dX11_ofRow_127 : decode prog_13_method_37_code 127 = .ok (.lconst 0, 1) := by decide +kernel
set_option maxRecDepth 100000 in
theorem dX11_ofRow_128 : decode prog_13_method_37_code 128 = .ok (.invokevirtual 223, 3) := by decide +kernel
set_option maxRecDepth 100000 in
theorem dX11_ofRow_131 : decode prog_13_method_37_code 131 = .ok (.return_, 1) := by decide +kernel

def fX11_ofRow (z : Nat → Nat) (a0 : Nat) (x1 : Int32) (x2 : Int32) (j3 : Int64) (j5 : Int64) (h : aH) : Option aH :=
  (rdR h a0 [9] 37).bind fun r101 =>
  (r101).bind fun a102 =>
  (arI h a102 (7 * x1)).bind fun x103 =>
  (if x103 = 3 then
  (wrF h a0 [9] 29 (.inl 3)).bind fun h127 =>
  some h127
  else
  (if x2 = 10 then
  (rdR h a0 [9] 14).bind fun r122 =>
  (r122).bind fun a123 =>
  (arI h a123 (Int64.toInt32 j3)).bind fun x124 =>
  (obO h a0 9).bind fun fs126 =>
  (fX11_comes z a0 0 (Int32.toInt64 x124) h).bind fun q125 =>
  some q125
  else
  (rdR h a0 [9] 14).bind fun r104 =>
  (r104).bind fun a105 =>
  (arI h a105 (Int64.toInt32 j3)).bind fun x106 =>
  (fX11_in z j5 0 (Int32.toInt64 (x106 - 1)) h).bind fun q107 =>
  (if q107.1 = 0 then
  (wrF q107.2 a0 [9] 29 (.inl 4)).bind fun h121 =>
  some h121
  else
  (if x2 = 8 then
  (rdR q107.2 a0 [9] 15).bind fun r116 =>
  (r116).bind fun a117 =>
  (arI q107.2 a117 ((20 * (Int64.toInt32 j3)) + (Int64.toInt32 j5))).bind fun x118 =>
  (obO q107.2 a0 9).bind fun fs120 =>
  (fX11_comes z a0 0 (Int32.toInt64 x118) q107.2).bind fun q119 =>
  some q119
  else
  (rdR q107.2 a0 [9] 15).bind fun r108 =>
  (rdR q107.2 a0 [9] 38).bind fun r109 =>
  (r109).bind fun a110 =>
  (arJ q107.2 a110 ((7 * x1) + 2)).bind fun j111 =>
  (r108).bind fun a112 =>
  (awI q107.2 a112 ((20 * (Int64.toInt32 j3)) + (Int64.toInt32 j5)) (Int64.toInt32 j111)).bind fun h113 =>
  (obO h113 a0 9).bind fun fs115 =>
  (fX11_comes z a0 3 0 h113).bind fun q114 =>
  some q114))))
set_option maxHeartbeats 4000000 in
set_option maxRecDepth 100000 in
theorem xX11_ofRow {l : Launch} {g : aG} {d : Nat} (hK : 1 ≤ d) {a0 : Nat} {x1 : Int32} {x2 : Int32} {j3 : Int64} {j5 : Int64} {h : aH} {q : aH} (hf : fX11_ofRow g.2.2 a0 x1 x2 j3 j5 h = some q) : Ev l g miX11_ofRow d [.inr (.inr (some a0)), .inl x1, .inl x2, .inr (.inl j3), .inr (.inl j5)] h (none, q) := by
  obtain ⟨d, rfl⟩ : ∃ e, d = e + 1 := ⟨d - 1, by omega⟩
  refine ⟨?_, rfl, Nat.le_of_ble_eq_true rfl⟩
  unfold fX11_ofRow at hf
  show Y l g miX11_ofRow (d + 1) 0 [some (.inr (.inr (some a0))), some (.inl x1), some (.inl x2), some (.inr (.inl j3)), none, some (.inr (.inl j5)), none] [] h _
  refine y_aload_n (i := 0) dX11_ofRow_0 rfl rfl ?_
  replace hf := bnd hf
  obtain ⟨r101, er101, hf⟩ := hf
  refine y_getR er101 fl11_81 dX11_ofRow_1 ?_
  refine y_bipush (v := 7) dX11_ofRow_4 (by decide) ?_
  refine y_iload_n (i := 1) dX11_ofRow_6 rfl rfl ?_
  refine y_imul dX11_ofRow_7 ?_
  replace hf := bnd hf
  obtain ⟨a102, rfl, hf⟩ := hf
  replace hf := bnd hf
  obtain ⟨x103, ex103, hf⟩ := hf
  refine y_iaload ex103 dX11_ofRow_8 ?_
  refine y_iconst (v := 3) dX11_ofRow_9 (by decide) ?_
  refine y_icmp_ne (tgt := 21) dX11_ofRow_10 (by decide) (fun hc => ?_) (fun hc => ?_)
  · rw [if_neg hc] at hf
    refine y_iload_n (i := 2) dX11_ofRow_21 rfl rfl ?_
    refine y_bipush (v := 10) dX11_ofRow_22 (by decide) ?_
    refine y_icmp_ne (tgt := 43) dX11_ofRow_24 (by decide) (fun hc => ?_) (fun hc => ?_)
    · rw [if_neg hc] at hf
      refine y_lload (i := 5) dX11_ofRow_43 rfl ?_
      refine y_lconst (v := 0) dX11_ofRow_45 (by decide) ?_
      refine y_aload_n (i := 0) dX11_ofRow_46 rfl rfl ?_
      replace hf := bnd hf
      obtain ⟨r104, er104, hf⟩ := hf
      refine y_getR er104 fl11_48 dX11_ofRow_47 ?_
      refine y_lload_n (i := 3) dX11_ofRow_50 rfl rfl ?_
      refine y_l2i dX11_ofRow_51 ?_
      replace hf := bnd hf
      obtain ⟨a105, rfl, hf⟩ := hf
      replace hf := bnd hf
      obtain ⟨x106, ex106, hf⟩ := hf
      refine y_iaload ex106 dX11_ofRow_52 ?_
      refine y_iconst (v := 1) dX11_ofRow_53 (by decide) ?_
      refine y_isub dX11_ofRow_54 ?_
      refine y_i2l dX11_ofRow_55 ?_
      replace hf := bnd hf
      obtain ⟨q107, eq107, hf⟩ := hf
      refine y_callS (mj := miX11_in) (args := [.inr (.inl j5), .inr (.inl 0), .inr (.inl (Int32.toInt64 (x106 - 1)))]) (st := []) dX11_ofRow_56 (gd_of 878 rfl rfl) (gd_of 879 rfl rfl) okX11_in (xX11_in (by omega) eq107) (Nat.le_of_ble_eq_true rfl) rfl ?_
      show Y l g miX11_ofRow (d + 1) 59 [some (.inr (.inr (some a0))), some (.inl x1), some (.inl x2), some (.inr (.inl j3)), none, some (.inr (.inl j5)), none] [.inl q107.1] q107.2 _
      refine y_if_ne (tgt := 70) dX11_ofRow_59 (by decide) (fun hc => ?_) (fun hc => ?_)
      · rw [if_neg hc] at hf
        refine y_iload_n (i := 2) dX11_ofRow_70 rfl rfl ?_
        refine y_bipush (v := 8) dX11_ofRow_71 (by decide) ?_
        refine y_icmp_ne (tgt := 99) dX11_ofRow_73 (by decide) (fun hc => ?_) (fun hc => ?_)
        · rw [if_neg hc] at hf
          refine y_aload_n (i := 0) dX11_ofRow_99 rfl rfl ?_
          replace hf := bnd hf
          obtain ⟨r108, er108, hf⟩ := hf
          refine y_getR er108 fl11_51 dX11_ofRow_100 ?_
          refine y_bipush (v := 20) dX11_ofRow_103 (by decide) ?_
          refine y_lload_n (i := 3) dX11_ofRow_105 rfl rfl ?_
          refine y_l2i dX11_ofRow_106 ?_
          refine y_imul dX11_ofRow_107 ?_
          refine y_lload (i := 5) dX11_ofRow_108 rfl ?_
          refine y_l2i dX11_ofRow_110 ?_
          refine y_iadd dX11_ofRow_111 ?_
          refine y_aload_n (i := 0) dX11_ofRow_112 rfl rfl ?_
          replace hf := bnd hf
          obtain ⟨r109, er109, hf⟩ := hf
          refine y_getR er109 fl11_84 dX11_ofRow_113 ?_
          refine y_bipush (v := 7) dX11_ofRow_116 (by decide) ?_
          refine y_iload_n (i := 1) dX11_ofRow_118 rfl rfl ?_
          refine y_imul dX11_ofRow_119 ?_
          refine y_iconst (v := 2) dX11_ofRow_120 (by decide) ?_
          refine y_iadd dX11_ofRow_121 ?_
          replace hf := bnd hf
          obtain ⟨a110, rfl, hf⟩ := hf
          replace hf := bnd hf
          obtain ⟨j111, ej111, hf⟩ := hf
          refine y_laload ej111 dX11_ofRow_122 ?_
          refine y_l2i dX11_ofRow_123 ?_
          replace hf := bnd hf
          obtain ⟨a112, rfl, hf⟩ := hf
          replace hf := bnd hf
          obtain ⟨h113, eh113, hf⟩ := hf
          refine y_iastore eh113 dX11_ofRow_124 ?_
          refine y_aload_n (i := 0) dX11_ofRow_125 rfl rfl ?_
          refine y_iconst (v := 3) dX11_ofRow_126 (by decide) ?_
          refine y_lconst (v := 0) dX11_ofRow_127 (by decide) ?_
          replace hf := bnd hf
          obtain ⟨fs115, efs115, hf⟩ := hf
          replace hf := bnd hf
          obtain ⟨q114, eq114, hf⟩ := hf
          refine y_callV (mj := miX11_comes) (args := [.inl 3, .inr (.inl 0)]) (st := []) dX11_ofRow_128 (gd_of 940 rfl rfl) (gd_of 942 rfl rfl) (gd_of 45 rfl rfl) okX11_comes (obO_spec efs115) rfl rfl (xX11_comes (by omega) eq114) (Nat.le_of_ble_eq_true rfl) rfl ?_
          show Y l g miX11_ofRow (d + 1) 131 [some (.inr (.inr (some a0))), some (.inl x1), some (.inl x2), some (.inr (.inl j3)), none, some (.inr (.inl j5)), none] [] q114 _
          obtain rfl := Option.some.inj hf
          exact y_ret (v := none) dX11_ofRow_131 rfl
        · rw [if_pos hc] at hf
          refine y_aload_n (i := 0) dX11_ofRow_76 rfl rfl ?_
          refine y_iconst (v := 0) dX11_ofRow_77 (by decide) ?_
          refine y_aload_n (i := 0) dX11_ofRow_78 rfl rfl ?_
          replace hf := bnd hf
          obtain ⟨r116, er116, hf⟩ := hf
          refine y_getR er116 fl11_51 dX11_ofRow_79 ?_
          refine y_bipush (v := 20) dX11_ofRow_82 (by decide) ?_
          refine y_lload_n (i := 3) dX11_ofRow_84 rfl rfl ?_
          refine y_l2i dX11_ofRow_85 ?_
          refine y_imul dX11_ofRow_86 ?_
          refine y_lload (i := 5) dX11_ofRow_87 rfl ?_
          refine y_l2i dX11_ofRow_89 ?_
          refine y_iadd dX11_ofRow_90 ?_
          replace hf := bnd hf
          obtain ⟨a117, rfl, hf⟩ := hf
          replace hf := bnd hf
          obtain ⟨x118, ex118, hf⟩ := hf
          refine y_iaload ex118 dX11_ofRow_91 ?_
          refine y_i2l dX11_ofRow_92 ?_
          replace hf := bnd hf
          obtain ⟨fs120, efs120, hf⟩ := hf
          replace hf := bnd hf
          obtain ⟨q119, eq119, hf⟩ := hf
          refine y_callV (mj := miX11_comes) (args := [.inl 0, .inr (.inl (Int32.toInt64 x118))]) (st := []) dX11_ofRow_93 (gd_of 940 rfl rfl) (gd_of 942 rfl rfl) (gd_of 45 rfl rfl) okX11_comes (obO_spec efs120) rfl rfl (xX11_comes (by omega) eq119) (Nat.le_of_ble_eq_true rfl) rfl ?_
          show Y l g miX11_ofRow (d + 1) 96 [some (.inr (.inr (some a0))), some (.inl x1), some (.inl x2), some (.inr (.inl j3)), none, some (.inr (.inl j5)), none] [] q119 _
          refine y_goto (tgt := 131) dX11_ofRow_96 (by decide) ?_
          obtain rfl := Option.some.inj hf
          exact y_ret (v := none) dX11_ofRow_131 rfl
      · rw [if_pos hc] at hf
        refine y_aload_n (i := 0) dX11_ofRow_62 rfl rfl ?_
        refine y_iconst (v := 4) dX11_ofRow_63 (by decide) ?_
        replace hf := bnd hf
        obtain ⟨h121, eh121, hf⟩ := hf
        refine y_put eh121 (pl11_173_m rfl) dX11_ofRow_64 ?_
        refine y_goto (tgt := 131) dX11_ofRow_67 (by decide) ?_
        obtain rfl := Option.some.inj hf
        exact y_ret (v := none) dX11_ofRow_131 rfl
    · rw [if_pos hc] at hf
      refine y_aload_n (i := 0) dX11_ofRow_27 rfl rfl ?_
      refine y_iconst (v := 0) dX11_ofRow_28 (by decide) ?_
      refine y_aload_n (i := 0) dX11_ofRow_29 rfl rfl ?_
      replace hf := bnd hf
      obtain ⟨r122, er122, hf⟩ := hf
      refine y_getR er122 fl11_48 dX11_ofRow_30 ?_
      refine y_lload_n (i := 3) dX11_ofRow_33 rfl rfl ?_
      refine y_l2i dX11_ofRow_34 ?_
      replace hf := bnd hf
      obtain ⟨a123, rfl, hf⟩ := hf
      replace hf := bnd hf
      obtain ⟨x124, ex124, hf⟩ := hf
      refine y_iaload ex124 dX11_ofRow_35 ?_
      refine y_i2l dX11_ofRow_36 ?_
      replace hf := bnd hf
      obtain ⟨fs126, efs126, hf⟩ := hf
      replace hf := bnd hf
      obtain ⟨q125, eq125, hf⟩ := hf
      refine y_callV (mj := miX11_comes) (args := [.inl 0, .inr (.inl (Int32.toInt64 x124))]) (st := []) dX11_ofRow_37 (gd_of 940 rfl rfl) (gd_of 942 rfl rfl) (gd_of 45 rfl rfl) okX11_comes (obO_spec efs126) rfl rfl (xX11_comes (by omega) eq125) (Nat.le_of_ble_eq_true rfl) rfl ?_
      show Y l g miX11_ofRow (d + 1) 40 [some (.inr (.inr (some a0))), some (.inl x1), some (.inl x2), some (.inr (.inl j3)), none, some (.inr (.inl j5)), none] [] q125 _
      refine y_goto (tgt := 131) dX11_ofRow_40 (by decide) ?_
      obtain rfl := Option.some.inj hf
      exact y_ret (v := none) dX11_ofRow_131 rfl
  · rw [if_pos hc] at hf
    refine y_aload_n (i := 0) dX11_ofRow_13 rfl rfl ?_
    refine y_iconst (v := 3) dX11_ofRow_14 (by decide) ?_
    replace hf := bnd hf
    obtain ⟨h127, eh127, hf⟩ := hf
    refine y_put eh127 (pl11_173_m rfl) dX11_ofRow_15 ?_
    refine y_goto (tgt := 131) dX11_ofRow_18 (by decide) ?_
    obtain rfl := Option.some.inj hf
    exact y_ret (v := none) dX11_ofRow_131 rfl
set_option maxRecDepth 100000 in
theorem dX11_plainly_0 : decode prog_13_method_36_code 0 = .ok (.aload_n 0, 1) := by decide +kernel
set_option maxRecDepth 100000 in
theorem dX11_plainly_1 : decode prog_13_method_36_code 1 = .ok (.getfield 84, 3) := by decide +kernel
set_option maxRecDepth 100000 in
theorem dX11_plainly_4 : decode prog_13_method_36_code 4 = .ok (.bipush 7, 2) := by decide +kernel
set_option maxRecDepth 100000 in
theorem dX11_plainly_6 : decode prog_13_method_36_code 6 = .ok (.iload_n 1, 1) := by decide +kernel
set_option maxRecDepth 100000 in
theorem dX11_plainly_7 : decode prog_13_method_36_code 7 = .ok (.imul, 1) := by decide +kernel
set_option maxRecDepth 100000 in
theorem dX11_plainly_8 : decode prog_13_method_36_code 8 = .ok (.laload, 1) := by decide +kernel
set_option maxRecDepth 100000 in
theorem dX11_plainly_9 : decode prog_13_method_36_code 9 = .ok (.lstore_n 3, 1) := by decide +kernel
set_option maxRecDepth 100000 in
theorem dX11_plainly_10 : decode prog_13_method_36_code 10 = .ok (.aload_n 0, 1) := by decide +kernel
set_option maxRecDepth 100000 in
theorem dX11_plainly_11 : decode prog_13_method_36_code 11 = .ok (.getfield 84, 3) := by decide +kernel
set_option maxRecDepth 100000 in
theorem dX11_plainly_14 : decode prog_13_method_36_code 14 = .ok (.bipush 7, 2) := by decide +kernel
set_option maxRecDepth 100000 in
theorem dX11_plainly_16 : decode prog_13_method_36_code 16 = .ok (.iload_n 1, 1) := by decide +kernel
set_option maxRecDepth 100000 in
theorem dX11_plainly_17 : decode prog_13_method_36_code 17 = .ok (.imul, 1) := by decide +kernel
set_option maxRecDepth 100000 in
theorem dX11_plainly_18 : decode prog_13_method_36_code 18 = .ok (.iconst 1, 1) := by decide +kernel
set_option maxRecDepth 100000 in
theorem dX11_plainly_19 : decode prog_13_method_36_code 19 = .ok (.iadd, 1) := by decide +kernel
set_option maxRecDepth 100000 in
theorem dX11_plainly_20 : decode prog_13_method_36_code 20 = .ok (.laload, 1) := by decide +kernel
set_option maxRecDepth 100000 in
theorem dX11_plainly_21 : decode prog_13_method_36_code 21 = .ok (.lstore 5, 2) := by decide +kernel
set_option maxRecDepth 100000 in
theorem dX11_plainly_23 : decode prog_13_method_36_code 23 = .ok (.aload_n 0, 1) := by decide +kernel
set_option maxRecDepth 100000 in
theorem dX11_plainly_24 : decode prog_13_method_36_code 24 = .ok (.getfield 35, 3) := by decide +kernel
set_option maxRecDepth 100000 in
theorem dX11_plainly_27 : decode prog_13_method_36_code 27 = .ok (.iload_n 2, 1) := by decide +kernel
set_option maxRecDepth 100000 in
theorem dX11_plainly_28 : decode prog_13_method_36_code 28 = .ok (.iaload, 1) := by decide +kernel
set_option maxRecDepth 100000 in
theorem dX11_plainly_29 : decode prog_13_method_36_code 29 = .ok (.istore 7, 2) := by decide +kernel
set_option maxRecDepth 100000 in
theorem dX11_plainly_31 : decode prog_13_method_36_code 31 = .ok (.aload_n 0, 1) := by decide +kernel
set_option maxRecDepth 100000 in
theorem dX11_plainly_32 : decode prog_13_method_36_code 32 = .ok (.getfield 38, 3) := by decide +kernel
set_option maxRecDepth 100000 in
theorem dX11_plainly_35 : decode prog_13_method_36_code 35 = .ok (.iload_n 2, 1) := by decide +kernel
set_option maxRecDepth 100000 in
theorem dX11_plainly_36 : decode prog_13_method_36_code 36 = .ok (.iaload, 1) := by decide +kernel
set_option maxRecDepth 100000 in
theorem dX11_plainly_37 : decode prog_13_method_36_code 37 = .ok (.istore 8, 2) := by decide +kernel
set_option maxRecDepth 100000 in
theorem dX11_plainly_39 : decode prog_13_method_36_code 39 = .ok (.aload_n 0, 1) := by decide +kernel
set_option maxRecDepth 100000 in
theorem dX11_plainly_40 : decode prog_13_method_36_code 40 = .ok (.iconst 0, 1) := by decide +kernel
set_option maxRecDepth 100000 in
theorem dX11_plainly_41 : decode prog_13_method_36_code 41 = .ok (.putfield 173, 3) := by decide +kernel
set_option maxRecDepth 100000 in
theorem dX11_plainly_44 : decode prog_13_method_36_code 44 = .ok (.aload_n 0, 1) := by decide +kernel
set_option maxRecDepth 100000 in
theorem dX11_plainly_45 : decode prog_13_method_36_code 45 = .ok (.getfield 13, 3) := by decide +kernel
set_option maxRecDepth 100000 in
theorem dX11_plainly_48 : decode prog_13_method_36_code 48 = .ok (.iload_n 2, 1) := by decide +kernel
set_option maxRecDepth 100000 in
theorem dX11_plainly_49 : decode prog_13_method_36_code 49 = .ok (.iaload, 1) := by decide +kernel
set_option maxRecDepth 100000 in
theorem dX11_plainly_50 : decode prog_13_method_36_code 50 = .ok (.tableswitch 340 0 13 #[70, 121, 138, 152, 166, 180, 209, 229, 340, 340, 340, 241, 305, 317], 70) := by decide +kernel
set_option maxRecDepth 100000 in
theorem dX11_plainly_120 : decode prog_13_method_36_code 120 = .ok (.aload_n 0, 1) := by decide +kernel
set_option maxRecDepth 100000 in
theorem dX11_plainly_121 : decode prog_13_method_36_code 121 = .ok (.iload 7, 2) := by decide +kernel
set_option maxRecDepth 100000 in
theorem dX11_plainly_123 : decode prog_13_method_36_code 123 = .ok (.iconst 1, 1) := by decide +kernel
set_option maxRecDepth 100000 in
theorem dX11_plainly_124 : decode prog_13_method_36_code 124 = .ok (.if_icmp .ne 7, 3) := by decide +kernel
set_option maxRecDepth 100000 in
theorem dX11_plainly_127 : decode prog_13_method_36_code 127 = .ok (.iconst 1, 1) := by decide +kernel
set_option maxRecDepth 100000 in
theorem dX11_plainly_128 : decode prog_13_method_36_code 128 = .ok (.goto 24, 3) := by decide +kernel
set_option maxRecDepth 100000 in
theorem dX11_plainly_131 : decode prog_13_method_36_code 131 = .ok (.iload 7, 2) := by decide +kernel
set_option maxRecDepth 100000 in
theorem dX11_plainly_133 : decode prog_13_method_36_code 133 = .ok (.iconst 3, 1) := by decide +kernel
set_option maxRecDepth 100000 in
theorem dX11_plainly_134 : decode prog_13_method_36_code 134 = .ok (.if_icmp .ne 7, 3) := by decide +kernel
set_option maxRecDepth 100000 in
theorem dX11_plainly_137 : decode prog_13_method_36_code 137 = .ok (.iconst 2, 1) := by decide +kernel
set_option maxRecDepth 100000 in
theorem dX11_plainly_138 : decode prog_13_method_36_code 138 = .ok (.goto 14, 3) := by decide +kernel
set_option maxRecDepth 100000 in
theorem dX11_plainly_141 : decode prog_13_method_36_code 141 = .ok (.iload 7, 2) := by decide +kernel
set_option maxRecDepth 100000 in
theorem dX11_plainly_143 : decode prog_13_method_36_code 143 = .ok (.iconst 4, 1) := by decide +kernel
set_option maxRecDepth 100000 in
theorem dX11_plainly_144 : decode prog_13_method_36_code 144 = .ok (.if_icmp .ne 7, 3) := by decide +kernel
set_option maxRecDepth 100000 in
theorem dX11_plainly_147 : decode prog_13_method_36_code 147 = .ok (.iconst 3, 1) := by decide +kernel
set_option maxRecDepth 100000 in
theorem dX11_plainly_148 : decode prog_13_method_36_code 148 = .ok (.goto 4, 3) := by decide +kernel
set_option maxRecDepth 100000 in
theorem dX11_plainly_151 : decode prog_13_method_36_code 151 = .ok (.iconst 0, 1) := by decide +kernel
set_option maxRecDepth 100000 in
theorem dX11_plainly_152 : decode prog_13_method_36_code 152 = .ok (.iload 7, 2) := by decide +kernel
set_option maxRecDepth 100000 in
theorem dX11_plainly_154 : decode prog_13_method_36_code 154 = .ok (.iconst 4, 1) := by decide +kernel
set_option maxRecDepth 100000 in
theorem dX11_plainly_155 : decode prog_13_method_36_code 155 = .ok (.if_icmp .ne 7, 3) := by decide +kernel
set_option maxRecDepth 100000 in
theorem dX11_plainly_158 : decode prog_13_method_36_code 158 = .ok (.lconst 0, 1) := by decide +kernel
set_option maxRecDepth 100000 in
theorem dX11_plainly_159 : decode prog_13_method_36_code 159 = .ok (.goto 6, 3) := by decide +kernel
set_option maxRecDepth 100000 in
theorem dX11_plainly_162 : decode prog_13_method_36_code 162 = .ok (.iload 8, 2) := by decide +kernel
set_option maxRecDepth 100000 in
theorem dX11_plainly_164 : decode prog_13_method_36_code 164 = .ok (.i2l, 1) := by decide +kernel
set_option maxRecDepth 100000 in
theorem dX11_plainly_165 : decode prog_13_method_36_code 165 = .ok (.invokevirtual 223, 3) := by decide +kernel
set_option maxRecDepth 100000 in
theorem dX11_plainly_168 : decode prog_13_method_36_code 168 = .ok (.goto 236, 3) := by decide +kernel
set_option maxRecDepth 100000 in
theorem dX11_plainly_171 : decode prog_13_method_36_code 171 = .ok (.aload_n 0, 1) := by decide +kernel
set_option maxRecDepth 100000 in
theorem dX11_plainly_172 : decode prog_13_method_36_code 172 = .ok (.aload_n 0, 1) := by decide +kernel
set_option maxRecDepth 100000 in
theorem dX11_plainly_173 : decode prog_13_method_36_code 173 = .ok (.getfield 81, 3) := by decide +kernel
set_option maxRecDepth 100000 in
theorem dX11_plainly_176 : decode prog_13_method_36_code 176 = .ok (.bipush 7, 2) := by decide +kernel
set_option maxRecDepth 100000 in
theorem dX11_plainly_178 : decode prog_13_method_36_code 178 = .ok (.iload_n 1, 1) := by decide +kernel
set_option maxRecDepth 100000 in
theorem dX11_plainly_179 : decode prog_13_method_36_code 179 = .ok (.imul, 1) := by decide +kernel
set_option maxRecDepth 100000 in
theorem dX11_plainly_180 : decode prog_13_method_36_code 180 = .ok (.iaload, 1) := by decide +kernel
set_option maxRecDepth 100000 in
theorem dX11_plainly_181 : decode prog_13_method_36_code 181 = .ok (.lload_n 3, 1) := by decide +kernel
set_option maxRecDepth 100000 in
theorem dX11_plainly_182 : decode prog_13_method_36_code 182 = .ok (.invokevirtual 223, 3) := by decide +kernel
set_option maxRecDepth 100000 in
theorem dX11_plainly_185 : decode prog_13_method_36_code 185 = .ok (.goto 219, 3) := by decide +kernel
set_option maxRecDepth 100000 in
theorem dX11_plainly_188 : decode prog_13_method_36_code 188 = .ok (.aload_n 0, 1) := by decide +kernel
set_option maxRecDepth 100000 in
theorem dX11_plainly_189 : decode prog_13_method_36_code 189 = .ok (.iconst 0, 1) := by decide +kernel
set_option maxRecDepth 100000 in
theorem dX11_plainly_190 : decode prog_13_method_36_code 190 = .ok (.lload_n 3, 1) := by decide +kernel
set_option maxRecDepth 100000 in
theorem dX11_plainly_191 : decode prog_13_method_36_code 191 = .ok (.lload 5, 2) := by decide +kernel
set_option maxRecDepth 100000 in
theorem dX11_plainly_193 : decode prog_13_method_36_code 193 = .ok (.ladd, 1) := by decide +kernel
set_option maxRecDepth 100000 in
theorem dX11_plainly_194 : decode prog_13_method_36_code 194 = .ok (.l2i, 1) := by decide +kernel
set_option maxRecDepth 100000 in
theorem dX11_plainly_195 : decode prog_13_method_36_code 195 = .ok (.i2l, 1) := by decide +kernel
set_option maxRecDepth 100000 in
theorem dX11_plainly_196 : decode prog_13_method_36_code 196 = .ok (.invokevirtual 223, 3) := by decide +kernel
set_option maxRecDepth 100000 in
theorem dX11_plainly_199 : decode prog_13_method_36_code 199 = .ok (.goto 205, 3) := by decide +kernel
set_option maxRecDepth 100000 in
theorem dX11_plainly_202 : decode prog_13_method_36_code 202 = .ok (.aload_n 0, 1) := by decide +kernel
set_option maxRecDepth 100000 in
theorem dX11_plainly_203 : decode prog_13_method_36_code 203 = .ok (.iconst 0, 1) := by decide +kernel
set_option maxRecDepth 100000 in
theorem dX11_plainly_204 : decode prog_13_method_36_code 204 = .ok (.lload_n 3, 1) := by decide +kernel
set_option maxRecDepth 100000 in
theorem dX11_plainly_205 : decode prog_13_method_36_code 205 = .ok (.lload 5, 2) := by decide +kernel
set_option maxRecDepth 100000 in
theorem dX11_plainly_207 : decode prog_13_method_36_code 207 = .ok (.lsub, 1) := by decide +kernel
set_option maxRecDepth 100000 in
theorem dX11_plainly_208 : decode prog_13_method_36_code 208 = .ok (.l2i, 1) := by decide +kernel
set_option maxRecDepth 100000 in
theorem dX11_plainly_209 : decode prog_13_method_36_code 209 = .ok (.i2l, 1) := by decide +kernel
set_option maxRecDepth 100000 in
theorem dX11_plainly_210 : decode prog_13_method_36_code 210 = .ok (.invokevirtual 223, 3) := by decide +kernel
set_option maxRecDepth 100000 in
theorem dX11_plainly_213 : decode prog_13_method_36_code 213 = .ok (.goto 191, 3) := by decide +kernel
set_option maxRecDepth 100000 in
theorem dX11_plainly_216 : decode prog_13_method_36_code 216 = .ok (.aload_n 0, 1) := by decide +kernel
set_option maxRecDepth 100000 in
theorem dX11_plainly_217 : decode prog_13_method_36_code 217 = .ok (.iconst 0, 1) := by decide +kernel
set_option maxRecDepth 100000 in
theorem dX11_plainly_218 : decode prog_13_method_36_code 218 = .ok (.lload_n 3, 1) := by decide +kernel
set_option maxRecDepth 100000 in
theorem dX11_plainly_219 : decode prog_13_method_36_code 219 = .ok (.lload 5, 2) := by decide +kernel
set_option maxRecDepth 100000 in
theorem dX11_plainly_221 : decode prog_13_method_36_code 221 = .ok (.lmul, 1) := by decide +kernel
set_option maxRecDepth 100000 in
theorem dX11_plainly_222 : decode prog_13_method_36_code 222 = .ok (.l2i, 1) := by decide +kernel
set_option maxRecDepth 100000 in
theorem dX11_plainly_223 : decode prog_13_method_36_code 223 = .ok (.i2l, 1) := by decide +kernel
set_option maxRecDepth 100000 in
theorem dX11_plainly_224 : decode prog_13_method_36_code 224 = .ok (.invokevirtual 223, 3) := by decide +kernel
set_option maxRecDepth 100000 in
theorem dX11_plainly_227 : decode prog_13_method_36_code 227 = .ok (.goto 177, 3) := by decide +kernel
set_option maxRecDepth 100000 in
theorem dX11_plainly_230 : decode prog_13_method_36_code 230 = .ok (.lload 5, 2) := by decide +kernel
set_option maxRecDepth 100000 in
theorem dX11_plainly_232 : decode prog_13_method_36_code 232 = .ok (.lconst 0, 1) := by decide +kernel
set_option maxRecDepth 100000 in
theorem dX11_plainly_233 : decode prog_13_method_36_code 233 = .ok (.lcmp, 1) := by decide +kernel
set_option maxRecDepth 100000 in
theorem dX11_plainly_234 : decode prog_13_method_36_code 234 = .ok (.ifCond .ne 11, 3) := by decide +kernel
set_option maxRecDepth 100000 in
theorem dX11_plainly_237 : decode prog_13_method_36_code 237 = .ok (.aload_n 0, 1) := by decide +kernel
set_option maxRecDepth 100000 in
theorem dX11_plainly_238 : decode prog_13_method_36_code 238 = .ok (.iconst 1, 1) := by decide +kernel
set_option maxRecDepth 100000 in
theorem dX11_plainly_239 : decode prog_13_method_36_code 239 = .ok (.putfield 173, 3) := by decide +kernel
set_option maxRecDepth 100000 in
theorem dX11_plainly_242 : decode prog_13_method_36_code 242 = .ok (.goto 162, 3) := by decide +kernel
set_option maxRecDepth 100000 in
theorem dX11_plainly_245 : decode prog_13_method_36_code 245 = .ok (.aload_n 0, 1) := by decide +kernel
set_option maxRecDepth 100000 in
theorem dX11_plainly_246 : decode prog_13_method_36_code 246 = .ok (.iconst 0, 1) := by decide +kernel
set_option maxRecDepth 100000 in
theorem dX11_plainly_247 : decode prog_13_method_36_code 247 = .ok (.lload_n 3, 1) := by decide +kernel
set_option maxRecDepth 100000 in
theorem dX11_plainly_248 : decode prog_13_method_36_code 248 = .ok (.lload 5, 2) := by decide +kernel
set_option maxRecDepth 100000 in
theorem dX11_plainly_250 : decode prog_13_method_36_code 250 = .ok (.ldiv, 1) := by decide +kernel
set_option maxRecDepth 100000 in
theorem dX11_plainly_251 : decode prog_13_method_36_code 251 = .ok (.l2i, 1) := by decide +kernel
set_option maxRecDepth 100000 in
theorem dX11_plainly_252 : decode prog_13_method_36_code 252 = .ok (.i2l, 1) := by decide +kernel
set_option maxRecDepth 100000 in
theorem dX11_plainly_253 : decode prog_13_method_36_code 253 = .ok (.invokevirtual 223, 3) := by decide +kernel
set_option maxRecDepth 100000 in
theorem dX11_plainly_256 : decode prog_13_method_36_code 256 = .ok (.goto 148, 3) := by decide +kernel
set_option maxRecDepth 100000 in
theorem dX11_plainly_259 : decode prog_13_method_36_code 259 = .ok (.aload_n 0, 1) := by decide +kernel
set_option maxRecDepth 100000 in
theorem dX11_plainly_260 : decode prog_13_method_36_code 260 = .ok (.iconst 0, 1) := by decide +kernel
set_option maxRecDepth 100000 in
theorem dX11_plainly_261 : decode prog_13_method_36_code 261 = .ok (.lload_n 3, 1) := by decide +kernel
set_option maxRecDepth 100000 in
theorem dX11_plainly_262 : decode prog_13_method_36_code 262 = .ok (.lload 5, 2) := by decide +kernel
set_option maxRecDepth 100000 in
theorem dX11_plainly_264 : decode prog_13_method_36_code 264 = .ok (.lcmp, 1) := by decide +kernel
set_option maxRecDepth 100000 in
theorem dX11_plainly_265 : decode prog_13_method_36_code 265 = .ok (.ifCond .ge 7, 3) := by decide +kernel
set_option maxRecDepth 100000 in
theorem dX11_plainly_268 : decode prog_13_method_36_code 268 = .ok (.lconst 1, 1) := by decide +kernel
set_option maxRecDepth 100000 in
theorem dX11_plainly_269 : decode prog_13_method_36_code 269 = .ok (.goto 4, 3) := by decide +kernel
set_option maxRecDepth 100000 in
theorem dX11_plainly_272 : decode prog_13_method_36_code 272 = .ok (.lconst 0, 1) := by decide +kernel
set_option maxRecDepth 100000 in
theorem dX11_plainly_273 : decode prog_13_method_36_code 273 = .ok (.invokevirtual 223, 3) := by decide +kernel
set_option maxRecDepth 100000 in
theorem dX11_plainly_276 : decode prog_13_method_36_code 276 = .ok (.goto 128, 3) := by decide +kernel
set_option maxRecDepth 100000 in
theorem dX11_plainly_279 : decode prog_13_method_36_code 279 = .ok (.aload_n 0, 1) := by decide +kernel
set_option maxRecDepth 100000 in
theorem dX11_plainly_280 : decode prog_13_method_36_code 280 = .ok (.iconst 1, 1) := by decide +kernel
set_option maxRecDepth 100000 in
theorem dX11_plainly_281 : decode prog_13_method_36_code 281 = .ok (.lload_n 3, 1) := by decide +kernel
set_option maxRecDepth 100000 in
theorem dX11_plainly_282 : decode prog_13_method_36_code 282 = .ok (.lload 5, 2) := by decide +kernel
set_option maxRecDepth 100000 in
theorem dX11_plainly_284 : decode prog_13_method_36_code 284 = .ok (.ladd, 1) := by decide +kernel
set_option maxRecDepth 100000 in
theorem dX11_plainly_285 : decode prog_13_method_36_code 285 = .ok (.invokevirtual 223, 3) := by decide +kernel
set_option maxRecDepth 100000 in
theorem dX11_plainly_288 : decode prog_13_method_36_code 288 = .ok (.goto 116, 3) := by decide +kernel
set_option maxRecDepth 100000 in
theorem dX11_plainly_291 : decode prog_13_method_36_code 291 = .ok (.aload_n 0, 1) := by decide +kernel
set_option maxRecDepth 100000 in
theorem dX11_plainly_292 : decode prog_13_method_36_code 292 = .ok (.lload_n 3, 1) := by decide +kernel
set_option maxRecDepth 100000 in
theorem dX11_plainly_293 : decode prog_13_method_36_code 293 = .ok (.lconst 0, 1) := by decide +kernel
set_option maxRecDepth 100000 in
theorem dX11_plainly_294 : decode prog_13_method_36_code 294 = .ok (.lcmp, 1) := by decide +kernel
set_option maxRecDepth 100000 in
theorem dX11_plainly_295 : decode prog_13_method_36_code 295 = .ok (.ifCond .ge 7, 3) := by decide +kernel
set_option maxRecDepth 100000 in
theorem dX11_plainly_298 : decode prog_13_method_36_code 298 = .ok (.iconst 5, 1) := by decide +kernel
set_option maxRecDepth 100000 in
theorem dX11_plainly_299 : decode prog_13_method_36_code 299 = .ok (.goto 31, 3) := by decide +kernel
set_option maxRecDepth 100000 in
theorem dX11_plainly_302 : decode prog_13_method_36_code 302 = .ok (.lload_n 3, 1) := by decide +kernel
set_option maxRecDepth 100000 in
theorem dX11_plainly_303 : decode prog_13_method_36_code 303 = .ok (.ldc2_w 214, 3) := by decide +kernel
set_option maxRecDepth 100000 in
theorem dX11_plainly_306 : decode prog_13_method_36_code 306 = .ok (.lcmp, 1) := by decide +kernel
set_option maxRecDepth 100000 in
theorem dX11_plainly_307 : decode prog_13_method_36_code 307 = .ok (.ifCond .le 8, 3) := by decide +kernel
set_option maxRecDepth 100000 in
theorem dX11_plainly_310 : decode prog_13_method_36_code 310 = .ok (.bipush 6, 2) := by decide +kernel
set_option maxRecDepth 100000 in
theorem dX11_plainly_312 : decode prog_13_method_36_code 312 = .ok (.goto 18, 3) := by decide +kernel
set_option maxRecDepth 100000 in
theorem dX11_plainly_315 : decode prog_13_method_36_code 315 = .ok (.aload_n 0, 1) := by decide +kernel
set_option maxRecDepth 100000 in
theorem dX11_plainly_316 : decode prog_13_method_36_code 316 = .ok (.getfield 115, 3) := by decide +kernel
set_option maxRecDepth 100000 in
theorem dX11_plainly_319 : decode prog_13_method_36_code 319 = .ok (.bipush 60, 2) := by decide +kernel
set_option maxRecDepth 100000 in
theorem dX11_plainly_321 : decode prog_13_method_36_code 321 = .ok (.if_icmp .ne 8, 3) := by decide +kernel
set_option maxRecDepth 100000 in
theorem dX11_plainly_324 : decode prog_13_method_36_code 324 = .ok (.bipush 10, 2) := by decide +kernel
set_option maxRecDepth 100000 in
theorem dX11_plainly_326 : decode prog_13_method_36_code 326 = .ok (.goto 4, 3) := by decide +kernel
set_option maxRecDepth 100000 in
theorem dX11_plainly_329 : decode prog_13_method_36_code 329 = .ok (.iconst 0, 1) := by decide +kernel
set_option maxRecDepth 100000 in
theorem dX11_plainly_330 : decode prog_13_method_36_code 330 = .ok (.putfield 173, 3) := by decide +kernel
set_option maxRecDepth 100000 in
theorem dX11_plainly_333 : decode prog_13_method_36_code 333 = .ok (.aload_n 0, 1) := by decide +kernel
set_option maxRecDepth 100000 in
theorem dX11_plainly_334 : decode prog_13_method_36_code 334 = .ok (.getfield 173, 3) := by decide +kernel
set_option maxRecDepth 100000 in
theorem dX11_plainly_337 : decode prog_13_method_36_code 337 = .ok (.ifCond .ne 67, 3) := by decide +kernel
set_option maxRecDepth 100000 in
theorem dX11_plainly_340 : decode prog_13_method_36_code 340 = .ok (.aload_n 0, 1) := by decide +kernel
set_option maxRecDepth 100000 in
theorem dX11_plainly_341 : decode prog_13_method_36_code 341 = .ok (.iconst 2, 1) := by decide +kernel
set_option maxRecDepth 100000 in
theorem dX11_plainly_342 : decode prog_13_method_36_code 342 = .ok (.aload_n 0, 1) := by decide +kernel
set_option maxRecDepth 100000 in
theorem dX11_plainly_343 : decode prog_13_method_36_code 343 = .ok (.lload_n 3, 1) := by decide +kernel
set_option maxRecDepth 100000 in
theorem dX11_plainly_344 : decode prog_13_method_36_code 344 = .ok (.l2i, 1) := by decide +kernel
set_option maxRecDepth 100000 in
theorem dX11_plainly_345 : decode prog_13_method_36_code 345 = .ok (.invokevirtual 216, 3) := by decide +kernel
set_option maxRecDepth 100000 in
theorem dX11_plainly_348 : decode prog_13_method_36_code 348 = .ok (.i2l, 1) := by decide +kernel
set_option maxRecDepth 100000 in
theorem dX11_plainly_349 : decode prog_13_method_36_code 349 = .ok (.invokevirtual 223, 3) := by decide +kernel
set_option maxRecDepth 100000 in
theorem dX11_plainly_352 : decode prog_13_method_36_code 352 = .ok (.goto 52, 3) := by decide +kernel
set_option maxRecDepth 100000 in
theorem dX11_plainly_355 : decode prog_13_method_36_code 355 = .ok (.aload_n 0, 1) := by decide +kernel
set_option maxRecDepth 100000 in
theorem dX11_plainly_356 : decode prog_13_method_36_code 356 = .ok (.bipush 100, 2) := by decide +kernel
set_option maxRecDepth 100000 in
theorem dX11_plainly_358 : decode prog_13_method_36_code 358 = .ok (.iload 8, 2) := by decide +kernel
set_option maxRecDepth 100000 in
theorem dX11_plainly_360 : decode prog_13_method_36_code 360 = .ok (.iadd, 1) := by decide +kernel
set_option maxRecDepth 100000 in
theorem dX11_plainly_361 : decode prog_13_method_36_code 361 = .ok (.putfield 173, 3) := by decide +kernel
set_option maxRecDepth 100000 in
theorem dX11_plainly_364 : decode prog_13_method_36_code 364 = .ok (.goto 40, 3) := by decide +kernel
set_option maxRecDepth 100000 in
theorem dX11_plainly_367 : decode prog_13_method_36_code 367 = .ok (.aload_n 0, 1) := by decide +kernel
set_option maxRecDepth 100000 in
theorem dX11_plainly_368 : decode prog_13_method_36_code 368 = .ok (.dup, 1) := by decide +kernel
set_option maxRecDepth 100000 in
theorem dX11_plainly_369 : decode prog_13_method_36_code 369 = .ok (.getfield 252, 3) := by decide +kernel
set_option maxRecDepth 100000 in
theorem dX11_plainly_372 : decode prog_13_method_36_code 372 = .ok (.iconst 1, 1) := by decide +kernel
set_option maxRecDepth 100000 in
theorem dX11_plainly_373 : decode prog_13_method_36_code 373 = .ok (.iadd, 1) := by decide +kernel
set_option maxRecDepth 100000 in
theorem dX11_plainly_374 : decode prog_13_method_36_code 374 = .ok (.putfield 252, 3) := by decide +kernel
set_option maxRecDepth 100000 in
theorem dX11_plainly_377 : decode prog_13_method_36_code 377 = .ok (.aload_n 0, 1) := by decide +kernel
set_option maxRecDepth 100000 in
theorem dX11_plainly_378 : decode prog_13_method_36_code 378 = .ok (.iconst 0, 1) := by decide +kernel
set_option maxRecDepth 100000 in
theorem dX11_plainly_379 : decode prog_13_method_36_code 379 = .ok (.aload_n 0, 1) := by decide +kernel
set_option maxRecDepth 100000 in
theorem dX11_plainly_380 : decode prog_13_method_36_code 380 = .ok (.getfield 252, 3) := by decide +kernel
set_option maxRecDepth 100000 in
theorem dX11_plainly_383 : decode prog_13_method_36_code 383 = .ok (.i2l, 1) := by decide +kernel
set_option maxRecDepth 100000 in
theorem dX11_plainly_384 : decode prog_13_method_36_code 384 = .ok (.invokevirtual 223, 3) := by decide +kernel
set_option maxRecDepth 100000 in
theorem dX11_plainly_387 : decode prog_13_method_36_code 387 = .ok (.goto 17, 3) := by decide +kernel
set_option maxRecDepth 100000 in
theorem dX11_plainly_390 : decode prog_13_method_36_code 390 = .ok (.aload_n 0, 1) := by decide +kernel
set_option maxRecDepth 100000 in
theorem dX11_plainly_391 : decode prog_13_method_36_code 391 = .ok (.iload_n 1, 1) := by decide +kernel
set_option maxRecDepth 100000 in
theorem dX11_plainly_392 : decode prog_13_method_36_code 392 = .ok (.aload_n 0, 1) := by decide +kernel
set_option maxRecDepth 100000 in
theorem dX11_plainly_393 : decode prog_13_method_36_code 393 = .ok (.getfield 13, 3) := by decide +kernel
set_option maxRecDepth 100000 in
theorem dX11_plainly_396 : decode prog_13_method_36_code 396 = .ok (.iload_n 2, 1) := by decide +kernel
set_option maxRecDepth 100000 in
theorem dX11_plainly_397 : decode prog_13_method_36_code 397 = .ok (.iaload, 1) := by decide +kernel
set_option maxRecDepth 100000 in
theorem dX11_plainly_398 : decode prog_13_method_36_code 398 = .ok (.lload_n 3, 1) := by decide +kernel
set_option maxRecDepth 100000 in
theorem dX11_plainly_399 : decode prog_13_method_36_code 399 = .ok (.lload 5, 2) := by decide +kernel
set_option maxRecDepth 100000 in
theorem dX11_plainly_401 : decode prog_13_method_36_code 401 = .ok (.invokevirtual 255, 3) := by decide +kernel
set_option maxRecDepth 100000 in
theorem dX11_plainly_404 : decode prog_13_method_36_code 404 = .ok (.aload_n 0, 1) := by decide +kernel
set_option maxRecDepth 100000 in
theorem dX11_plainly_405 : decode prog_13_method_36_code 405 = .ok (.invokevirtual 243, 3) := by decide +kernel
set_option maxRecDepth 100000 in
theorem dX11_plainly_408 : decode prog_13_method_36_code 408 = .ok (.return_, 1) := by decide +kernel
set_option maxRecDepth 100000 in
theorem okX11_ofRow : mOk miX11_ofRow 4 := ⟨(gd_of 1020 rfl rfl), (gd_of 76 rfl rfl), by decide +kernel, ⟨by decide +kernel, by decide +kernel, by decide +kernel⟩, by decide⟩
set_option maxRecDepth 100000 in
theorem fl11_252 : ∀ c ∈ ([9] : List Nat), FL "HandleModelsModel" 252 c 25 := fun c hc => by
  cases List.mem_singleton.mp hc
  exact ⟨_, "HandleModelsModel", rfl, by decide, (gd_of 753 rfl rfl), Or.inl rfl⟩
set_option maxRecDepth 100000 in
theorem pl11_252_m {mi : aM} {x : Int32} (ho : "HandleModelsModel" = mi.1.cls) : ∀ c ∈ ([9] : List Nat), FL mi.1.cls 252 c 25 ∧ FT c 25 (.inl x) ∧ FW mi c 25 := fun c h9 => by
  have h8 := fl11_252 c h9
  rw [← ho]
  refine ⟨h8, ?_⟩
  simp only [List.mem_cons, List.not_mem_nil, or_false] at h9
  rcases h9 with rfl
  · exact ⟨ft_int rfl (by decide +kernel), ⟨_, rfl, Or.inl rfl⟩⟩
def fX11_plainly_152 (z : Nat → Nat) (a0 : Nat) (x7 : Int32) (x8 : Int32) (sr0 : Option Nat) (sx1 : Int32) (h : aH) : Option aH :=
  (if x7 = 4 then
  (sr0).bind fun a107 =>
  (obO h a107 9).bind fun fs108 =>
  (fX11_comes z a107 sx1 0 h).bind fun q106 =>
  (obO q106 a0 9).bind fun fs110 =>
  (fX11_over z a0 q106).bind fun q109 =>
  some q109
  else
  (sr0).bind fun a102 =>
  (obO h a102 9).bind fun fs103 =>
  (fX11_comes z a102 sx1 (Int32.toInt64 x8) h).bind fun q101 =>
  (obO q101 a0 9).bind fun fs105 =>
  (fX11_over z a0 q101).bind fun q104 =>
  some q104)
set_option maxHeartbeats 4000000 in
set_option maxRecDepth 100000 in
theorem xX11_plainly_152 {l : Launch} {g : aG} {d : Nat} (hK : 2 ≤ d + 1) {a0 : Nat} {x7 : Int32} {x8 : Int32} {sr0 : Option Nat} {sx1 : Int32} {h : aH} {q : aH} (hf : fX11_plainly_152 g.2.2 a0 x7 x8 sr0 sx1 h = some q) : Y l g miX11_plainly (d + 1) 152 [some (.inr (.inr (some a0))), none, none, none, none, none, none, some (.inl x7), some (.inl x8)] [.inl sx1, .inr (.inr sr0)] h (none, q) := by
  unfold fX11_plainly_152 at hf
  refine y_iload (i := 7) dX11_plainly_152 rfl ?_
  refine y_iconst (v := 4) dX11_plainly_154 (by decide) ?_
  refine y_icmp_ne (tgt := 162) dX11_plainly_155 (by decide) (fun hc => ?_) (fun hc => ?_)
  · rw [if_neg hc] at hf
    refine y_iload (i := 8) dX11_plainly_162 rfl ?_
    refine y_i2l dX11_plainly_164 ?_
    replace hf := bnd hf
    obtain ⟨a102, rfl, hf⟩ := hf
    replace hf := bnd hf
    obtain ⟨fs103, efs103, hf⟩ := hf
    replace hf := bnd hf
    obtain ⟨q101, eq101, hf⟩ := hf
    refine y_callV (mj := miX11_comes) (args := [.inl sx1, .inr (.inl (Int32.toInt64 x8))]) (st := []) dX11_plainly_165 (gd_of 940 rfl rfl) (gd_of 942 rfl rfl) (gd_of 45 rfl rfl) okX11_comes (obO_spec efs103) rfl rfl (xX11_comes (by omega) eq101) (Nat.le_of_ble_eq_true rfl) rfl ?_
    show Y l g miX11_plainly (d + 1) 168 [some (.inr (.inr (some a0))), none, none, none, none, none, none, some (.inl x7), some (.inl x8)] [] q101 _
    refine y_goto (tgt := 404) dX11_plainly_168 (by decide) ?_
    refine y_aload_n (i := 0) dX11_plainly_404 rfl rfl ?_
    replace hf := bnd hf
    obtain ⟨fs105, efs105, hf⟩ := hf
    replace hf := bnd hf
    obtain ⟨q104, eq104, hf⟩ := hf
    refine y_callV (mj := miX11_over) (args := []) (st := []) dX11_plainly_405 (gd_of 1021 rfl rfl) (gd_of 1023 rfl rfl) (gd_of 59 rfl rfl) okX11_over (obO_spec efs105) rfl rfl (xX11_over (by omega) eq104) (Nat.le_of_ble_eq_true rfl) rfl ?_
    show Y l g miX11_plainly (d + 1) 408 [some (.inr (.inr (some a0))), none, none, none, none, none, none, some (.inl x7), some (.inl x8)] [] q104 _
    obtain rfl := Option.some.inj hf
    exact y_ret (v := none) dX11_plainly_408 rfl
  · rw [if_pos hc] at hf
    refine y_lconst (v := 0) dX11_plainly_158 (by decide) ?_
    refine y_goto (tgt := 165) dX11_plainly_159 (by decide) ?_
    replace hf := bnd hf
    obtain ⟨a107, rfl, hf⟩ := hf
    replace hf := bnd hf
    obtain ⟨fs108, efs108, hf⟩ := hf
    replace hf := bnd hf
    obtain ⟨q106, eq106, hf⟩ := hf
    refine y_callV (mj := miX11_comes) (args := [.inl sx1, .inr (.inl 0)]) (st := []) dX11_plainly_165 (gd_of 940 rfl rfl) (gd_of 942 rfl rfl) (gd_of 45 rfl rfl) okX11_comes (obO_spec efs108) rfl rfl (xX11_comes (by omega) eq106) (Nat.le_of_ble_eq_true rfl) rfl ?_
    show Y l g miX11_plainly (d + 1) 168 [some (.inr (.inr (some a0))), none, none, none, none, none, none, some (.inl x7), some (.inl x8)] [] q106 _
    refine y_goto (tgt := 404) dX11_plainly_168 (by decide) ?_
    refine y_aload_n (i := 0) dX11_plainly_404 rfl rfl ?_
    replace hf := bnd hf
    obtain ⟨fs110, efs110, hf⟩ := hf
    replace hf := bnd hf
    obtain ⟨q109, eq109, hf⟩ := hf
    refine y_callV (mj := miX11_over) (args := []) (st := []) dX11_plainly_405 (gd_of 1021 rfl rfl) (gd_of 1023 rfl rfl) (gd_of 59 rfl rfl) okX11_over (obO_spec efs110) rfl rfl (xX11_over (by omega) eq109) (Nat.le_of_ble_eq_true rfl) rfl ?_
    show Y l g miX11_plainly (d + 1) 408 [some (.inr (.inr (some a0))), none, none, none, none, none, none, some (.inl x7), some (.inl x8)] [] q109 _
    obtain rfl := Option.some.inj hf
    exact y_ret (v := none) dX11_plainly_408 rfl
def fX11_plainly_390 (z : Nat → Nat) (a0 : Nat) (x1 : Int32) (x2 : Int32) (j3 : Int64) (j5 : Int64) (h : aH) : Option aH :=
  (rdR h a0 [9] 2).bind fun r101 =>
  (r101).bind fun a102 =>
  (arI h a102 x2).bind fun x103 =>
  (obO h a0 9).bind fun fs105 =>
  (fX11_ofRow z a0 x1 x103 j3 j5 h).bind fun q104 =>
  (obO q104 a0 9).bind fun fs107 =>
  (fX11_over z a0 q104).bind fun q106 =>
  some q106
set_option maxHeartbeats 4000000 in
set_option maxRecDepth 100000 in
theorem xX11_plainly_390 {l : Launch} {g : aG} {d : Nat} (hK : 2 ≤ d + 1) {a0 : Nat} {x1 : Int32} {x2 : Int32} {j3 : Int64} {j5 : Int64} {h : aH} {q : aH} (hf : fX11_plainly_390 g.2.2 a0 x1 x2 j3 j5 h = some q) : Y l g miX11_plainly (d + 1) 390 [some (.inr (.inr (some a0))), some (.inl x1), some (.inl x2), some (.inr (.inl j3)), none, some (.inr (.inl j5)), none, none, none] [] h (none, q) := by
  unfold fX11_plainly_390 at hf
  refine y_aload_n (i := 0) dX11_plainly_390 rfl rfl ?_
  refine y_iload_n (i := 1) dX11_plainly_391 rfl rfl ?_
  refine y_aload_n (i := 0) dX11_plainly_392 rfl rfl ?_
  replace hf := bnd hf
  obtain ⟨r101, er101, hf⟩ := hf
  refine y_getR er101 fl11_13 dX11_plainly_393 ?_
  refine y_iload_n (i := 2) dX11_plainly_396 rfl rfl ?_
  replace hf := bnd hf
  obtain ⟨a102, rfl, hf⟩ := hf
  replace hf := bnd hf
  obtain ⟨x103, ex103, hf⟩ := hf
  refine y_iaload ex103 dX11_plainly_397 ?_
  refine y_lload_n (i := 3) dX11_plainly_398 rfl rfl ?_
  refine y_lload (i := 5) dX11_plainly_399 rfl ?_
  replace hf := bnd hf
  obtain ⟨fs105, efs105, hf⟩ := hf
  replace hf := bnd hf
  obtain ⟨q104, eq104, hf⟩ := hf
  refine y_callV (mj := miX11_ofRow) (args := [.inl x1, .inl x103, .inr (.inl j3), .inr (.inl j5)]) (st := []) dX11_plainly_401 (gd_of 1017 rfl rfl) (gd_of 1019 rfl rfl) (gd_of 58 rfl rfl) okX11_ofRow (obO_spec efs105) rfl rfl (xX11_ofRow (by omega) eq104) (Nat.le_of_ble_eq_true rfl) rfl ?_
  show Y l g miX11_plainly (d + 1) 404 [some (.inr (.inr (some a0))), some (.inl x1), some (.inl x2), some (.inr (.inl j3)), none, some (.inr (.inl j5)), none, none, none] [] q104 _
  refine y_aload_n (i := 0) dX11_plainly_404 rfl rfl ?_
  replace hf := bnd hf
  obtain ⟨fs107, efs107, hf⟩ := hf
  replace hf := bnd hf
  obtain ⟨q106, eq106, hf⟩ := hf
  refine y_callV (mj := miX11_over) (args := []) (st := []) dX11_plainly_405 (gd_of 1021 rfl rfl) (gd_of 1023 rfl rfl) (gd_of 59 rfl rfl) okX11_over (obO_spec efs107) rfl rfl (xX11_over (by omega) eq106) (Nat.le_of_ble_eq_true rfl) rfl ?_
  show Y l g miX11_plainly (d + 1) 408 [some (.inr (.inr (some a0))), some (.inl x1), some (.inl x2), some (.inr (.inl j3)), none, some (.inr (.inl j5)), none, none, none] [] q106 _
  obtain rfl := Option.some.inj hf
  exact y_ret (v := none) dX11_plainly_408 rfl
def fX11_plainly_330 (z : Nat → Nat) (a0 : Nat) (j3 : Int64) (sr0 : Option Nat) (sx1 : Int32) (h : aH) : Option aH :=
  (sr0).bind fun a101 =>
  (wrF h a101 [9] 29 (.inl sx1)).bind fun h102 =>
  (rdI h102 a0 [9] 29).bind fun x103 =>
  (if x103 = 0 then
  (obO h102 a0 9).bind fun fs107 =>
  (fX11_newRow z a0 (Int64.toInt32 j3) h102).bind fun q106 =>
  (obO q106.2 a0 9).bind fun fs109 =>
  (fX11_comes z a0 2 (Int32.toInt64 q106.1) q106.2).bind fun q108 =>
  (obO q108 a0 9).bind fun fs111 =>
  (fX11_over z a0 q108).bind fun q110 =>
  some q110
  else
  (obO h102 a0 9).bind fun fs105 =>
  (fX11_over z a0 h102).bind fun q104 =>
  some q104)
set_option maxHeartbeats 4000000 in
set_option maxRecDepth 100000 in
theorem xX11_plainly_330 {l : Launch} {g : aG} {d : Nat} (hK : 2 ≤ d + 1) {a0 : Nat} {j3 : Int64} {sr0 : Option Nat} {sx1 : Int32} {h : aH} {q : aH} (hf : fX11_plainly_330 g.2.2 a0 j3 sr0 sx1 h = some q) : Y l g miX11_plainly (d + 1) 330 [some (.inr (.inr (some a0))), none, none, some (.inr (.inl j3)), none, none, none, none, none] [.inl sx1, .inr (.inr sr0)] h (none, q) := by
  unfold fX11_plainly_330 at hf
  replace hf := bnd hf
  obtain ⟨a101, rfl, hf⟩ := hf
  replace hf := bnd hf
  obtain ⟨h102, eh102, hf⟩ := hf
  refine y_put eh102 (pl11_173_m rfl) dX11_plainly_330 ?_
  refine y_aload_n (i := 0) dX11_plainly_333 rfl rfl ?_
  replace hf := bnd hf
  obtain ⟨x103, ex103, hf⟩ := hf
  refine y_getI ex103 fl11_173 dX11_plainly_334 ?_
  refine y_if_ne (tgt := 404) dX11_plainly_337 (by decide) (fun hc => ?_) (fun hc => ?_)
  · rw [if_neg hc] at hf
    refine y_aload_n (i := 0) dX11_plainly_404 rfl rfl ?_
    replace hf := bnd hf
    obtain ⟨fs105, efs105, hf⟩ := hf
    replace hf := bnd hf
    obtain ⟨q104, eq104, hf⟩ := hf
    refine y_callV (mj := miX11_over) (args := []) (st := []) dX11_plainly_405 (gd_of 1021 rfl rfl) (gd_of 1023 rfl rfl) (gd_of 59 rfl rfl) okX11_over (obO_spec efs105) rfl rfl (xX11_over (by omega) eq104) (Nat.le_of_ble_eq_true rfl) rfl ?_
    show Y l g miX11_plainly (d + 1) 408 [some (.inr (.inr (some a0))), none, none, some (.inr (.inl j3)), none, none, none, none, none] [] q104 _
    obtain rfl := Option.some.inj hf
    exact y_ret (v := none) dX11_plainly_408 rfl
  · rw [if_pos hc] at hf
    refine y_aload_n (i := 0) dX11_plainly_340 rfl rfl ?_
    refine y_iconst (v := 2) dX11_plainly_341 (by decide) ?_
    refine y_aload_n (i := 0) dX11_plainly_342 rfl rfl ?_
    refine y_lload_n (i := 3) dX11_plainly_343 rfl rfl ?_
    refine y_l2i dX11_plainly_344 ?_
    replace hf := bnd hf
    obtain ⟨fs107, efs107, hf⟩ := hf
    replace hf := bnd hf
    obtain ⟨q106, eq106, hf⟩ := hf
    refine y_callV (mj := miX11_newRow) (args := [.inl (Int64.toInt32 j3)]) (st := [.inl 2, .inr (.inr (some a0))]) dX11_plainly_345 (gd_of 961 rfl rfl) (gd_of 963 rfl rfl) (gd_of 49 rfl rfl) okX11_newRow (obO_spec efs107) rfl rfl (xX11_newRow (by omega) eq106) (Nat.le_of_ble_eq_true rfl) rfl ?_
    show Y l g miX11_plainly (d + 1) 348 [some (.inr (.inr (some a0))), none, none, some (.inr (.inl j3)), none, none, none, none, none] [.inl q106.1, .inl 2, .inr (.inr (some a0))] q106.2 _
    refine y_i2l dX11_plainly_348 ?_
    replace hf := bnd hf
    obtain ⟨fs109, efs109, hf⟩ := hf
    replace hf := bnd hf
    obtain ⟨q108, eq108, hf⟩ := hf
    refine y_callV (mj := miX11_comes) (args := [.inl 2, .inr (.inl (Int32.toInt64 q106.1))]) (st := []) dX11_plainly_349 (gd_of 940 rfl rfl) (gd_of 942 rfl rfl) (gd_of 45 rfl rfl) okX11_comes (obO_spec efs109) rfl rfl (xX11_comes (by omega) eq108) (Nat.le_of_ble_eq_true rfl) rfl ?_
    show Y l g miX11_plainly (d + 1) 352 [some (.inr (.inr (some a0))), none, none, some (.inr (.inl j3)), none, none, none, none, none] [] q108 _
    refine y_goto (tgt := 404) dX11_plainly_352 (by decide) ?_
    refine y_aload_n (i := 0) dX11_plainly_404 rfl rfl ?_
    replace hf := bnd hf
    obtain ⟨fs111, efs111, hf⟩ := hf
    replace hf := bnd hf
    obtain ⟨q110, eq110, hf⟩ := hf
    refine y_callV (mj := miX11_over) (args := []) (st := []) dX11_plainly_405 (gd_of 1021 rfl rfl) (gd_of 1023 rfl rfl) (gd_of 59 rfl rfl) okX11_over (obO_spec efs111) rfl rfl (xX11_over (by omega) eq110) (Nat.le_of_ble_eq_true rfl) rfl ?_
    show Y l g miX11_plainly (d + 1) 408 [some (.inr (.inr (some a0))), none, none, some (.inr (.inl j3)), none, none, none, none, none] [] q110 _
    obtain rfl := Option.some.inj hf
    exact y_ret (v := none) dX11_plainly_408 rfl
def fX11_plainly (z : Nat → Nat) (a0 : Nat) (x1 : Int32) (x2 : Int32) (h : aH) : Option aH :=
  (rdR h a0 [9] 38).bind fun r101 =>
  (r101).bind fun a102 =>
  (arJ h a102 (7 * x1)).bind fun j103 =>
  (rdR h a0 [9] 38).bind fun r104 =>
  (r104).bind fun a105 =>
  (arJ h a105 ((7 * x1) + 1)).bind fun j106 =>
  (rdR h a0 [9] 9).bind fun r107 =>
  (r107).bind fun a108 =>
  (arI h a108 x2).bind fun x109 =>
  (rdR h a0 [9] 10).bind fun r110 =>
  (r110).bind fun a111 =>
  (arI h a111 x2).bind fun x112 =>
  (wrF h a0 [9] 29 (.inl 0)).bind fun h113 =>
  (rdR h113 a0 [9] 2).bind fun r114 =>
  (r114).bind fun a115 =>
  (arI h113 a115 x2).bind fun x116 =>
  (if x116 = 0 then
  (if x109 = 1 then
  fX11_plainly_152 z a0 x109 x112 (some a0) 1 h113
  else
  (if x109 = 3 then
  fX11_plainly_152 z a0 x109 x112 (some a0) 2 h113
  else
  (if x109 = 4 then
  fX11_plainly_152 z a0 x109 x112 (some a0) 3 h113
  else
  fX11_plainly_152 z a0 x109 x112 (some a0) 0 h113)))
  else
  (if x116 = 1 then
  (rdR h113 a0 [9] 37).bind fun r117 =>
  (r117).bind fun a118 =>
  (arI h113 a118 (7 * x1)).bind fun x119 =>
  (obO h113 a0 9).bind fun fs121 =>
  (fX11_comes z a0 x119 j103 h113).bind fun q120 =>
  (obO q120 a0 9).bind fun fs123 =>
  (fX11_over z a0 q120).bind fun q122 =>
  some q122
  else
  (if x116 = 2 then
  (obO h113 a0 9).bind fun fs125 =>
  (fX11_comes z a0 0 (Int32.toInt64 (Int64.toInt32 (j103 + j106))) h113).bind fun q124 =>
  (obO q124 a0 9).bind fun fs127 =>
  (fX11_over z a0 q124).bind fun q126 =>
  some q126
  else
  (if x116 = 3 then
  (obO h113 a0 9).bind fun fs129 =>
  (fX11_comes z a0 0 (Int32.toInt64 (Int64.toInt32 (j103 - j106))) h113).bind fun q128 =>
  (obO q128 a0 9).bind fun fs131 =>
  (fX11_over z a0 q128).bind fun q130 =>
  some q130
  else
  (if x116 = 4 then
  (obO h113 a0 9).bind fun fs133 =>
  (fX11_comes z a0 0 (Int32.toInt64 (Int64.toInt32 (j103 * j106))) h113).bind fun q132 =>
  (obO q132 a0 9).bind fun fs135 =>
  (fX11_over z a0 q132).bind fun q134 =>
  some q134
  else
  (if x116 = 5 then
  (if (lg_cmp j106 0) = 0 then
  (wrF h113 a0 [9] 29 (.inl 1)).bind fun h141 =>
  (obO h141 a0 9).bind fun fs143 =>
  (fX11_over z a0 h141).bind fun q142 =>
  some q142
  else
  if j106 = 0 then none else
  (obO h113 a0 9).bind fun fs138 =>
  (fX11_comes z a0 0 (Int32.toInt64 (Int64.toInt32 (j103 / j106))) h113).bind fun q137 =>
  (obO q137 a0 9).bind fun fs140 =>
  (fX11_over z a0 q137).bind fun q139 =>
  some q139)
  else
  (if x116 = 6 then
  (if 0 ≤ (lg_cmp j103 j106) then
  (obO h113 a0 9).bind fun fs145 =>
  (fX11_comes z a0 0 0 h113).bind fun q144 =>
  (obO q144 a0 9).bind fun fs147 =>
  (fX11_over z a0 q144).bind fun q146 =>
  some q146
  else
  (obO h113 a0 9).bind fun fs149 =>
  (fX11_comes z a0 0 1 h113).bind fun q148 =>
  (obO q148 a0 9).bind fun fs151 =>
  (fX11_over z a0 q148).bind fun q150 =>
  some q150)
  else
  (if x116 = 7 then
  (obO h113 a0 9).bind fun fs153 =>
  (fX11_comes z a0 1 (j103 + j106) h113).bind fun q152 =>
  (obO q152 a0 9).bind fun fs155 =>
  (fX11_over z a0 q152).bind fun q154 =>
  some q154
  else
  (if x116 = 8 then
  fX11_plainly_390 z a0 x1 x2 j103 j106 h113
  else
  (if x116 = 9 then
  fX11_plainly_390 z a0 x1 x2 j103 j106 h113
  else
  (if x116 = 10 then
  fX11_plainly_390 z a0 x1 x2 j103 j106 h113
  else
  (if x116 = 11 then
  (if 0 ≤ (lg_cmp j103 0) then
  (if (lg_cmp j103 20) ≤ 0 then
  (rdI h113 a0 [9] 13).bind fun x156 =>
  (if x156 = 60 then
  fX11_plainly_330 z a0 j103 (some a0) 10 h113
  else
  fX11_plainly_330 z a0 j103 (some a0) 0 h113)
  else
  fX11_plainly_330 z a0 j103 (some a0) 6 h113)
  else
  fX11_plainly_330 z a0 j103 (some a0) 5 h113)
  else
  (if x116 = 12 then
  (wrF h113 a0 [9] 29 (.inl (100 + x112))).bind fun h157 =>
  (obO h157 a0 9).bind fun fs159 =>
  (fX11_over z a0 h157).bind fun q158 =>
  some q158
  else
  (if x116 = 13 then
  (rdI h113 a0 [9] 25).bind fun x160 =>
  (wrF h113 a0 [9] 25 (.inl (x160 + 1))).bind fun h161 =>
  (rdI h161 a0 [9] 25).bind fun x162 =>
  (obO h161 a0 9).bind fun fs164 =>
  (fX11_comes z a0 0 (Int32.toInt64 x162) h161).bind fun q163 =>
  (obO q163 a0 9).bind fun fs166 =>
  (fX11_over z a0 q163).bind fun q165 =>
  some q165
  else
  fX11_plainly_390 z a0 x1 x2 j103 j106 h113))))))))))))))
set_option maxHeartbeats 4000000 in
set_option maxRecDepth 100000 in
theorem xX11_plainly {l : Launch} {g : aG} {d : Nat} (hK : 2 ≤ d) {a0 : Nat} {x1 : Int32} {x2 : Int32} {h : aH} {q : aH} (hf : fX11_plainly g.2.2 a0 x1 x2 h = some q) : Ev l g miX11_plainly d [.inr (.inr (some a0)), .inl x1, .inl x2] h (none, q) := by
  obtain ⟨d, rfl⟩ : ∃ e, d = e + 1 := ⟨d - 1, by omega⟩
  refine ⟨?_, rfl, Nat.le_of_ble_eq_true rfl⟩
  unfold fX11_plainly at hf
  show Y l g miX11_plainly (d + 1) 0 [some (.inr (.inr (some a0))), some (.inl x1), some (.inl x2), none, none, none, none, none, none] [] h _
  refine y_aload_n (i := 0) dX11_plainly_0 rfl rfl ?_
  replace hf := bnd hf
  obtain ⟨r101, er101, hf⟩ := hf
  refine y_getR er101 fl11_84 dX11_plainly_1 ?_
  refine y_bipush (v := 7) dX11_plainly_4 (by decide) ?_
  refine y_iload_n (i := 1) dX11_plainly_6 rfl rfl ?_
  refine y_imul dX11_plainly_7 ?_
  replace hf := bnd hf
  obtain ⟨a102, rfl, hf⟩ := hf
  replace hf := bnd hf
  obtain ⟨j103, ej103, hf⟩ := hf
  refine y_laload ej103 dX11_plainly_8 ?_
  refine y_lstore_n (i := 3) (lv2 := [some (.inr (.inr (some a0))), some (.inl x1), some (.inl x2), some (.inr (.inl j103)), none, none, none, none, none]) dX11_plainly_9 rfl (by decide) rfl ?_
  refine y_aload_n (i := 0) dX11_plainly_10 rfl rfl ?_
  replace hf := bnd hf
  obtain ⟨r104, er104, hf⟩ := hf
  refine y_getR er104 fl11_84 dX11_plainly_11 ?_
  refine y_bipush (v := 7) dX11_plainly_14 (by decide) ?_
  refine y_iload_n (i := 1) dX11_plainly_16 rfl rfl ?_
  refine y_imul dX11_plainly_17 ?_
  refine y_iconst (v := 1) dX11_plainly_18 (by decide) ?_
  refine y_iadd dX11_plainly_19 ?_
  replace hf := bnd hf
  obtain ⟨a105, rfl, hf⟩ := hf
  replace hf := bnd hf
  obtain ⟨j106, ej106, hf⟩ := hf
  refine y_laload ej106 dX11_plainly_20 ?_
  refine y_lstore (i := 5) (lv2 := [some (.inr (.inr (some a0))), some (.inl x1), some (.inl x2), some (.inr (.inl j103)), none, some (.inr (.inl j106)), none, none, none]) dX11_plainly_21 (by decide) rfl ?_
  refine y_aload_n (i := 0) dX11_plainly_23 rfl rfl ?_
  replace hf := bnd hf
  obtain ⟨r107, er107, hf⟩ := hf
  refine y_getR er107 fl11_35 dX11_plainly_24 ?_
  refine y_iload_n (i := 2) dX11_plainly_27 rfl rfl ?_
  replace hf := bnd hf
  obtain ⟨a108, rfl, hf⟩ := hf
  replace hf := bnd hf
  obtain ⟨x109, ex109, hf⟩ := hf
  refine y_iaload ex109 dX11_plainly_28 ?_
  refine y_istore (i := 7) (lv2 := [some (.inr (.inr (some a0))), some (.inl x1), some (.inl x2), some (.inr (.inl j103)), none, some (.inr (.inl j106)), none, some (.inl x109), none]) dX11_plainly_29 (by decide) rfl ?_
  refine y_aload_n (i := 0) dX11_plainly_31 rfl rfl ?_
  replace hf := bnd hf
  obtain ⟨r110, er110, hf⟩ := hf
  refine y_getR er110 fl11_38 dX11_plainly_32 ?_
  refine y_iload_n (i := 2) dX11_plainly_35 rfl rfl ?_
  replace hf := bnd hf
  obtain ⟨a111, rfl, hf⟩ := hf
  replace hf := bnd hf
  obtain ⟨x112, ex112, hf⟩ := hf
  refine y_iaload ex112 dX11_plainly_36 ?_
  refine y_istore (i := 8) (lv2 := [some (.inr (.inr (some a0))), some (.inl x1), some (.inl x2), some (.inr (.inl j103)), none, some (.inr (.inl j106)), none, some (.inl x109), some (.inl x112)]) dX11_plainly_37 (by decide) rfl ?_
  refine y_aload_n (i := 0) dX11_plainly_39 rfl rfl ?_
  refine y_iconst (v := 0) dX11_plainly_40 (by decide) ?_
  replace hf := bnd hf
  obtain ⟨h113, eh113, hf⟩ := hf
  refine y_put eh113 (pl11_173_m rfl) dX11_plainly_41 ?_
  refine y_aload_n (i := 0) dX11_plainly_44 rfl rfl ?_
  replace hf := bnd hf
  obtain ⟨r114, er114, hf⟩ := hf
  refine y_getR er114 fl11_13 dX11_plainly_45 ?_
  refine y_iload_n (i := 2) dX11_plainly_48 rfl rfl ?_
  replace hf := bnd hf
  obtain ⟨a115, rfl, hf⟩ := hf
  replace hf := bnd hf
  obtain ⟨x116, ex116, hf⟩ := hf
  refine y_iaload ex116 dX11_plainly_49 ?_
  refine y_table dX11_plainly_50 [(0, 120), (1, 171), (2, 188), (3, 202), (4, 216), (5, 230), (6, 259), (7, 279), (8, 390), (9, 390), (10, 390), (11, 291), (12, 355), (13, 367)] 390 (by decide) (by decide) (by decide) (by decide) ?_
  refine y_swc (fun hc => ?_) (fun hc => ?_)
  · rw [if_pos hc] at hf
    refine y_aload_n (i := 0) dX11_plainly_120 rfl rfl ?_
    refine y_iload (i := 7) dX11_plainly_121 rfl ?_
    refine y_iconst (v := 1) dX11_plainly_123 (by decide) ?_
    refine y_icmp_ne (tgt := 131) dX11_plainly_124 (by decide) (fun hc => ?_) (fun hc => ?_)
    · rw [if_neg hc] at hf
      refine y_iload (i := 7) dX11_plainly_131 rfl ?_
      refine y_iconst (v := 3) dX11_plainly_133 (by decide) ?_
      refine y_icmp_ne (tgt := 141) dX11_plainly_134 (by decide) (fun hc => ?_) (fun hc => ?_)
      · rw [if_neg hc] at hf
        refine y_iload (i := 7) dX11_plainly_141 rfl ?_
        refine y_iconst (v := 4) dX11_plainly_143 (by decide) ?_
        refine y_icmp_ne (tgt := 151) dX11_plainly_144 (by decide) (fun hc => ?_) (fun hc => ?_)
        · rw [if_neg hc] at hf
          refine y_iconst (v := 0) dX11_plainly_151 (by decide) ?_
          refine Y.weak (lv2 := [some (.inr (.inr (some a0))), none, none, none, none, none, none, some (.inl x109), some (.inl x112)]) [true, false, false, false, false, false, false, true, true] rfl ?_
          exact xX11_plainly_152 hK hf
        · rw [if_pos hc] at hf
          refine y_iconst (v := 3) dX11_plainly_147 (by decide) ?_
          refine y_goto (tgt := 152) dX11_plainly_148 (by decide) ?_
          refine Y.weak (lv2 := [some (.inr (.inr (some a0))), none, none, none, none, none, none, some (.inl x109), some (.inl x112)]) [true, false, false, false, false, false, false, true, true] rfl ?_
          exact xX11_plainly_152 hK hf
      · rw [if_pos hc] at hf
        refine y_iconst (v := 2) dX11_plainly_137 (by decide) ?_
        refine y_goto (tgt := 152) dX11_plainly_138 (by decide) ?_
        refine Y.weak (lv2 := [some (.inr (.inr (some a0))), none, none, none, none, none, none, some (.inl x109), some (.inl x112)]) [true, false, false, false, false, false, false, true, true] rfl ?_
        exact xX11_plainly_152 hK hf
    · rw [if_pos hc] at hf
      refine y_iconst (v := 1) dX11_plainly_127 (by decide) ?_
      refine y_goto (tgt := 152) dX11_plainly_128 (by decide) ?_
      refine Y.weak (lv2 := [some (.inr (.inr (some a0))), none, none, none, none, none, none, some (.inl x109), some (.inl x112)]) [true, false, false, false, false, false, false, true, true] rfl ?_
      exact xX11_plainly_152 hK hf
  rw [if_neg hc] at hf
  refine y_swc (fun hc => ?_) (fun hc => ?_)
  · rw [if_pos hc] at hf
    refine y_aload_n (i := 0) dX11_plainly_171 rfl rfl ?_
    refine y_aload_n (i := 0) dX11_plainly_172 rfl rfl ?_
    replace hf := bnd hf
    obtain ⟨r117, er117, hf⟩ := hf
    refine y_getR er117 fl11_81 dX11_plainly_173 ?_
    refine y_bipush (v := 7) dX11_plainly_176 (by decide) ?_
    refine y_iload_n (i := 1) dX11_plainly_178 rfl rfl ?_
    refine y_imul dX11_plainly_179 ?_
    replace hf := bnd hf
    obtain ⟨a118, rfl, hf⟩ := hf
    replace hf := bnd hf
    obtain ⟨x119, ex119, hf⟩ := hf
    refine y_iaload ex119 dX11_plainly_180 ?_
    refine y_lload_n (i := 3) dX11_plainly_181 rfl rfl ?_
    replace hf := bnd hf
    obtain ⟨fs121, efs121, hf⟩ := hf
    replace hf := bnd hf
    obtain ⟨q120, eq120, hf⟩ := hf
    refine y_callV (mj := miX11_comes) (args := [.inl x119, .inr (.inl j103)]) (st := []) dX11_plainly_182 (gd_of 940 rfl rfl) (gd_of 942 rfl rfl) (gd_of 45 rfl rfl) okX11_comes (obO_spec efs121) rfl rfl (xX11_comes (by omega) eq120) (Nat.le_of_ble_eq_true rfl) rfl ?_
    show Y l g miX11_plainly (d + 1) 185 [some (.inr (.inr (some a0))), some (.inl x1), some (.inl x2), some (.inr (.inl j103)), none, some (.inr (.inl j106)), none, some (.inl x109), some (.inl x112)] [] q120 _
    refine y_goto (tgt := 404) dX11_plainly_185 (by decide) ?_
    refine y_aload_n (i := 0) dX11_plainly_404 rfl rfl ?_
    replace hf := bnd hf
    obtain ⟨fs123, efs123, hf⟩ := hf
    replace hf := bnd hf
    obtain ⟨q122, eq122, hf⟩ := hf
    refine y_callV (mj := miX11_over) (args := []) (st := []) dX11_plainly_405 (gd_of 1021 rfl rfl) (gd_of 1023 rfl rfl) (gd_of 59 rfl rfl) okX11_over (obO_spec efs123) rfl rfl (xX11_over (by omega) eq122) (Nat.le_of_ble_eq_true rfl) rfl ?_
    show Y l g miX11_plainly (d + 1) 408 [some (.inr (.inr (some a0))), some (.inl x1), some (.inl x2), some (.inr (.inl j103)), none, some (.inr (.inl j106)), none, some (.inl x109), some (.inl x112)] [] q122 _
    obtain rfl := Option.some.inj hf
    exact y_ret (v := none) dX11_plainly_408 rfl
  rw [if_neg hc] at hf
  refine y_swc (fun hc => ?_) (fun hc => ?_)
  · rw [if_pos hc] at hf
    refine y_aload_n (i := 0) dX11_plainly_188 rfl rfl ?_
    refine y_iconst (v := 0) dX11_plainly_189 (by decide) ?_
    refine y_lload_n (i := 3) dX11_plainly_190 rfl rfl ?_
    refine y_lload (i := 5) dX11_plainly_191 rfl ?_
    refine y_ladd dX11_plainly_193 ?_
    refine y_l2i dX11_plainly_194 ?_
    refine y_i2l dX11_plainly_195 ?_
    replace hf := bnd hf
    obtain ⟨fs125, efs125, hf⟩ := hf
    replace hf := bnd hf
    obtain ⟨q124, eq124, hf⟩ := hf
    refine y_callV (mj := miX11_comes) (args := [.inl 0, .inr (.inl (Int32.toInt64 (Int64.toInt32 (j103 + j106))))]) (st := []) dX11_plainly_196 (gd_of 940 rfl rfl) (gd_of 942 rfl rfl) (gd_of 45 rfl rfl) okX11_comes (obO_spec efs125) rfl rfl (xX11_comes (by omega) eq124) (Nat.le_of_ble_eq_true rfl) rfl ?_
    show Y l g miX11_plainly (d + 1) 199 [some (.inr (.inr (some a0))), some (.inl x1), some (.inl x2), some (.inr (.inl j103)), none, some (.inr (.inl j106)), none, some (.inl x109), some (.inl x112)] [] q124 _
    refine y_goto (tgt := 404) dX11_plainly_199 (by decide) ?_
    refine y_aload_n (i := 0) dX11_plainly_404 rfl rfl ?_
    replace hf := bnd hf
    obtain ⟨fs127, efs127, hf⟩ := hf
    replace hf := bnd hf
    obtain ⟨q126, eq126, hf⟩ := hf
    refine y_callV (mj := miX11_over) (args := []) (st := []) dX11_plainly_405 (gd_of 1021 rfl rfl) (gd_of 1023 rfl rfl) (gd_of 59 rfl rfl) okX11_over (obO_spec efs127) rfl rfl (xX11_over (by omega) eq126) (Nat.le_of_ble_eq_true rfl) rfl ?_
    show Y l g miX11_plainly (d + 1) 408 [some (.inr (.inr (some a0))), some (.inl x1), some (.inl x2), some (.inr (.inl j103)), none, some (.inr (.inl j106)), none, some (.inl x109), some (.inl x112)] [] q126 _
    obtain rfl := Option.some.inj hf
    exact y_ret (v := none) dX11_plainly_408 rfl
  rw [if_neg hc] at hf
  refine y_swc (fun hc => ?_) (fun hc => ?_)
  · rw [if_pos hc] at hf
    refine y_aload_n (i := 0) dX11_plainly_202 rfl rfl ?_
    refine y_iconst (v := 0) dX11_plainly_203 (by decide) ?_
    refine y_lload_n (i := 3) dX11_plainly_204 rfl rfl ?_
    refine y_lload (i := 5) dX11_plainly_205 rfl ?_
    refine y_lsub dX11_plainly_207 ?_
    refine y_l2i dX11_plainly_208 ?_
    refine y_i2l dX11_plainly_209 ?_
    replace hf := bnd hf
    obtain ⟨fs129, efs129, hf⟩ := hf
    replace hf := bnd hf
    obtain ⟨q128, eq128, hf⟩ := hf
    refine y_callV (mj := miX11_comes) (args := [.inl 0, .inr (.inl (Int32.toInt64 (Int64.toInt32 (j103 - j106))))]) (st := []) dX11_plainly_210 (gd_of 940 rfl rfl) (gd_of 942 rfl rfl) (gd_of 45 rfl rfl) okX11_comes (obO_spec efs129) rfl rfl (xX11_comes (by omega) eq128) (Nat.le_of_ble_eq_true rfl) rfl ?_
    show Y l g miX11_plainly (d + 1) 213 [some (.inr (.inr (some a0))), some (.inl x1), some (.inl x2), some (.inr (.inl j103)), none, some (.inr (.inl j106)), none, some (.inl x109), some (.inl x112)] [] q128 _
    refine y_goto (tgt := 404) dX11_plainly_213 (by decide) ?_
    refine y_aload_n (i := 0) dX11_plainly_404 rfl rfl ?_
    replace hf := bnd hf
    obtain ⟨fs131, efs131, hf⟩ := hf
    replace hf := bnd hf
    obtain ⟨q130, eq130, hf⟩ := hf
    refine y_callV (mj := miX11_over) (args := []) (st := []) dX11_plainly_405 (gd_of 1021 rfl rfl) (gd_of 1023 rfl rfl) (gd_of 59 rfl rfl) okX11_over (obO_spec efs131) rfl rfl (xX11_over (by omega) eq130) (Nat.le_of_ble_eq_true rfl) rfl ?_
    show Y l g miX11_plainly (d + 1) 408 [some (.inr (.inr (some a0))), some (.inl x1), some (.inl x2), some (.inr (.inl j103)), none, some (.inr (.inl j106)), none, some (.inl x109), some (.inl x112)] [] q130 _
    obtain rfl := Option.some.inj hf
    exact y_ret (v := none) dX11_plainly_408 rfl
  rw [if_neg hc] at hf
  refine y_swc (fun hc => ?_) (fun hc => ?_)
  · rw [if_pos hc] at hf
    refine y_aload_n (i := 0) dX11_plainly_216 rfl rfl ?_
    refine y_iconst (v := 0) dX11_plainly_217 (by decide) ?_
    refine y_lload_n (i := 3) dX11_plainly_218 rfl rfl ?_
    refine y_lload (i := 5) dX11_plainly_219 rfl ?_
    refine y_lmul dX11_plainly_221 ?_
    refine y_l2i dX11_plainly_222 ?_
    refine y_i2l dX11_plainly_223 ?_
    replace hf := bnd hf
    obtain ⟨fs133, efs133, hf⟩ := hf
    replace hf := bnd hf
    obtain ⟨q132, eq132, hf⟩ := hf
    refine y_callV (mj := miX11_comes) (args := [.inl 0, .inr (.inl (Int32.toInt64 (Int64.toInt32 (j103 * j106))))]) (st := []) dX11_plainly_224 (gd_of 940 rfl rfl) (gd_of 942 rfl rfl) (gd_of 45 rfl rfl) okX11_comes (obO_spec efs133) rfl rfl (xX11_comes (by omega) eq132) (Nat.le_of_ble_eq_true rfl) rfl ?_
    show Y l g miX11_plainly (d + 1) 227 [some (.inr (.inr (some a0))), some (.inl x1), some (.inl x2), some (.inr (.inl j103)), none, some (.inr (.inl j106)), none, some (.inl x109), some (.inl x112)] [] q132 _
    refine y_goto (tgt := 404) dX11_plainly_227 (by decide) ?_
    refine y_aload_n (i := 0) dX11_plainly_404 rfl rfl ?_
    replace hf := bnd hf
    obtain ⟨fs135, efs135, hf⟩ := hf
    replace hf := bnd hf
    obtain ⟨q134, eq134, hf⟩ := hf
    refine y_callV (mj := miX11_over) (args := []) (st := []) dX11_plainly_405 (gd_of 1021 rfl rfl) (gd_of 1023 rfl rfl) (gd_of 59 rfl rfl) okX11_over (obO_spec efs135) rfl rfl (xX11_over (by omega) eq134) (Nat.le_of_ble_eq_true rfl) rfl ?_
    show Y l g miX11_plainly (d + 1) 408 [some (.inr (.inr (some a0))), some (.inl x1), some (.inl x2), some (.inr (.inl j103)), none, some (.inr (.inl j106)), none, some (.inl x109), some (.inl x112)] [] q134 _
    obtain rfl := Option.some.inj hf
    exact y_ret (v := none) dX11_plainly_408 rfl
  rw [if_neg hc] at hf
  refine y_swc (fun hc => ?_) (fun hc => ?_)
  · rw [if_pos hc] at hf
    refine y_lload (i := 5) dX11_plainly_230 rfl ?_
    refine y_lconst (v := 0) dX11_plainly_232 (by decide) ?_
    refine y_lcmp dX11_plainly_233 ?_
    refine y_if_ne (tgt := 245) dX11_plainly_234 (by decide) (fun hc => ?_) (fun hc => ?_)
    · rw [if_neg hc] at hf
      refine y_aload_n (i := 0) dX11_plainly_245 rfl rfl ?_
      refine y_iconst (v := 0) dX11_plainly_246 (by decide) ?_
      refine y_lload_n (i := 3) dX11_plainly_247 rfl rfl ?_
      refine y_lload (i := 5) dX11_plainly_248 rfl ?_
      by_cases hz136 : j106 = 0
      · rw [if_pos hz136] at hf; cases hf
      rw [if_neg hz136] at hf
      refine y_ldiv dX11_plainly_250 hz136 ?_
      refine y_l2i dX11_plainly_251 ?_
      refine y_i2l dX11_plainly_252 ?_
      replace hf := bnd hf
      obtain ⟨fs138, efs138, hf⟩ := hf
      replace hf := bnd hf
      obtain ⟨q137, eq137, hf⟩ := hf
      refine y_callV (mj := miX11_comes) (args := [.inl 0, .inr (.inl (Int32.toInt64 (Int64.toInt32 (j103 / j106))))]) (st := []) dX11_plainly_253 (gd_of 940 rfl rfl) (gd_of 942 rfl rfl) (gd_of 45 rfl rfl) okX11_comes (obO_spec efs138) rfl rfl (xX11_comes (by omega) eq137) (Nat.le_of_ble_eq_true rfl) rfl ?_
      show Y l g miX11_plainly (d + 1) 256 [some (.inr (.inr (some a0))), some (.inl x1), some (.inl x2), some (.inr (.inl j103)), none, some (.inr (.inl j106)), none, some (.inl x109), some (.inl x112)] [] q137 _
      refine y_goto (tgt := 404) dX11_plainly_256 (by decide) ?_
      refine y_aload_n (i := 0) dX11_plainly_404 rfl rfl ?_
      replace hf := bnd hf
      obtain ⟨fs140, efs140, hf⟩ := hf
      replace hf := bnd hf
      obtain ⟨q139, eq139, hf⟩ := hf
      refine y_callV (mj := miX11_over) (args := []) (st := []) dX11_plainly_405 (gd_of 1021 rfl rfl) (gd_of 1023 rfl rfl) (gd_of 59 rfl rfl) okX11_over (obO_spec efs140) rfl rfl (xX11_over (by omega) eq139) (Nat.le_of_ble_eq_true rfl) rfl ?_
      show Y l g miX11_plainly (d + 1) 408 [some (.inr (.inr (some a0))), some (.inl x1), some (.inl x2), some (.inr (.inl j103)), none, some (.inr (.inl j106)), none, some (.inl x109), some (.inl x112)] [] q139 _
      obtain rfl := Option.some.inj hf
      exact y_ret (v := none) dX11_plainly_408 rfl
    · rw [if_pos hc] at hf
      refine y_aload_n (i := 0) dX11_plainly_237 rfl rfl ?_
      refine y_iconst (v := 1) dX11_plainly_238 (by decide) ?_
      replace hf := bnd hf
      obtain ⟨h141, eh141, hf⟩ := hf
      refine y_put eh141 (pl11_173_m rfl) dX11_plainly_239 ?_
      refine y_goto (tgt := 404) dX11_plainly_242 (by decide) ?_
      refine y_aload_n (i := 0) dX11_plainly_404 rfl rfl ?_
      replace hf := bnd hf
      obtain ⟨fs143, efs143, hf⟩ := hf
      replace hf := bnd hf
      obtain ⟨q142, eq142, hf⟩ := hf
      refine y_callV (mj := miX11_over) (args := []) (st := []) dX11_plainly_405 (gd_of 1021 rfl rfl) (gd_of 1023 rfl rfl) (gd_of 59 rfl rfl) okX11_over (obO_spec efs143) rfl rfl (xX11_over (by omega) eq142) (Nat.le_of_ble_eq_true rfl) rfl ?_
      show Y l g miX11_plainly (d + 1) 408 [some (.inr (.inr (some a0))), some (.inl x1), some (.inl x2), some (.inr (.inl j103)), none, some (.inr (.inl j106)), none, some (.inl x109), some (.inl x112)] [] q142 _
      obtain rfl := Option.some.inj hf
      exact y_ret (v := none) dX11_plainly_408 rfl
  rw [if_neg hc] at hf
  refine y_swc (fun hc => ?_) (fun hc => ?_)
  · rw [if_pos hc] at hf
    refine y_aload_n (i := 0) dX11_plainly_259 rfl rfl ?_
    refine y_iconst (v := 0) dX11_plainly_260 (by decide) ?_
    refine y_lload_n (i := 3) dX11_plainly_261 rfl rfl ?_
    refine y_lload (i := 5) dX11_plainly_262 rfl ?_
    refine y_lcmp dX11_plainly_264 ?_
    refine y_if_ge (tgt := 272) dX11_plainly_265 (by decide) (fun hc => ?_) (fun hc => ?_)
    · rw [if_pos hc] at hf
      refine y_lconst (v := 0) dX11_plainly_272 (by decide) ?_
      replace hf := bnd hf
      obtain ⟨fs145, efs145, hf⟩ := hf
      replace hf := bnd hf
      obtain ⟨q144, eq144, hf⟩ := hf
      refine y_callV (mj := miX11_comes) (args := [.inl 0, .inr (.inl 0)]) (st := []) dX11_plainly_273 (gd_of 940 rfl rfl) (gd_of 942 rfl rfl) (gd_of 45 rfl rfl) okX11_comes (obO_spec efs145) rfl rfl (xX11_comes (by omega) eq144) (Nat.le_of_ble_eq_true rfl) rfl ?_
      show Y l g miX11_plainly (d + 1) 276 [some (.inr (.inr (some a0))), some (.inl x1), some (.inl x2), some (.inr (.inl j103)), none, some (.inr (.inl j106)), none, some (.inl x109), some (.inl x112)] [] q144 _
      refine y_goto (tgt := 404) dX11_plainly_276 (by decide) ?_
      refine y_aload_n (i := 0) dX11_plainly_404 rfl rfl ?_
      replace hf := bnd hf
      obtain ⟨fs147, efs147, hf⟩ := hf
      replace hf := bnd hf
      obtain ⟨q146, eq146, hf⟩ := hf
      refine y_callV (mj := miX11_over) (args := []) (st := []) dX11_plainly_405 (gd_of 1021 rfl rfl) (gd_of 1023 rfl rfl) (gd_of 59 rfl rfl) okX11_over (obO_spec efs147) rfl rfl (xX11_over (by omega) eq146) (Nat.le_of_ble_eq_true rfl) rfl ?_
      show Y l g miX11_plainly (d + 1) 408 [some (.inr (.inr (some a0))), some (.inl x1), some (.inl x2), some (.inr (.inl j103)), none, some (.inr (.inl j106)), none, some (.inl x109), some (.inl x112)] [] q146 _
      obtain rfl := Option.some.inj hf
      exact y_ret (v := none) dX11_plainly_408 rfl
    · rw [if_neg hc] at hf
      refine y_lconst (v := 1) dX11_plainly_268 (by decide) ?_
      refine y_goto (tgt := 273) dX11_plainly_269 (by decide) ?_
      replace hf := bnd hf
      obtain ⟨fs149, efs149, hf⟩ := hf
      replace hf := bnd hf
      obtain ⟨q148, eq148, hf⟩ := hf
      refine y_callV (mj := miX11_comes) (args := [.inl 0, .inr (.inl 1)]) (st := []) dX11_plainly_273 (gd_of 940 rfl rfl) (gd_of 942 rfl rfl) (gd_of 45 rfl rfl) okX11_comes (obO_spec efs149) rfl rfl (xX11_comes (by omega) eq148) (Nat.le_of_ble_eq_true rfl) rfl ?_
      show Y l g miX11_plainly (d + 1) 276 [some (.inr (.inr (some a0))), some (.inl x1), some (.inl x2), some (.inr (.inl j103)), none, some (.inr (.inl j106)), none, some (.inl x109), some (.inl x112)] [] q148 _
      refine y_goto (tgt := 404) dX11_plainly_276 (by decide) ?_
      refine y_aload_n (i := 0) dX11_plainly_404 rfl rfl ?_
      replace hf := bnd hf
      obtain ⟨fs151, efs151, hf⟩ := hf
      replace hf := bnd hf
      obtain ⟨q150, eq150, hf⟩ := hf
      refine y_callV (mj := miX11_over) (args := []) (st := []) dX11_plainly_405 (gd_of 1021 rfl rfl) (gd_of 1023 rfl rfl) (gd_of 59 rfl rfl) okX11_over (obO_spec efs151) rfl rfl (xX11_over (by omega) eq150) (Nat.le_of_ble_eq_true rfl) rfl ?_
      show Y l g miX11_plainly (d + 1) 408 [some (.inr (.inr (some a0))), some (.inl x1), some (.inl x2), some (.inr (.inl j103)), none, some (.inr (.inl j106)), none, some (.inl x109), some (.inl x112)] [] q150 _
      obtain rfl := Option.some.inj hf
      exact y_ret (v := none) dX11_plainly_408 rfl
  rw [if_neg hc] at hf
  refine y_swc (fun hc => ?_) (fun hc => ?_)
  · rw [if_pos hc] at hf
    refine y_aload_n (i := 0) dX11_plainly_279 rfl rfl ?_
    refine y_iconst (v := 1) dX11_plainly_280 (by decide) ?_
    refine y_lload_n (i := 3) dX11_plainly_281 rfl rfl ?_
    refine y_lload (i := 5) dX11_plainly_282 rfl ?_
    refine y_ladd dX11_plainly_284 ?_
    replace hf := bnd hf
    obtain ⟨fs153, efs153, hf⟩ := hf
    replace hf := bnd hf
    obtain ⟨q152, eq152, hf⟩ := hf
    refine y_callV (mj := miX11_comes) (args := [.inl 1, .inr (.inl (j103 + j106))]) (st := []) dX11_plainly_285 (gd_of 940 rfl rfl) (gd_of 942 rfl rfl) (gd_of 45 rfl rfl) okX11_comes (obO_spec efs153) rfl rfl (xX11_comes (by omega) eq152) (Nat.le_of_ble_eq_true rfl) rfl ?_
    show Y l g miX11_plainly (d + 1) 288 [some (.inr (.inr (some a0))), some (.inl x1), some (.inl x2), some (.inr (.inl j103)), none, some (.inr (.inl j106)), none, some (.inl x109), some (.inl x112)] [] q152 _
    refine y_goto (tgt := 404) dX11_plainly_288 (by decide) ?_
    refine y_aload_n (i := 0) dX11_plainly_404 rfl rfl ?_
    replace hf := bnd hf
    obtain ⟨fs155, efs155, hf⟩ := hf
    replace hf := bnd hf
    obtain ⟨q154, eq154, hf⟩ := hf
    refine y_callV (mj := miX11_over) (args := []) (st := []) dX11_plainly_405 (gd_of 1021 rfl rfl) (gd_of 1023 rfl rfl) (gd_of 59 rfl rfl) okX11_over (obO_spec efs155) rfl rfl (xX11_over (by omega) eq154) (Nat.le_of_ble_eq_true rfl) rfl ?_
    show Y l g miX11_plainly (d + 1) 408 [some (.inr (.inr (some a0))), some (.inl x1), some (.inl x2), some (.inr (.inl j103)), none, some (.inr (.inl j106)), none, some (.inl x109), some (.inl x112)] [] q154 _
    obtain rfl := Option.some.inj hf
    exact y_ret (v := none) dX11_plainly_408 rfl
  rw [if_neg hc] at hf
  refine y_swc (fun hc => ?_) (fun hc => ?_)
  · rw [if_pos hc] at hf
    refine Y.weak (lv2 := [some (.inr (.inr (some a0))), some (.inl x1), some (.inl x2), some (.inr (.inl j103)), none, some (.inr (.inl j106)), none, none, none]) [true, true, true, true, false, true, false, false, false] rfl ?_
    exact xX11_plainly_390 hK hf
  rw [if_neg hc] at hf
  refine y_swc (fun hc => ?_) (fun hc => ?_)
  · rw [if_pos hc] at hf
    refine Y.weak (lv2 := [some (.inr (.inr (some a0))), some (.inl x1), some (.inl x2), some (.inr (.inl j103)), none, some (.inr (.inl j106)), none, none, none]) [true, true, true, true, false, true, false, false, false] rfl ?_
    exact xX11_plainly_390 hK hf
  rw [if_neg hc] at hf
  refine y_swc (fun hc => ?_) (fun hc => ?_)
  · rw [if_pos hc] at hf
    refine Y.weak (lv2 := [some (.inr (.inr (some a0))), some (.inl x1), some (.inl x2), some (.inr (.inl j103)), none, some (.inr (.inl j106)), none, none, none]) [true, true, true, true, false, true, false, false, false] rfl ?_
    exact xX11_plainly_390 hK hf
  rw [if_neg hc] at hf
  refine y_swc (fun hc => ?_) (fun hc => ?_)
  · rw [if_pos hc] at hf
    refine y_aload_n (i := 0) dX11_plainly_291 rfl rfl ?_
    refine y_lload_n (i := 3) dX11_plainly_292 rfl rfl ?_
    refine y_lconst (v := 0) dX11_plainly_293 (by decide) ?_
    refine y_lcmp dX11_plainly_294 ?_
    refine y_if_ge (tgt := 302) dX11_plainly_295 (by decide) (fun hc => ?_) (fun hc => ?_)
    · rw [if_pos hc] at hf
      refine y_lload_n (i := 3) dX11_plainly_302 rfl rfl ?_
      refine y_ldc2 (v := 20) dX11_plainly_303 (gd_of 960 rfl rfl) ?_
      refine y_lcmp dX11_plainly_306 ?_
      refine y_if_le (tgt := 315) dX11_plainly_307 (by decide) (fun hc => ?_) (fun hc => ?_)
      · rw [if_pos hc] at hf
        refine y_aload_n (i := 0) dX11_plainly_315 rfl rfl ?_
        replace hf := bnd hf
        obtain ⟨x156, ex156, hf⟩ := hf
        refine y_getI ex156 fl11_115 dX11_plainly_316 ?_
        refine y_bipush (v := 60) dX11_plainly_319 (by decide) ?_
        refine y_icmp_ne (tgt := 329) dX11_plainly_321 (by decide) (fun hc => ?_) (fun hc => ?_)
        · rw [if_neg hc] at hf
          refine y_iconst (v := 0) dX11_plainly_329 (by decide) ?_
          refine Y.weak (lv2 := [some (.inr (.inr (some a0))), none, none, some (.inr (.inl j103)), none, none, none, none, none]) [true, false, false, true, false, false, false, false, false] rfl ?_
          exact xX11_plainly_330 hK hf
        · rw [if_pos hc] at hf
          refine y_bipush (v := 10) dX11_plainly_324 (by decide) ?_
          refine y_goto (tgt := 330) dX11_plainly_326 (by decide) ?_
          refine Y.weak (lv2 := [some (.inr (.inr (some a0))), none, none, some (.inr (.inl j103)), none, none, none, none, none]) [true, false, false, true, false, false, false, false, false] rfl ?_
          exact xX11_plainly_330 hK hf
      · rw [if_neg hc] at hf
        refine y_bipush (v := 6) dX11_plainly_310 (by decide) ?_
        refine y_goto (tgt := 330) dX11_plainly_312 (by decide) ?_
        refine Y.weak (lv2 := [some (.inr (.inr (some a0))), none, none, some (.inr (.inl j103)), none, none, none, none, none]) [true, false, false, true, false, false, false, false, false] rfl ?_
        exact xX11_plainly_330 hK hf
    · rw [if_neg hc] at hf
      refine y_iconst (v := 5) dX11_plainly_298 (by decide) ?_
      refine y_goto (tgt := 330) dX11_plainly_299 (by decide) ?_
      refine Y.weak (lv2 := [some (.inr (.inr (some a0))), none, none, some (.inr (.inl j103)), none, none, none, none, none]) [true, false, false, true, false, false, false, false, false] rfl ?_
      exact xX11_plainly_330 hK hf
  rw [if_neg hc] at hf
  refine y_swc (fun hc => ?_) (fun hc => ?_)
  · rw [if_pos hc] at hf
    refine y_aload_n (i := 0) dX11_plainly_355 rfl rfl ?_
    refine y_bipush (v := 100) dX11_plainly_356 (by decide) ?_
    refine y_iload (i := 8) dX11_plainly_358 rfl ?_
    refine y_iadd dX11_plainly_360 ?_
    replace hf := bnd hf
    obtain ⟨h157, eh157, hf⟩ := hf
    refine y_put eh157 (pl11_173_m rfl) dX11_plainly_361 ?_
    refine y_goto (tgt := 404) dX11_plainly_364 (by decide) ?_
    refine y_aload_n (i := 0) dX11_plainly_404 rfl rfl ?_
    replace hf := bnd hf
    obtain ⟨fs159, efs159, hf⟩ := hf
    replace hf := bnd hf
    obtain ⟨q158, eq158, hf⟩ := hf
    refine y_callV (mj := miX11_over) (args := []) (st := []) dX11_plainly_405 (gd_of 1021 rfl rfl) (gd_of 1023 rfl rfl) (gd_of 59 rfl rfl) okX11_over (obO_spec efs159) rfl rfl (xX11_over (by omega) eq158) (Nat.le_of_ble_eq_true rfl) rfl ?_
    show Y l g miX11_plainly (d + 1) 408 [some (.inr (.inr (some a0))), some (.inl x1), some (.inl x2), some (.inr (.inl j103)), none, some (.inr (.inl j106)), none, some (.inl x109), some (.inl x112)] [] q158 _
    obtain rfl := Option.some.inj hf
    exact y_ret (v := none) dX11_plainly_408 rfl
  rw [if_neg hc] at hf
  refine y_swc (fun hc => ?_) (fun hc => ?_)
  · rw [if_pos hc] at hf
    refine y_aload_n (i := 0) dX11_plainly_367 rfl rfl ?_
    refine y_dup dX11_plainly_368 rfl ?_
    replace hf := bnd hf
    obtain ⟨x160, ex160, hf⟩ := hf
    refine y_getI ex160 fl11_252 dX11_plainly_369 ?_
    refine y_iconst (v := 1) dX11_plainly_372 (by decide) ?_
    refine y_iadd dX11_plainly_373 ?_
    replace hf := bnd hf
    obtain ⟨h161, eh161, hf⟩ := hf
    refine y_put eh161 (pl11_252_m rfl) dX11_plainly_374 ?_
    refine y_aload_n (i := 0) dX11_plainly_377 rfl rfl ?_
    refine y_iconst (v := 0) dX11_plainly_378 (by decide) ?_
    refine y_aload_n (i := 0) dX11_plainly_379 rfl rfl ?_
    replace hf := bnd hf
    obtain ⟨x162, ex162, hf⟩ := hf
    refine y_getI ex162 fl11_252 dX11_plainly_380 ?_
    refine y_i2l dX11_plainly_383 ?_
    replace hf := bnd hf
    obtain ⟨fs164, efs164, hf⟩ := hf
    replace hf := bnd hf
    obtain ⟨q163, eq163, hf⟩ := hf
    refine y_callV (mj := miX11_comes) (args := [.inl 0, .inr (.inl (Int32.toInt64 x162))]) (st := []) dX11_plainly_384 (gd_of 940 rfl rfl) (gd_of 942 rfl rfl) (gd_of 45 rfl rfl) okX11_comes (obO_spec efs164) rfl rfl (xX11_comes (by omega) eq163) (Nat.le_of_ble_eq_true rfl) rfl ?_
    show Y l g miX11_plainly (d + 1) 387 [some (.inr (.inr (some a0))), some (.inl x1), some (.inl x2), some (.inr (.inl j103)), none, some (.inr (.inl j106)), none, some (.inl x109), some (.inl x112)] [] q163 _
    refine y_goto (tgt := 404) dX11_plainly_387 (by decide) ?_
    refine y_aload_n (i := 0) dX11_plainly_404 rfl rfl ?_
    replace hf := bnd hf
    obtain ⟨fs166, efs166, hf⟩ := hf
    replace hf := bnd hf
    obtain ⟨q165, eq165, hf⟩ := hf
    refine y_callV (mj := miX11_over) (args := []) (st := []) dX11_plainly_405 (gd_of 1021 rfl rfl) (gd_of 1023 rfl rfl) (gd_of 59 rfl rfl) okX11_over (obO_spec efs166) rfl rfl (xX11_over (by omega) eq165) (Nat.le_of_ble_eq_true rfl) rfl ?_
    show Y l g miX11_plainly (d + 1) 408 [some (.inr (.inr (some a0))), some (.inl x1), some (.inl x2), some (.inr (.inl j103)), none, some (.inr (.inl j106)), none, some (.inl x109), some (.inl x112)] [] q165 _
    obtain rfl := Option.some.inj hf
    exact y_ret (v := none) dX11_plainly_408 rfl
  rw [if_neg hc] at hf
  refine y_swn ?_
  refine Y.weak (lv2 := [some (.inr (.inr (some a0))), some (.inl x1), some (.inl x2), some (.inr (.inl j103)), none, some (.inr (.inl j106)), none, none, none]) [true, true, true, true, false, true, false, false, false] rfl ?_
  exact xX11_plainly_390 hK hf
set_option maxRecDepth 100000 in
theorem dX11_goes_0 : decode prog_13_method_35_code 0 = .ok (.aload_n 0, 1) := by decide +kernel
set_option maxRecDepth 100000 in
theorem dX11_goes_1 : decode prog_13_method_35_code 1 = .ok (.getfield 240, 3) := by decide +kernel
set_option maxRecDepth 100000 in
theorem dX11_goes_4 : decode prog_13_method_35_code 4 = .ok (.ifCond .le 127, 3) := by decide +kernel
set_option maxRecDepth 100000 in
theorem dX11_goes_7 : decode prog_13_method_35_code 7 = .ok (.aload_n 0, 1) := by decide +kernel
set_option maxRecDepth 100000 in
theorem dX11_goes_8 : decode prog_13_method_35_code 8 = .ok (.getfield 240, 3) := by decide +kernel
set_option maxRecDepth 100000 in
theorem dX11_goes_11 : decode prog_13_method_35_code 11 = .ok (.iconst 1, 1) := by decide +kernel
set_option maxRecDepth 100000 in
theorem dX11_goes_12 : decode prog_13_method_35_code 12 = .ok (.isub, 1) := by decide +kernel
set_option maxRecDepth 100000 in
theorem dX11_goes_13 : decode prog_13_method_35_code 13 = .ok (.istore_n 1, 1) := by decide +kernel
set_option maxRecDepth 100000 in
theorem dX11_goes_14 : decode prog_13_method_35_code 14 = .ok (.aload_n 0, 1) := by decide +kernel
set_option maxRecDepth 100000 in
theorem dX11_goes_15 : decode prog_13_method_35_code 15 = .ok (.getfield 13, 3) := by decide +kernel
set_option maxRecDepth 100000 in
theorem dX11_goes_18 : decode prog_13_method_35_code 18 = .ok (.aload_n 0, 1) := by decide +kernel
set_option maxRecDepth 100000 in
theorem dX11_goes_19 : decode prog_13_method_35_code 19 = .ok (.getfield 75, 3) := by decide +kernel
set_option maxRecDepth 100000 in
theorem dX11_goes_22 : decode prog_13_method_35_code 22 = .ok (.iload_n 1, 1) := by decide +kernel
set_option maxRecDepth 100000 in
theorem dX11_goes_23 : decode prog_13_method_35_code 23 = .ok (.iaload, 1) := by decide +kernel
set_option maxRecDepth 100000 in
theorem dX11_goes_24 : decode prog_13_method_35_code 24 = .ok (.iaload, 1) := by decide +kernel
set_option maxRecDepth 100000 in
theorem dX11_goes_25 : decode prog_13_method_35_code 25 = .ok (.bipush 20, 2) := by decide +kernel
set_option maxRecDepth 100000 in
theorem dX11_goes_27 : decode prog_13_method_35_code 27 = .ok (.if_icmp .ge 17, 3) := by decide +kernel
set_option maxRecDepth 100000 in
theorem dX11_goes_30 : decode prog_13_method_35_code 30 = .ok (.aload_n 0, 1) := by decide +kernel
set_option maxRecDepth 100000 in
theorem dX11_goes_31 : decode prog_13_method_35_code 31 = .ok (.iload_n 1, 1) := by decide +kernel
set_option maxRecDepth 100000 in
theorem dX11_goes_32 : decode prog_13_method_35_code 32 = .ok (.aload_n 0, 1) := by decide +kernel
set_option maxRecDepth 100000 in
theorem dX11_goes_33 : decode prog_13_method_35_code 33 = .ok (.getfield 75, 3) := by decide +kernel
set_option maxRecDepth 100000 in
theorem dX11_goes_36 : decode prog_13_method_35_code 36 = .ok (.iload_n 1, 1) := by decide +kernel
set_option maxRecDepth 100000 in
theorem dX11_goes_37 : decode prog_13_method_35_code 37 = .ok (.iaload, 1) := by decide +kernel
set_option maxRecDepth 100000 in
theorem dX11_goes_38 : decode prog_13_method_35_code 38 = .ok (.invokevirtual 246, 3) := by decide +kernel
set_option maxRecDepth 100000 in
theorem dX11_goes_41 : decode prog_13_method_35_code 41 = .ok (.goto 87, 3) := by decide +kernel
set_option maxRecDepth 100000 in
theorem dX11_goes_44 : decode prog_13_method_35_code 44 = .ok (.aload_n 0, 1) := by decide +kernel
set_option maxRecDepth 100000 in
theorem dX11_goes_45 : decode prog_13_method_35_code 45 = .ok (.getfield 78, 3) := by decide +kernel
set_option maxRecDepth 100000 in
theorem dX11_goes_48 : decode prog_13_method_35_code 48 = .ok (.iload_n 1, 1) := by decide +kernel
set_option maxRecDepth 100000 in
theorem dX11_goes_49 : decode prog_13_method_35_code 49 = .ok (.iaload, 1) := by decide +kernel
set_option maxRecDepth 100000 in
theorem dX11_goes_50 : decode prog_13_method_35_code 50 = .ok (.bipush 9, 2) := by decide +kernel
set_option maxRecDepth 100000 in
theorem dX11_goes_52 : decode prog_13_method_35_code 52 = .ok (.if_icmp .ne 10, 3) := by decide +kernel
set_option maxRecDepth 100000 in
theorem dX11_goes_55 : decode prog_13_method_35_code 55 = .ok (.aload_n 0, 1) := by decide +kernel
set_option maxRecDepth 100000 in
theorem dX11_goes_56 : decode prog_13_method_35_code 56 = .ok (.invokevirtual 243, 3) := by decide +kernel
set_option maxRecDepth 100000 in
theorem dX11_goes_59 : decode prog_13_method_35_code 59 = .ok (.goto 69, 3) := by decide +kernel
set_option maxRecDepth 100000 in
theorem dX11_goes_62 : decode prog_13_method_35_code 62 = .ok (.aload_n 0, 1) := by decide +kernel
set_option maxRecDepth 100000 in
theorem dX11_goes_63 : decode prog_13_method_35_code 63 = .ok (.getfield 78, 3) := by decide +kernel
set_option maxRecDepth 100000 in
theorem dX11_goes_66 : decode prog_13_method_35_code 66 = .ok (.iload_n 1, 1) := by decide +kernel
set_option maxRecDepth 100000 in
theorem dX11_goes_67 : decode prog_13_method_35_code 67 = .ok (.iaload, 1) := by decide +kernel
set_option maxRecDepth 100000 in
theorem dX11_goes_68 : decode prog_13_method_35_code 68 = .ok (.ifCond .le 49, 3) := by decide +kernel
set_option maxRecDepth 100000 in
theorem dX11_goes_71 : decode prog_13_method_35_code 71 = .ok (.aload_n 0, 1) := by decide +kernel
set_option maxRecDepth 100000 in
theorem dX11_goes_72 : decode prog_13_method_35_code 72 = .ok (.getfield 173, 3) := by decide +kernel
set_option maxRecDepth 100000 in
theorem dX11_goes_75 : decode prog_13_method_35_code 75 = .ok (.ifCond .le 42, 3) := by decide +kernel
set_option maxRecDepth 100000 in
theorem dX11_goes_78 : decode prog_13_method_35_code 78 = .ok (.aload_n 0, 1) := by decide +kernel
set_option maxRecDepth 100000 in
theorem dX11_goes_79 : decode prog_13_method_35_code 79 = .ok (.getfield 13, 3) := by decide +kernel
set_option maxRecDepth 100000 in
theorem dX11_goes_82 : decode prog_13_method_35_code 82 = .ok (.aload_n 0, 1) := by decide +kernel
set_option maxRecDepth 100000 in
theorem dX11_goes_83 : decode prog_13_method_35_code 83 = .ok (.getfield 75, 3) := by decide +kernel
set_option maxRecDepth 100000 in
theorem dX11_goes_86 : decode prog_13_method_35_code 86 = .ok (.iload_n 1, 1) := by decide +kernel
set_option maxRecDepth 100000 in
theorem dX11_goes_87 : decode prog_13_method_35_code 87 = .ok (.iaload, 1) := by decide +kernel
set_option maxRecDepth 100000 in
theorem dX11_goes_88 : decode prog_13_method_35_code 88 = .ok (.iaload, 1) := by decide +kernel
set_option maxRecDepth 100000 in
theorem dX11_goes_89 : decode prog_13_method_35_code 89 = .ok (.bipush 27, 2) := by decide +kernel
set_option maxRecDepth 100000 in
theorem dX11_goes_91 : decode prog_13_method_35_code 91 = .ok (.if_icmp .eq 26, 3) := by decide +kernel
set_option maxRecDepth 100000 in
theorem dX11_goes_94 : decode prog_13_method_35_code 94 = .ok (.aload_n 0, 1) := by decide +kernel
set_option maxRecDepth 100000 in
theorem dX11_goes_95 : decode prog_13_method_35_code 95 = .ok (.getfield 13, 3) := by decide +kernel
set_option maxRecDepth 100000 in
theorem dX11_goes_98 : decode prog_13_method_35_code 98 = .ok (.aload_n 0, 1) := by decide +kernel
set_option maxRecDepth 100000 in
theorem dX11_goes_99 : decode prog_13_method_35_code 99 = .ok (.getfield 75, 3) := by decide +kernel
set_option maxRecDepth 100000 in
theorem dX11_goes_102 : decode prog_13_method_35_code 102 = .ok (.iload_n 1, 1) := by decide +kernel
set_option maxRecDepth 100000 in
theorem dX11_goes_103 : decode prog_13_method_35_code 103 = .ok (.iaload, 1) := by decide +kernel
set_option maxRecDepth 100000 in
theorem dX11_goes_104 : decode prog_13_method_35_code 104 = .ok (.iaload, 1) := by decide +kernel
set_option maxRecDepth 100000 in
theorem dX11_goes_105 : decode prog_13_method_35_code 105 = .ok (.bipush 28, 2) := by decide +kernel
set_option maxRecDepth 100000 in
theorem dX11_goes_107 : decode prog_13_method_35_code 107 = .ok (.if_icmp .eq 10, 3) := by decide +kernel
set_option maxRecDepth 100000 in
theorem dX11_goes_110 : decode prog_13_method_35_code 110 = .ok (.aload_n 0, 1) := by decide +kernel
set_option maxRecDepth 100000 in
theorem dX11_goes_111 : decode prog_13_method_35_code 111 = .ok (.invokevirtual 243, 3) := by decide +kernel
set_option maxRecDepth 100000 in
theorem dX11_goes_114 : decode prog_13_method_35_code 114 = .ok (.goto 14, 3) := by decide +kernel
set_option maxRecDepth 100000 in
theorem dX11_goes_117 : decode prog_13_method_35_code 117 = .ok (.aload_n 0, 1) := by decide +kernel
set_option maxRecDepth 100000 in
theorem dX11_goes_118 : decode prog_13_method_35_code 118 = .ok (.iload_n 1, 1) := by decide +kernel
set_option maxRecDepth 100000 in
theorem dX11_goes_119 : decode prog_13_method_35_code 119 = .ok (.aload_n 0, 1) := by decide +kernel
set_option maxRecDepth 100000 in
theorem dX11_goes_120 : decode prog_13_method_35_code 120 = .ok (.getfield 75, 3) := by decide +kernel
set_option maxRecDepth 100000 in
theorem dX11_goes_123 : decode prog_13_method_35_code 123 = .ok (.iload_n 1, 1) := by decide +kernel
set_option maxRecDepth 100000 in
theorem dX11_goes_124 : decode prog_13_method_35_code 124 = .ok (.iaload, 1) := by decide +kernel
set_option maxRecDepth 100000 in
theorem dX11_goes_125 : decode prog_13_method_35_code 125 = .ok (.invokevirtual 249, 3) := by decide +kernel
set_option maxRecDepth 100000 in
theorem dX11_goes_128 : decode prog_13_method_35_code 128 = .ok (.goto (-128), 3) := by decide +kernel
set_option maxRecDepth 100000 in
theorem dX11_goes_131 : decode prog_13_method_35_code 131 = .ok (.return_, 1) := by decide +kernel
set_option maxRecDepth 100000 in
theorem okX11_oneOther : mOk miX11_oneOther 2 := ⟨(gd_of 1028 rfl rfl), (gd_of 76 rfl rfl), by decide +kernel, ⟨by decide +kernel, by decide +kernel, by decide +kernel⟩, by decide⟩
set_option maxRecDepth 100000 in
theorem okX11_plainly : mOk miX11_plainly 2 := ⟨(gd_of 1016 rfl rfl), (gd_of 76 rfl rfl), by decide +kernel, ⟨by decide +kernel, by decide +kernel, by decide +kernel⟩, by decide⟩
def fX11_goes_117 (z : Nat → Nat) (K0 : Nat → aH → Option aH) (a0 : Nat) (x1 : Int32) (h : aH) : Option aH :=
  (rdR h a0 [9] 35).bind fun r101 =>
  (r101).bind fun a102 =>
  (arI h a102 x1).bind fun x103 =>
  (obO h a0 9).bind fun fs105 =>
  (fX11_oneOther z a0 x1 x103 h).bind fun q104 =>
  K0 a0 q104
set_option maxHeartbeats 4000000 in
set_option maxRecDepth 100000 in
theorem xX11_goes_117 {l : Launch} {g : aG} {d : Nat} (hK : 4 ≤ d + 1) {K0 : Nat → aH → Option aH} (hK0 : ∀ (a0 : Nat) (h : aH) (q : aH), K0 a0 h = some q → Y l g miX11_goes (d + 1) 0 [some (.inr (.inr (some a0))), none] [] h (none, q)) {a0 : Nat} {x1 : Int32} {h : aH} {q : aH} (hf : fX11_goes_117 g.2.2 K0 a0 x1 h = some q) : Y l g miX11_goes (d + 1) 117 [some (.inr (.inr (some a0))), some (.inl x1)] [] h (none, q) := by
  unfold fX11_goes_117 at hf
  refine y_aload_n (i := 0) dX11_goes_117 rfl rfl ?_
  refine y_iload_n (i := 1) dX11_goes_118 rfl rfl ?_
  refine y_aload_n (i := 0) dX11_goes_119 rfl rfl ?_
  replace hf := bnd hf
  obtain ⟨r101, er101, hf⟩ := hf
  refine y_getR er101 fl11_75 dX11_goes_120 ?_
  refine y_iload_n (i := 1) dX11_goes_123 rfl rfl ?_
  replace hf := bnd hf
  obtain ⟨a102, rfl, hf⟩ := hf
  replace hf := bnd hf
  obtain ⟨x103, ex103, hf⟩ := hf
  refine y_iaload ex103 dX11_goes_124 ?_
  replace hf := bnd hf
  obtain ⟨fs105, efs105, hf⟩ := hf
  replace hf := bnd hf
  obtain ⟨q104, eq104, hf⟩ := hf
  refine y_callV (mj := miX11_oneOther) (args := [.inl x1, .inl x103]) (st := []) dX11_goes_125 (gd_of 1025 rfl rfl) (gd_of 1027 rfl rfl) (gd_of 60 rfl rfl) okX11_oneOther (obO_spec efs105) rfl rfl (xX11_oneOther (by omega) eq104) (Nat.le_of_ble_eq_true rfl) rfl ?_
  show Y l g miX11_goes (d + 1) 128 [some (.inr (.inr (some a0))), some (.inl x1)] [] q104 _
  refine y_goto (tgt := 0) dX11_goes_128 (by decide) ?_
  refine Y.weak (lv2 := [some (.inr (.inr (some a0))), none]) [true, false] rfl ?_
  exact hK0 _ _ _ hf
def fX11_goes_0 (z : Nat → Nat) : Nat → Nat → aH → Option aH
  | 0, _, _ => none
  | n + 1, a0, h => (rdI h a0 [9] 33).bind fun x101 =>
  (if x101 ≤ 0 then
  some h
  else
  (rdI h a0 [9] 33).bind fun x102 =>
  (rdR h a0 [9] 2).bind fun r103 =>
  (rdR h a0 [9] 35).bind fun r104 =>
  (r104).bind fun a105 =>
  (arI h a105 (x102 - 1)).bind fun x106 =>
  (r103).bind fun a107 =>
  (arI h a107 x106).bind fun x108 =>
  (if 20 ≤ x108 then
  (rdR h a0 [9] 36).bind fun r109 =>
  (r109).bind fun a110 =>
  (arI h a110 (x102 - 1)).bind fun x111 =>
  (if x111 = 9 then
  (obO h a0 9).bind fun fs131 =>
  (fX11_over z a0 h).bind fun q130 =>
  fX11_goes_0 z n a0 q130
  else
  (rdR h a0 [9] 36).bind fun r112 =>
  (r112).bind fun a113 =>
  (arI h a113 (x102 - 1)).bind fun x114 =>
  (if x114 ≤ 0 then
  fX11_goes_117 z (fX11_goes_0 z n) a0 (x102 - 1) h
  else
  (rdI h a0 [9] 29).bind fun x115 =>
  (if x115 ≤ 0 then
  fX11_goes_117 z (fX11_goes_0 z n) a0 (x102 - 1) h
  else
  (rdR h a0 [9] 2).bind fun r116 =>
  (rdR h a0 [9] 35).bind fun r117 =>
  (r117).bind fun a118 =>
  (arI h a118 (x102 - 1)).bind fun x119 =>
  (r116).bind fun a120 =>
  (arI h a120 x119).bind fun x121 =>
  (if x121 = 27 then
  fX11_goes_117 z (fX11_goes_0 z n) a0 (x102 - 1) h
  else
  (rdR h a0 [9] 2).bind fun r122 =>
  (rdR h a0 [9] 35).bind fun r123 =>
  (r123).bind fun a124 =>
  (arI h a124 (x102 - 1)).bind fun x125 =>
  (r122).bind fun a126 =>
  (arI h a126 x125).bind fun x127 =>
  (if x127 = 28 then
  fX11_goes_117 z (fX11_goes_0 z n) a0 (x102 - 1) h
  else
  (obO h a0 9).bind fun fs129 =>
  (fX11_over z a0 h).bind fun q128 =>
  fX11_goes_0 z n a0 q128)))))
  else
  (rdR h a0 [9] 35).bind fun r132 =>
  (r132).bind fun a133 =>
  (arI h a133 (x102 - 1)).bind fun x134 =>
  (obO h a0 9).bind fun fs136 =>
  (fX11_plainly z a0 (x102 - 1) x134 h).bind fun q135 =>
  fX11_goes_0 z n a0 q135))
set_option maxHeartbeats 4000000 in
set_option maxRecDepth 100000 in
theorem xX11_goes_0 {l : Launch} {g : aG} {d : Nat} (hK : 4 ≤ d + 1) : ∀ (n : Nat) (a0 : Nat) (h : aH) (q : aH), fX11_goes_0 g.2.2 n a0 h = some q → Y l g miX11_goes (d + 1) 0 [some (.inr (.inr (some a0))), none] [] h (none, q) := by
  intro n
  induction n with
  | zero => intro a0 h q hf; simp [fX11_goes_0] at hf
  | succ n ih =>
    intro a0 h q hf
    rw [fX11_goes_0] at hf
    refine y_aload_n (i := 0) dX11_goes_0 rfl rfl ?_
    replace hf := bnd hf
    obtain ⟨x101, ex101, hf⟩ := hf
    refine y_getI ex101 fl11_240 dX11_goes_1 ?_
    refine y_if_le (tgt := 131) dX11_goes_4 (by decide) (fun hc => ?_) (fun hc => ?_)
    · rw [if_pos hc] at hf
      obtain rfl := Option.some.inj hf
      exact y_ret (v := none) dX11_goes_131 rfl
    · rw [if_neg hc] at hf
      refine y_aload_n (i := 0) dX11_goes_7 rfl rfl ?_
      replace hf := bnd hf
      obtain ⟨x102, ex102, hf⟩ := hf
      refine y_getI ex102 fl11_240 dX11_goes_8 ?_
      refine y_iconst (v := 1) dX11_goes_11 (by decide) ?_
      refine y_isub dX11_goes_12 ?_
      refine y_istore_n (i := 1) (lv2 := [some (.inr (.inr (some a0))), some (.inl (x102 - 1))]) dX11_goes_13 rfl (by decide) rfl ?_
      refine y_aload_n (i := 0) dX11_goes_14 rfl rfl ?_
      replace hf := bnd hf
      obtain ⟨r103, er103, hf⟩ := hf
      refine y_getR er103 fl11_13 dX11_goes_15 ?_
      refine y_aload_n (i := 0) dX11_goes_18 rfl rfl ?_
      replace hf := bnd hf
      obtain ⟨r104, er104, hf⟩ := hf
      refine y_getR er104 fl11_75 dX11_goes_19 ?_
      refine y_iload_n (i := 1) dX11_goes_22 rfl rfl ?_
      replace hf := bnd hf
      obtain ⟨a105, rfl, hf⟩ := hf
      replace hf := bnd hf
      obtain ⟨x106, ex106, hf⟩ := hf
      refine y_iaload ex106 dX11_goes_23 ?_
      replace hf := bnd hf
      obtain ⟨a107, rfl, hf⟩ := hf
      replace hf := bnd hf
      obtain ⟨x108, ex108, hf⟩ := hf
      refine y_iaload ex108 dX11_goes_24 ?_
      refine y_bipush (v := 20) dX11_goes_25 (by decide) ?_
      refine y_icmp_ge (tgt := 44) dX11_goes_27 (by decide) (fun hc => ?_) (fun hc => ?_)
      · rw [if_pos hc] at hf
        refine y_aload_n (i := 0) dX11_goes_44 rfl rfl ?_
        replace hf := bnd hf
        obtain ⟨r109, er109, hf⟩ := hf
        refine y_getR er109 fl11_78 dX11_goes_45 ?_
        refine y_iload_n (i := 1) dX11_goes_48 rfl rfl ?_
        replace hf := bnd hf
        obtain ⟨a110, rfl, hf⟩ := hf
        replace hf := bnd hf
        obtain ⟨x111, ex111, hf⟩ := hf
        refine y_iaload ex111 dX11_goes_49 ?_
        refine y_bipush (v := 9) dX11_goes_50 (by decide) ?_
        refine y_icmp_ne (tgt := 62) dX11_goes_52 (by decide) (fun hc => ?_) (fun hc => ?_)
        · rw [if_neg hc] at hf
          refine y_aload_n (i := 0) dX11_goes_62 rfl rfl ?_
          replace hf := bnd hf
          obtain ⟨r112, er112, hf⟩ := hf
          refine y_getR er112 fl11_78 dX11_goes_63 ?_
          refine y_iload_n (i := 1) dX11_goes_66 rfl rfl ?_
          replace hf := bnd hf
          obtain ⟨a113, rfl, hf⟩ := hf
          replace hf := bnd hf
          obtain ⟨x114, ex114, hf⟩ := hf
          refine y_iaload ex114 dX11_goes_67 ?_
          refine y_if_le (tgt := 117) dX11_goes_68 (by decide) (fun hc => ?_) (fun hc => ?_)
          · rw [if_pos hc] at hf
            refine Y.weak (lv2 := [some (.inr (.inr (some a0))), some (.inl (x102 - 1))]) [true, true] rfl ?_
            exact xX11_goes_117 hK ih hf
          · rw [if_neg hc] at hf
            refine y_aload_n (i := 0) dX11_goes_71 rfl rfl ?_
            replace hf := bnd hf
            obtain ⟨x115, ex115, hf⟩ := hf
            refine y_getI ex115 fl11_173 dX11_goes_72 ?_
            refine y_if_le (tgt := 117) dX11_goes_75 (by decide) (fun hc => ?_) (fun hc => ?_)
            · rw [if_pos hc] at hf
              refine Y.weak (lv2 := [some (.inr (.inr (some a0))), some (.inl (x102 - 1))]) [true, true] rfl ?_
              exact xX11_goes_117 hK ih hf
            · rw [if_neg hc] at hf
              refine y_aload_n (i := 0) dX11_goes_78 rfl rfl ?_
              replace hf := bnd hf
              obtain ⟨r116, er116, hf⟩ := hf
              refine y_getR er116 fl11_13 dX11_goes_79 ?_
              refine y_aload_n (i := 0) dX11_goes_82 rfl rfl ?_
              replace hf := bnd hf
              obtain ⟨r117, er117, hf⟩ := hf
              refine y_getR er117 fl11_75 dX11_goes_83 ?_
              refine y_iload_n (i := 1) dX11_goes_86 rfl rfl ?_
              replace hf := bnd hf
              obtain ⟨a118, rfl, hf⟩ := hf
              replace hf := bnd hf
              obtain ⟨x119, ex119, hf⟩ := hf
              refine y_iaload ex119 dX11_goes_87 ?_
              replace hf := bnd hf
              obtain ⟨a120, rfl, hf⟩ := hf
              replace hf := bnd hf
              obtain ⟨x121, ex121, hf⟩ := hf
              refine y_iaload ex121 dX11_goes_88 ?_
              refine y_bipush (v := 27) dX11_goes_89 (by decide) ?_
              refine y_icmp_eq (tgt := 117) dX11_goes_91 (by decide) (fun hc => ?_) (fun hc => ?_)
              · rw [if_pos hc] at hf
                refine Y.weak (lv2 := [some (.inr (.inr (some a0))), some (.inl (x102 - 1))]) [true, true] rfl ?_
                exact xX11_goes_117 hK ih hf
              · rw [if_neg hc] at hf
                refine y_aload_n (i := 0) dX11_goes_94 rfl rfl ?_
                replace hf := bnd hf
                obtain ⟨r122, er122, hf⟩ := hf
                refine y_getR er122 fl11_13 dX11_goes_95 ?_
                refine y_aload_n (i := 0) dX11_goes_98 rfl rfl ?_
                replace hf := bnd hf
                obtain ⟨r123, er123, hf⟩ := hf
                refine y_getR er123 fl11_75 dX11_goes_99 ?_
                refine y_iload_n (i := 1) dX11_goes_102 rfl rfl ?_
                replace hf := bnd hf
                obtain ⟨a124, rfl, hf⟩ := hf
                replace hf := bnd hf
                obtain ⟨x125, ex125, hf⟩ := hf
                refine y_iaload ex125 dX11_goes_103 ?_
                replace hf := bnd hf
                obtain ⟨a126, rfl, hf⟩ := hf
                replace hf := bnd hf
                obtain ⟨x127, ex127, hf⟩ := hf
                refine y_iaload ex127 dX11_goes_104 ?_
                refine y_bipush (v := 28) dX11_goes_105 (by decide) ?_
                refine y_icmp_eq (tgt := 117) dX11_goes_107 (by decide) (fun hc => ?_) (fun hc => ?_)
                · rw [if_pos hc] at hf
                  refine Y.weak (lv2 := [some (.inr (.inr (some a0))), some (.inl (x102 - 1))]) [true, true] rfl ?_
                  exact xX11_goes_117 hK ih hf
                · rw [if_neg hc] at hf
                  refine y_aload_n (i := 0) dX11_goes_110 rfl rfl ?_
                  replace hf := bnd hf
                  obtain ⟨fs129, efs129, hf⟩ := hf
                  replace hf := bnd hf
                  obtain ⟨q128, eq128, hf⟩ := hf
                  refine y_callV (mj := miX11_over) (args := []) (st := []) dX11_goes_111 (gd_of 1021 rfl rfl) (gd_of 1023 rfl rfl) (gd_of 59 rfl rfl) okX11_over (obO_spec efs129) rfl rfl (xX11_over (by omega) eq128) (Nat.le_of_ble_eq_true rfl) rfl ?_
                  show Y l g miX11_goes (d + 1) 114 [some (.inr (.inr (some a0))), some (.inl (x102 - 1))] [] q128 _
                  refine y_goto (tgt := 128) dX11_goes_114 (by decide) ?_
                  refine y_goto (tgt := 0) dX11_goes_128 (by decide) ?_
                  refine Y.weak (lv2 := [some (.inr (.inr (some a0))), none]) [true, false] rfl ?_
                  exact ih _ _ _ hf
        · rw [if_pos hc] at hf
          refine y_aload_n (i := 0) dX11_goes_55 rfl rfl ?_
          replace hf := bnd hf
          obtain ⟨fs131, efs131, hf⟩ := hf
          replace hf := bnd hf
          obtain ⟨q130, eq130, hf⟩ := hf
          refine y_callV (mj := miX11_over) (args := []) (st := []) dX11_goes_56 (gd_of 1021 rfl rfl) (gd_of 1023 rfl rfl) (gd_of 59 rfl rfl) okX11_over (obO_spec efs131) rfl rfl (xX11_over (by omega) eq130) (Nat.le_of_ble_eq_true rfl) rfl ?_
          show Y l g miX11_goes (d + 1) 59 [some (.inr (.inr (some a0))), some (.inl (x102 - 1))] [] q130 _
          refine y_goto (tgt := 128) dX11_goes_59 (by decide) ?_
          refine y_goto (tgt := 0) dX11_goes_128 (by decide) ?_
          refine Y.weak (lv2 := [some (.inr (.inr (some a0))), none]) [true, false] rfl ?_
          exact ih _ _ _ hf
      · rw [if_neg hc] at hf
        refine y_aload_n (i := 0) dX11_goes_30 rfl rfl ?_
        refine y_iload_n (i := 1) dX11_goes_31 rfl rfl ?_
        refine y_aload_n (i := 0) dX11_goes_32 rfl rfl ?_
        replace hf := bnd hf
        obtain ⟨r132, er132, hf⟩ := hf
        refine y_getR er132 fl11_75 dX11_goes_33 ?_
        refine y_iload_n (i := 1) dX11_goes_36 rfl rfl ?_
        replace hf := bnd hf
        obtain ⟨a133, rfl, hf⟩ := hf
        replace hf := bnd hf
        obtain ⟨x134, ex134, hf⟩ := hf
        refine y_iaload ex134 dX11_goes_37 ?_
        replace hf := bnd hf
        obtain ⟨fs136, efs136, hf⟩ := hf
        replace hf := bnd hf
        obtain ⟨q135, eq135, hf⟩ := hf
        refine y_callV (mj := miX11_plainly) (args := [.inl (x102 - 1), .inl x134]) (st := []) dX11_goes_38 (gd_of 1013 rfl rfl) (gd_of 1015 rfl rfl) (gd_of 57 rfl rfl) okX11_plainly (obO_spec efs136) rfl rfl (xX11_plainly (by omega) eq135) (Nat.le_of_ble_eq_true rfl) rfl ?_
        show Y l g miX11_goes (d + 1) 41 [some (.inr (.inr (some a0))), some (.inl (x102 - 1))] [] q135 _
        refine y_goto (tgt := 128) dX11_goes_41 (by decide) ?_
        refine y_goto (tgt := 0) dX11_goes_128 (by decide) ?_
        refine Y.weak (lv2 := [some (.inr (.inr (some a0))), none]) [true, false] rfl ?_
        exact ih _ _ _ hf
def fX11_goes (z : Nat → Nat) (a0 : Nat) (h : aH) : Option aH :=
  fX11_goes_0 z 4000 a0 h
set_option maxHeartbeats 4000000 in
set_option maxRecDepth 100000 in
theorem xX11_goes {l : Launch} {g : aG} {d : Nat} (hK : 4 ≤ d) {a0 : Nat} {h : aH} {q : aH} (hf : fX11_goes g.2.2 a0 h = some q) : Ev l g miX11_goes d [.inr (.inr (some a0))] h (none, q) := by
  obtain ⟨d, rfl⟩ : ∃ e, d = e + 1 := ⟨d - 1, by omega⟩
  refine ⟨?_, rfl, Nat.le_of_ble_eq_true rfl⟩
  unfold fX11_goes at hf
  show Y l g miX11_goes (d + 1) 0 [some (.inr (.inr (some a0))), none] [] h _
  refine Y.weak (lv2 := [some (.inr (.inr (some a0))), none]) [true, false] rfl ?_
  exact xX11_goes_0 hK 4000 _ _ _ hf
set_option maxRecDepth 100000 in
theorem dX11_lay_0 : decode prog_13_method_46_code 0 = .ok (.aload_n 0, 1) := by decide +kernel
set_option maxRecDepth 100000 in
theorem dX11_lay_1 : decode prog_13_method_46_code 1 = .ok (.invokevirtual 262, 3) := by decide +kernel
set_option maxRecDepth 100000 in
theorem dX11_lay_4 : decode prog_13_method_46_code 4 = .ok (.aload_n 0, 1) := by decide +kernel
set_option maxRecDepth 100000 in
theorem dX11_lay_5 : decode prog_13_method_46_code 5 = .ok (.iconst 0, 1) := by decide +kernel
set_option maxRecDepth 100000 in
theorem dX11_lay_6 : decode prog_13_method_46_code 6 = .ok (.putfield 173, 3) := by decide +kernel
set_option maxRecDepth 100000 in
theorem dX11_lay_9 : decode prog_13_method_46_code 9 = .ok (.iconst 0, 1) := by decide +kernel
set_option maxRecDepth 100000 in
theorem dX11_lay_10 : decode prog_13_method_46_code 10 = .ok (.istore_n 2, 1) := by decide +kernel
set_option maxRecDepth 100000 in
theorem dX11_lay_11 : decode prog_13_method_46_code 11 = .ok (.iload_n 2, 1) := by decide +kernel
set_option maxRecDepth 100000 in
theorem dX11_lay_12 : decode prog_13_method_46_code 12 = .ok (.aload_n 0, 1) := by decide +kernel
set_option maxRecDepth 100000 in
theorem dX11_lay_13 : decode prog_13_method_46_code 13 = .ok (.getfield 159, 3) := by decide +kernel
set_option maxRecDepth 100000 in
theorem dX11_lay_16 : decode prog_13_method_46_code 16 = .ok (.if_icmp .ge 82, 3) := by decide +kernel
set_option maxRecDepth 100000 in
theorem dX11_lay_19 : decode prog_13_method_46_code 19 = .ok (.aload_n 0, 1) := by decide +kernel
set_option maxRecDepth 100000 in
theorem dX11_lay_20 : decode prog_13_method_46_code 20 = .ok (.getfield 173, 3) := by decide +kernel
set_option maxRecDepth 100000 in
theorem dX11_lay_23 : decode prog_13_method_46_code 23 = .ok (.ifCond .ne 75, 3) := by decide +kernel
set_option maxRecDepth 100000 in
theorem dX11_lay_26 : decode prog_13_method_46_code 26 = .ok (.aload_n 0, 1) := by decide +kernel
set_option maxRecDepth 100000 in
theorem dX11_lay_27 : decode prog_13_method_46_code 27 = .ok (.getfield 20, 3) := by decide +kernel
set_option maxRecDepth 100000 in
theorem dX11_lay_30 : decode prog_13_method_46_code 30 = .ok (.bipush 6, 2) := by decide +kernel
set_option maxRecDepth 100000 in
theorem dX11_lay_32 : decode prog_13_method_46_code 32 = .ok (.iload_n 1, 1) := by decide +kernel
set_option maxRecDepth 100000 in
theorem dX11_lay_33 : decode prog_13_method_46_code 33 = .ok (.imul, 1) := by decide +kernel
set_option maxRecDepth 100000 in
theorem dX11_lay_34 : decode prog_13_method_46_code 34 = .ok (.iload_n 2, 1) := by decide +kernel
set_option maxRecDepth 100000 in
theorem dX11_lay_35 : decode prog_13_method_46_code 35 = .ok (.iadd, 1) := by decide +kernel
set_option maxRecDepth 100000 in
theorem dX11_lay_36 : decode prog_13_method_46_code 36 = .ok (.iaload, 1) := by decide +kernel
set_option maxRecDepth 100000 in
theorem dX11_lay_37 : decode prog_13_method_46_code 37 = .ok (.istore_n 3, 1) := by decide +kernel
set_option maxRecDepth 100000 in
theorem dX11_lay_38 : decode prog_13_method_46_code 38 = .ok (.aload_n 0, 1) := by decide +kernel
set_option maxRecDepth 100000 in
theorem dX11_lay_39 : decode prog_13_method_46_code 39 = .ok (.iload_n 2, 1) := by decide +kernel
set_option maxRecDepth 100000 in
theorem dX11_lay_40 : decode prog_13_method_46_code 40 = .ok (.iload_n 3, 1) := by decide +kernel
set_option maxRecDepth 100000 in
theorem dX11_lay_41 : decode prog_13_method_46_code 41 = .ok (.invokevirtual 162, 3) := by decide +kernel
set_option maxRecDepth 100000 in
theorem dX11_lay_44 : decode prog_13_method_46_code 44 = .ok (.istore 4, 2) := by decide +kernel
set_option maxRecDepth 100000 in
theorem dX11_lay_46 : decode prog_13_method_46_code 46 = .ok (.aload_n 0, 1) := by decide +kernel
set_option maxRecDepth 100000 in
theorem dX11_lay_47 : decode prog_13_method_46_code 47 = .ok (.iload 4, 2) := by decide +kernel
set_option maxRecDepth 100000 in
theorem dX11_lay_49 : decode prog_13_method_46_code 49 = .ok (.iload_n 3, 1) := by decide +kernel
set_option maxRecDepth 100000 in
theorem dX11_lay_50 : decode prog_13_method_46_code 50 = .ok (.if_icmp .eq 8, 3) := by decide +kernel
set_option maxRecDepth 100000 in
theorem dX11_lay_53 : decode prog_13_method_46_code 53 = .ok (.iload_n 3, 1) := by decide +kernel
set_option maxRecDepth 100000 in
theorem dX11_lay_54 : decode prog_13_method_46_code 54 = .ok (.iconst 2, 1) := by decide +kernel
set_option maxRecDepth 100000 in
theorem dX11_lay_55 : decode prog_13_method_46_code 55 = .ok (.if_icmp .ne 7, 3) := by decide +kernel
set_option maxRecDepth 100000 in
theorem dX11_lay_58 : decode prog_13_method_46_code 58 = .ok (.iload_n 3, 1) := by decide +kernel
set_option maxRecDepth 100000 in
theorem dX11_lay_59 : decode prog_13_method_46_code 59 = .ok (.goto 5, 3) := by decide +kernel
set_option maxRecDepth 100000 in
theorem dX11_lay_62 : decode prog_13_method_46_code 62 = .ok (.iload 4, 2) := by decide +kernel
set_option maxRecDepth 100000 in
theorem dX11_lay_64 : decode prog_13_method_46_code 64 = .ok (.iload_n 3, 1) := by decide +kernel
set_option maxRecDepth 100000 in
theorem dX11_lay_65 : decode prog_13_method_46_code 65 = .ok (.aload_n 0, 1) := by decide +kernel
set_option maxRecDepth 100000 in
theorem dX11_lay_66 : decode prog_13_method_46_code 66 = .ok (.getfield 63, 3) := by decide +kernel
set_option maxRecDepth 100000 in
theorem dX11_lay_69 : decode prog_13_method_46_code 69 = .ok (.iload_n 2, 1) := by decide +kernel
set_option maxRecDepth 100000 in
theorem dX11_lay_70 : decode prog_13_method_46_code 70 = .ok (.iaload, 1) := by decide +kernel
set_option maxRecDepth 100000 in
theorem dX11_lay_71 : decode prog_13_method_46_code 71 = .ok (.aload_n 0, 1) := by decide +kernel
set_option maxRecDepth 100000 in
theorem dX11_lay_72 : decode prog_13_method_46_code 72 = .ok (.getfield 66, 3) := by decide +kernel
set_option maxRecDepth 100000 in
theorem dX11_lay_75 : decode prog_13_method_46_code 75 = .ok (.iload_n 2, 1) := by decide +kernel
set_option maxRecDepth 100000 in
theorem dX11_lay_76 : decode prog_13_method_46_code 76 = .ok (.laload, 1) := by decide +kernel
set_option maxRecDepth 100000 in
theorem dX11_lay_77 : decode prog_13_method_46_code 77 = .ok (.invokevirtual 169, 3) := by decide +kernel
set_option maxRecDepth 100000 in
theorem dX11_lay_80 : decode prog_13_method_46_code 80 = .ok (.aload_n 0, 1) := by decide +kernel
set_option maxRecDepth 100000 in
theorem dX11_lay_81 : decode prog_13_method_46_code 81 = .ok (.aload_n 0, 1) := by decide +kernel
set_option maxRecDepth 100000 in
theorem dX11_lay_82 : decode prog_13_method_46_code 82 = .ok (.getfield 207, 3) := by decide +kernel
set_option maxRecDepth 100000 in
theorem dX11_lay_85 : decode prog_13_method_46_code 85 = .ok (.aload_n 0, 1) := by decide +kernel
set_option maxRecDepth 100000 in
theorem dX11_lay_86 : decode prog_13_method_46_code 86 = .ok (.getfield 210, 3) := by decide +kernel
set_option maxRecDepth 100000 in
theorem dX11_lay_89 : decode prog_13_method_46_code 89 = .ok (.invokevirtual 230, 3) := by decide +kernel
set_option maxRecDepth 100000 in
theorem dX11_lay_92 : decode prog_13_method_46_code 92 = .ok (.iinc 2 1, 3) := by decide +kernel
set_option maxRecDepth 100000 in
theorem dX11_lay_95 : decode prog_13_method_46_code 95 = .ok (.goto (-84), 3) := by decide +kernel
set_option maxRecDepth 100000 in
theorem dX11_lay_98 : decode prog_13_method_46_code 98 = .ok (.return_, 1) := by decide +kernel

def fX11_lay_64 (z : Nat → Nat) (K11 : Nat → Int32 → Int32 → aH → Option aH) (a0 : Nat) (x1 : Int32) (x2 : Int32) (x3 : Int32) (sr0 : Option Nat) (sx1 : Int32) (h : aH) : Option aH :=
  (rdR h a0 [9] 21).bind fun r101 =>
  (r101).bind fun a102 =>
  (arI h a102 x2).bind fun x103 =>
  (rdR h a0 [9] 22).bind fun r104 =>
  (r104).bind fun a105 =>
  (arJ h a105 x2).bind fun j106 =>
  (sr0).bind fun a108 =>
  (obO h a108 9).bind fun fs109 =>
  (fX11_adapt z a108 sx1 x3 x103 j106 h).bind fun q107 =>
  (rdI q107 a0 [9] 30).bind fun x110 =>
  (rdJ q107 a0 [9] 31).bind fun j111 =>
  (obO q107 a0 9).bind fun fs113 =>
  (fX11_add z a0 x110 j111 q107).bind fun q112 =>
  K11 a0 x1 (x2 + 1) q112
set_option maxHeartbeats 4000000 in
set_option maxRecDepth 100000 in
theorem xX11_lay_64 {l : Launch} {g : aG} {d : Nat} (hK : 2 ≤ d + 1) {K11 : Nat → Int32 → Int32 → aH → Option aH} (hK11 : ∀ (a0 : Nat) (x1 : Int32) (x2 : Int32) (h : aH) (q : aH), K11 a0 x1 x2 h = some q → Y l g miX11_lay (d + 1) 11 [some (.inr (.inr (some a0))), some (.inl x1), some (.inl x2), none, none] [] h (none, q)) {a0 : Nat} {x1 : Int32} {x2 : Int32} {x3 : Int32} {sr0 : Option Nat} {sx1 : Int32} {h : aH} {q : aH} (hf : fX11_lay_64 g.2.2 K11 a0 x1 x2 x3 sr0 sx1 h = some q) : Y l g miX11_lay (d + 1) 64 [some (.inr (.inr (some a0))), some (.inl x1), some (.inl x2), some (.inl x3), none] [.inl sx1, .inr (.inr sr0)] h (none, q) := by
  unfold fX11_lay_64 at hf
  refine y_iload_n (i := 3) dX11_lay_64 rfl rfl ?_
  refine y_aload_n (i := 0) dX11_lay_65 rfl rfl ?_
  replace hf := bnd hf
  obtain ⟨r101, er101, hf⟩ := hf
  refine y_getR er101 fl11_63 dX11_lay_66 ?_
  refine y_iload_n (i := 2) dX11_lay_69 rfl rfl ?_
  replace hf := bnd hf
  obtain ⟨a102, rfl, hf⟩ := hf
  replace hf := bnd hf
  obtain ⟨x103, ex103, hf⟩ := hf
  refine y_iaload ex103 dX11_lay_70 ?_
  refine y_aload_n (i := 0) dX11_lay_71 rfl rfl ?_
  replace hf := bnd hf
  obtain ⟨r104, er104, hf⟩ := hf
  refine y_getR er104 fl11_66 dX11_lay_72 ?_
  refine y_iload_n (i := 2) dX11_lay_75 rfl rfl ?_
  replace hf := bnd hf
  obtain ⟨a105, rfl, hf⟩ := hf
  replace hf := bnd hf
  obtain ⟨j106, ej106, hf⟩ := hf
  refine y_laload ej106 dX11_lay_76 ?_
  replace hf := bnd hf
  obtain ⟨a108, rfl, hf⟩ := hf
  replace hf := bnd hf
  obtain ⟨fs109, efs109, hf⟩ := hf
  replace hf := bnd hf
  obtain ⟨q107, eq107, hf⟩ := hf
  refine y_callV (mj := miX11_adapt) (args := [.inl sx1, .inl x3, .inl x103, .inr (.inl j106)]) (st := []) dX11_lay_77 (gd_of 936 rfl rfl) (gd_of 938 rfl rfl) (gd_of 44 rfl rfl) okX11_adapt (obO_spec efs109) rfl rfl (xX11_adapt (by omega) eq107) (Nat.le_of_ble_eq_true rfl) rfl ?_
  show Y l g miX11_lay (d + 1) 80 [some (.inr (.inr (some a0))), some (.inl x1), some (.inl x2), some (.inl x3), none] [] q107 _
  refine y_aload_n (i := 0) dX11_lay_80 rfl rfl ?_
  refine y_aload_n (i := 0) dX11_lay_81 rfl rfl ?_
  replace hf := bnd hf
  obtain ⟨x110, ex110, hf⟩ := hf
  refine y_getI ex110 fl11_207 dX11_lay_82 ?_
  refine y_aload_n (i := 0) dX11_lay_85 rfl rfl ?_
  replace hf := bnd hf
  obtain ⟨j111, ej111, hf⟩ := hf
  refine y_getJ ej111 fl11_210 dX11_lay_86 ?_
  replace hf := bnd hf
  obtain ⟨fs113, efs113, hf⟩ := hf
  replace hf := bnd hf
  obtain ⟨q112, eq112, hf⟩ := hf
  refine y_callV (mj := miX11_add) (args := [.inl x110, .inr (.inl j111)]) (st := []) dX11_lay_89 (gd_of 1001 rfl rfl) (gd_of 1003 rfl rfl) (gd_of 54 rfl rfl) okX11_add (obO_spec efs113) rfl rfl (xX11_add (by omega) eq112) (Nat.le_of_ble_eq_true rfl) rfl ?_
  show Y l g miX11_lay (d + 1) 92 [some (.inr (.inr (some a0))), some (.inl x1), some (.inl x2), some (.inl x3), none] [] q112 _
  refine y_iinc (i := 2) (y := 1) (lv2 := [some (.inr (.inr (some a0))), some (.inl x1), some (.inl (x2 + 1)), some (.inl x3), none]) dX11_lay_92 rfl (by decide) (by decide) rfl ?_
  refine y_goto (tgt := 11) dX11_lay_95 (by decide) ?_
  refine Y.weak (lv2 := [some (.inr (.inr (some a0))), some (.inl x1), some (.inl (x2 + 1)), none, none]) [true, true, true, false, false] rfl ?_
  exact hK11 _ _ _ _ _ hf
def fX11_lay_58 (z : Nat → Nat) (K11 : Nat → Int32 → Int32 → aH → Option aH) (a0 : Nat) (x1 : Int32) (x2 : Int32) (x3 : Int32) (sr0 : Option Nat) (h : aH) : Option aH :=
  fX11_lay_64 z K11 a0 x1 x2 x3 sr0 x3 h
set_option maxHeartbeats 4000000 in
set_option maxRecDepth 100000 in
theorem xX11_lay_58 {l : Launch} {g : aG} {d : Nat} (hK : 2 ≤ d + 1) {K11 : Nat → Int32 → Int32 → aH → Option aH} (hK11 : ∀ (a0 : Nat) (x1 : Int32) (x2 : Int32) (h : aH) (q : aH), K11 a0 x1 x2 h = some q → Y l g miX11_lay (d + 1) 11 [some (.inr (.inr (some a0))), some (.inl x1), some (.inl x2), none, none] [] h (none, q)) {a0 : Nat} {x1 : Int32} {x2 : Int32} {x3 : Int32} {sr0 : Option Nat} {h : aH} {q : aH} (hf : fX11_lay_58 g.2.2 K11 a0 x1 x2 x3 sr0 h = some q) : Y l g miX11_lay (d + 1) 58 [some (.inr (.inr (some a0))), some (.inl x1), some (.inl x2), some (.inl x3), none] [.inr (.inr sr0)] h (none, q) := by
  unfold fX11_lay_58 at hf
  refine y_iload_n (i := 3) dX11_lay_58 rfl rfl ?_
  refine y_goto (tgt := 64) dX11_lay_59 (by decide) ?_
  refine Y.weak (lv2 := [some (.inr (.inr (some a0))), some (.inl x1), some (.inl x2), some (.inl x3), none]) [true, true, true, true, false] rfl ?_
  exact xX11_lay_64 hK hK11 hf
def fX11_lay_11 (z : Nat → Nat) : Nat → Nat → Int32 → Int32 → aH → Option aH
  | 0, _, _, _, _ => none
  | n + 1, a0, x1, x2, h => (rdI h a0 [9] 20).bind fun x101 =>
  (if x101 ≤ x2 then
  some h
  else
  (rdI h a0 [9] 29).bind fun x102 =>
  (if x102 = 0 then
  (rdR h a0 [9] 4).bind fun r103 =>
  (r103).bind fun a104 =>
  (arI h a104 ((6 * x1) + x2)).bind fun x105 =>
  (obO h a0 9).bind fun fs107 =>
  (fX11_typeOfValue z a0 x2 x105 h).bind fun q106 =>
  (if q106.1 = x105 then
  fX11_lay_58 z (fX11_lay_11 z n) a0 x1 x2 x105 (some a0) q106.2
  else
  (if x105 = 2 then
  fX11_lay_58 z (fX11_lay_11 z n) a0 x1 x2 x105 (some a0) q106.2
  else
  fX11_lay_64 z (fX11_lay_11 z n) a0 x1 x2 x105 (some a0) q106.1 q106.2))
  else
  some h))
set_option maxHeartbeats 4000000 in
set_option maxRecDepth 100000 in
theorem xX11_lay_11 {l : Launch} {g : aG} {d : Nat} (hK : 2 ≤ d + 1) : ∀ (n : Nat) (a0 : Nat) (x1 : Int32) (x2 : Int32) (h : aH) (q : aH), fX11_lay_11 g.2.2 n a0 x1 x2 h = some q → Y l g miX11_lay (d + 1) 11 [some (.inr (.inr (some a0))), some (.inl x1), some (.inl x2), none, none] [] h (none, q) := by
  intro n
  induction n with
  | zero => intro a0 x1 x2 h q hf; simp [fX11_lay_11] at hf
  | succ n ih =>
    intro a0 x1 x2 h q hf
    rw [fX11_lay_11] at hf
    refine y_iload_n (i := 2) dX11_lay_11 rfl rfl ?_
    refine y_aload_n (i := 0) dX11_lay_12 rfl rfl ?_
    replace hf := bnd hf
    obtain ⟨x101, ex101, hf⟩ := hf
    refine y_getI ex101 fl11_159 dX11_lay_13 ?_
    refine y_icmp_ge (tgt := 98) dX11_lay_16 (by decide) (fun hc => ?_) (fun hc => ?_)
    · rw [if_pos hc] at hf
      obtain rfl := Option.some.inj hf
      exact y_ret (v := none) dX11_lay_98 rfl
    · rw [if_neg hc] at hf
      refine y_aload_n (i := 0) dX11_lay_19 rfl rfl ?_
      replace hf := bnd hf
      obtain ⟨x102, ex102, hf⟩ := hf
      refine y_getI ex102 fl11_173 dX11_lay_20 ?_
      refine y_if_ne (tgt := 98) dX11_lay_23 (by decide) (fun hc => ?_) (fun hc => ?_)
      · rw [if_neg hc] at hf
        obtain rfl := Option.some.inj hf
        exact y_ret (v := none) dX11_lay_98 rfl
      · rw [if_pos hc] at hf
        refine y_aload_n (i := 0) dX11_lay_26 rfl rfl ?_
        replace hf := bnd hf
        obtain ⟨r103, er103, hf⟩ := hf
        refine y_getR er103 fl11_20 dX11_lay_27 ?_
        refine y_bipush (v := 6) dX11_lay_30 (by decide) ?_
        refine y_iload_n (i := 1) dX11_lay_32 rfl rfl ?_
        refine y_imul dX11_lay_33 ?_
        refine y_iload_n (i := 2) dX11_lay_34 rfl rfl ?_
        refine y_iadd dX11_lay_35 ?_
        replace hf := bnd hf
        obtain ⟨a104, rfl, hf⟩ := hf
        replace hf := bnd hf
        obtain ⟨x105, ex105, hf⟩ := hf
        refine y_iaload ex105 dX11_lay_36 ?_
        refine y_istore_n (i := 3) (lv2 := [some (.inr (.inr (some a0))), some (.inl x1), some (.inl x2), some (.inl x105), none]) dX11_lay_37 rfl (by decide) rfl ?_
        refine y_aload_n (i := 0) dX11_lay_38 rfl rfl ?_
        refine y_iload_n (i := 2) dX11_lay_39 rfl rfl ?_
        refine y_iload_n (i := 3) dX11_lay_40 rfl rfl ?_
        replace hf := bnd hf
        obtain ⟨fs107, efs107, hf⟩ := hf
        replace hf := bnd hf
        obtain ⟨q106, eq106, hf⟩ := hf
        refine y_callV (mj := miX11_typeOfValue) (args := [.inl x2, .inl x105]) (st := []) dX11_lay_41 (gd_of 929 rfl rfl) (gd_of 931 rfl rfl) (gd_of 43 rfl rfl) okX11_typeOfValue (obO_spec efs107) rfl rfl (xX11_typeOfValue (by omega) eq106) (Nat.le_of_ble_eq_true rfl) rfl ?_
        show Y l g miX11_lay (d + 1) 44 [some (.inr (.inr (some a0))), some (.inl x1), some (.inl x2), some (.inl x105), none] [.inl q106.1] q106.2 _
        refine y_istore (i := 4) (lv2 := [some (.inr (.inr (some a0))), some (.inl x1), some (.inl x2), some (.inl x105), some (.inl q106.1)]) dX11_lay_44 (by decide) rfl ?_
        refine y_aload_n (i := 0) dX11_lay_46 rfl rfl ?_
        refine y_iload (i := 4) dX11_lay_47 rfl ?_
        refine y_iload_n (i := 3) dX11_lay_49 rfl rfl ?_
        refine y_icmp_eq (tgt := 58) dX11_lay_50 (by decide) (fun hc => ?_) (fun hc => ?_)
        · rw [if_pos hc] at hf
          refine Y.weak (lv2 := [some (.inr (.inr (some a0))), some (.inl x1), some (.inl x2), some (.inl x105), none]) [true, true, true, true, false] rfl ?_
          exact xX11_lay_58 hK ih hf
        · rw [if_neg hc] at hf
          refine y_iload_n (i := 3) dX11_lay_53 rfl rfl ?_
          refine y_iconst (v := 2) dX11_lay_54 (by decide) ?_
          refine y_icmp_ne (tgt := 62) dX11_lay_55 (by decide) (fun hc => ?_) (fun hc => ?_)
          · rw [if_neg hc] at hf
            refine y_iload (i := 4) dX11_lay_62 rfl ?_
            refine Y.weak (lv2 := [some (.inr (.inr (some a0))), some (.inl x1), some (.inl x2), some (.inl x105), none]) [true, true, true, true, false] rfl ?_
            exact xX11_lay_64 hK ih hf
          · rw [if_pos hc] at hf
            refine Y.weak (lv2 := [some (.inr (.inr (some a0))), some (.inl x1), some (.inl x2), some (.inl x105), none]) [true, true, true, true, false] rfl ?_
            exact xX11_lay_58 hK ih hf
def fX11_lay (z : Nat → Nat) (a0 : Nat) (x1 : Int32) (h : aH) : Option aH :=
  (obO h a0 9).bind fun fs102 =>
  (fX11_begin z a0 h).bind fun q101 =>
  (wrF q101 a0 [9] 29 (.inl 0)).bind fun h103 =>
  fX11_lay_11 z 4000 a0 x1 0 h103
set_option maxHeartbeats 4000000 in
set_option maxRecDepth 100000 in
theorem xX11_lay {l : Launch} {g : aG} {d : Nat} (hK : 2 ≤ d) {a0 : Nat} {x1 : Int32} {h : aH} {q : aH} (hf : fX11_lay g.2.2 a0 x1 h = some q) : Ev l g miX11_lay d [.inr (.inr (some a0)), .inl x1] h (none, q) := by
  obtain ⟨d, rfl⟩ : ∃ e, d = e + 1 := ⟨d - 1, by omega⟩
  refine ⟨?_, rfl, Nat.le_of_ble_eq_true rfl⟩
  unfold fX11_lay at hf
  show Y l g miX11_lay (d + 1) 0 [some (.inr (.inr (some a0))), some (.inl x1), none, none, none] [] h _
  refine y_aload_n (i := 0) dX11_lay_0 rfl rfl ?_
  replace hf := bnd hf
  obtain ⟨fs102, efs102, hf⟩ := hf
  replace hf := bnd hf
  obtain ⟨q101, eq101, hf⟩ := hf
  refine y_callV (mj := miX11_begin) (args := []) (st := []) dX11_lay_1 (gd_of 997 rfl rfl) (gd_of 999 rfl rfl) (gd_of 53 rfl rfl) okX11_begin (obO_spec efs102) rfl rfl (xX11_begin (by omega) eq101) (Nat.le_of_ble_eq_true rfl) rfl ?_
  show Y l g miX11_lay (d + 1) 4 [some (.inr (.inr (some a0))), some (.inl x1), none, none, none] [] q101 _
  refine y_aload_n (i := 0) dX11_lay_4 rfl rfl ?_
  refine y_iconst (v := 0) dX11_lay_5 (by decide) ?_
  replace hf := bnd hf
  obtain ⟨h103, eh103, hf⟩ := hf
  refine y_put eh103 (pl11_173_m rfl) dX11_lay_6 ?_
  refine y_iconst (v := 0) dX11_lay_9 (by decide) ?_
  refine y_istore_n (i := 2) (lv2 := [some (.inr (.inr (some a0))), some (.inl x1), some (.inl 0), none, none]) dX11_lay_10 rfl (by decide) rfl ?_
  refine Y.weak (lv2 := [some (.inr (.inr (some a0))), some (.inl x1), some (.inl 0), none, none]) [true, true, true, false, false] rfl ?_
  exact xX11_lay_11 hK 4000 _ _ _ _ _ hf
