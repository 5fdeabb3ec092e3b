set_option maxRecDepth 100000 in
theorem dX11_calls_0 : decode prog_13_method_32_code 0 = .ok (.aload_n 0, 1) := by decide +kernel
set_option maxRecDepth 100000 in
theorem dX11_calls_1 : decode prog_13_method_32_code 1 = .ok (.getfield 233, 3) := by decide +kernel
set_option maxRecDepth 100000 in
theorem dX11_calls_4 : decode prog_13_method_32_code 4 = .ok (.bipush 80, 2) := by decide +kernel
set_option maxRecDepth 100000 in
theorem dX11_calls_6 : decode prog_13_method_32_code 6 = .ok (.if_icmp .ne 15, 3) := by decide +kernel
set_option maxRecDepth 100000 in
theorem dX11_calls_9 : decode prog_13_method_32_code 9 = .ok (.aload_n 0, 1) := by decide +kernel
set_option maxRecDepth 100000 in
theorem dX11_calls_10 : decode prog_13_method_32_code 10 = .ok (.bipush 9, 2) := by decide +kernel
set_option maxRecDepth 100000 in
theorem dX11_calls_12 : decode prog_13_method_32_code 12 = .ok (.putfield 173, 3) := by decide +kernel
set_option maxRecDepth 100000 in
theorem dX11_calls_15 : decode prog_13_method_32_code 15 = .ok (.aload_n 0, 1) := by decide +kernel
set_option maxRecDepth 100000 in
theorem dX11_calls_16 : decode prog_13_method_32_code 16 = .ok (.iconst 1, 1) := by decide +kernel
set_option maxRecDepth 100000 in
theorem dX11_calls_17 : decode prog_13_method_32_code 17 = .ok (.putfield 236, 3) := by decide +kernel
set_option maxRecDepth 100000 in
theorem dX11_calls_20 : decode prog_13_method_32_code 20 = .ok (.return_, 1) := by decide +kernel
set_option maxRecDepth 100000 in
theorem dX11_calls_21 : decode prog_13_method_32_code 21 = .ok (.aload_n 0, 1) := by decide +kernel
set_option maxRecDepth 100000 in
theorem dX11_calls_22 : decode prog_13_method_32_code 22 = .ok (.dup, 1) := by decide +kernel
set_option maxRecDepth 100000 in
theorem dX11_calls_23 : decode prog_13_method_32_code 23 = .ok (.getfield 233, 3) := by decide +kernel
set_option maxRecDepth 100000 in
theorem dX11_calls_26 : decode prog_13_method_32_code 26 = .ok (.iconst 1, 1) := by decide +kernel
set_option maxRecDepth 100000 in
theorem dX11_calls_27 : decode prog_13_method_32_code 27 = .ok (.iadd, 1) := by decide +kernel
set_option maxRecDepth 100000 in
theorem dX11_calls_28 : decode prog_13_method_32_code 28 = .ok (.putfield 233, 3) := by decide +kernel
set_option maxRecDepth 100000 in
theorem dX11_calls_31 : decode prog_13_method_32_code 31 = .ok (.aload_n 0, 1) := by decide +kernel
set_option maxRecDepth 100000 in
theorem dX11_calls_32 : decode prog_13_method_32_code 32 = .ok (.getfield 75, 3) := by decide +kernel
set_option maxRecDepth 100000 in
theorem dX11_calls_35 : decode prog_13_method_32_code 35 = .ok (.aload_n 0, 1) := by decide +kernel
set_option maxRecDepth 100000 in
theorem dX11_calls_36 : decode prog_13_method_32_code 36 = .ok (.getfield 240, 3) := by decide +kernel
set_option maxRecDepth 100000 in
theorem dX11_calls_39 : decode prog_13_method_32_code 39 = .ok (.iload_n 1, 1) := by decide +kernel
set_option maxRecDepth 100000 in
theorem dX11_calls_40 : decode prog_13_method_32_code 40 = .ok (.iastore, 1) := by decide +kernel
set_option maxRecDepth 100000 in
theorem dX11_calls_41 : decode prog_13_method_32_code 41 = .ok (.aload_n 0, 1) := by decide +kernel
set_option maxRecDepth 100000 in
theorem dX11_calls_42 : decode prog_13_method_32_code 42 = .ok (.getfield 78, 3) := by decide +kernel
set_option maxRecDepth 100000 in
theorem dX11_calls_45 : decode prog_13_method_32_code 45 = .ok (.aload_n 0, 1) := by decide +kernel
set_option maxRecDepth 100000 in
theorem dX11_calls_46 : decode prog_13_method_32_code 46 = .ok (.getfield 240, 3) := by decide +kernel
set_option maxRecDepth 100000 in
theorem dX11_calls_49 : decode prog_13_method_32_code 49 = .ok (.iconst 0, 1) := by decide +kernel
set_option maxRecDepth 100000 in
theorem dX11_calls_50 : decode prog_13_method_32_code 50 = .ok (.iastore, 1) := by decide +kernel
set_option maxRecDepth 100000 in
theorem dX11_calls_51 : decode prog_13_method_32_code 51 = .ok (.iconst 0, 1) := by decide +kernel
set_option maxRecDepth 100000 in
theorem dX11_calls_52 : decode prog_13_method_32_code 52 = .ok (.istore_n 2, 1) := by decide +kernel
set_option maxRecDepth 100000 in
theorem dX11_calls_53 : decode prog_13_method_32_code 53 = .ok (.iload_n 2, 1) := by decide +kernel
set_option maxRecDepth 100000 in
theorem dX11_calls_54 : decode prog_13_method_32_code 54 = .ok (.aload_n 0, 1) := by decide +kernel
set_option maxRecDepth 100000 in
theorem dX11_calls_55 : decode prog_13_method_32_code 55 = .ok (.getfield 227, 3) := by decide +kernel
set_option maxRecDepth 100000 in
theorem dX11_calls_58 : decode prog_13_method_32_code 58 = .ok (.if_icmp .ge 49, 3) := by decide +kernel
set_option maxRecDepth 100000 in
theorem dX11_calls_61 : decode prog_13_method_32_code 61 = .ok (.aload_n 0, 1) := by decide +kernel
set_option maxRecDepth 100000 in
theorem dX11_calls_62 : decode prog_13_method_32_code 62 = .ok (.getfield 81, 3) := by decide +kernel
set_option maxRecDepth 100000 in
theorem dX11_calls_65 : decode prog_13_method_32_code 65 = .ok (.bipush 7, 2) := by decide +kernel
set_option maxRecDepth 100000 in
theorem dX11_calls_67 : decode prog_13_method_32_code 67 = .ok (.aload_n 0, 1) := by decide +kernel
set_option maxRecDepth 100000 in
theorem dX11_calls_68 : decode prog_13_method_32_code 68 = .ok (.getfield 240, 3) := by decide +kernel
set_option maxRecDepth 100000 in
theorem dX11_calls_71 : decode prog_13_method_32_code 71 = .ok (.imul, 1) := by decide +kernel
set_option maxRecDepth 100000 in
theorem dX11_calls_72 : decode prog_13_method_32_code 72 = .ok (.iload_n 2, 1) := by decide +kernel
set_option maxRecDepth 100000 in
theorem dX11_calls_73 : decode prog_13_method_32_code 73 = .ok (.iadd, 1) := by decide +kernel
set_option maxRecDepth 100000 in
theorem dX11_calls_74 : decode prog_13_method_32_code 74 = .ok (.aload_n 0, 1) := by decide +kernel
set_option maxRecDepth 100000 in
theorem dX11_calls_75 : decode prog_13_method_32_code 75 = .ok (.getfield 102, 3) := by decide +kernel
set_option maxRecDepth 100000 in
theorem dX11_calls_78 : decode prog_13_method_32_code 78 = .ok (.iload_n 2, 1) := by decide +kernel
set_option maxRecDepth 100000 in
theorem dX11_calls_79 : decode prog_13_method_32_code 79 = .ok (.iaload, 1) := by decide +kernel
set_option maxRecDepth 100000 in
theorem dX11_calls_80 : decode prog_13_method_32_code 80 = .ok (.iastore, 1) := by decide +kernel
set_option maxRecDepth 100000 in
theorem dX11_calls_81 : decode prog_13_method_32_code 81 = .ok (.aload_n 0, 1) := by decide +kernel
set_option maxRecDepth 100000 in
theorem dX11_calls_82 : decode prog_13_method_32_code 82 = .ok (.getfield 84, 3) := by decide +kernel
set_option maxRecDepth 100000 in
theorem dX11_calls_85 : decode prog_13_method_32_code 85 = .ok (.bipush 7, 2) := by decide +kernel
set_option maxRecDepth 100000 in
theorem dX11_calls_87 : decode prog_13_method_32_code 87 = .ok (.aload_n 0, 1) := by decide +kernel
set_option maxRecDepth 100000 in
theorem dX11_calls_88 : decode prog_13_method_32_code 88 = .ok (.getfield 240, 3) := by decide +kernel
set_option maxRecDepth 100000 in
theorem dX11_calls_91 : decode prog_13_method_32_code 91 = .ok (.imul, 1) := by decide +kernel
set_option maxRecDepth 100000 in
theorem dX11_calls_92 : decode prog_13_method_32_code 92 = .ok (.iload_n 2, 1) := by decide +kernel
set_option maxRecDepth 100000 in
theorem dX11_calls_93 : decode prog_13_method_32_code 93 = .ok (.iadd, 1) := by decide +kernel
set_option maxRecDepth 100000 in
theorem dX11_calls_94 : decode prog_13_method_32_code 94 = .ok (.aload_n 0, 1) := by decide +kernel
set_option maxRecDepth 100000 in
theorem dX11_calls_95 : decode prog_13_method_32_code 95 = .ok (.getfield 105, 3) := by decide +kernel
set_option maxRecDepth 100000 in
theorem dX11_calls_98 : decode prog_13_method_32_code 98 = .ok (.iload_n 2, 1) := by decide +kernel
set_option maxRecDepth 100000 in
theorem dX11_calls_99 : decode prog_13_method_32_code 99 = .ok (.laload, 1) := by decide +kernel
set_option maxRecDepth 100000 in
theorem dX11_calls_100 : decode prog_13_method_32_code 100 = .ok (.lastore, 1) := by decide +kernel
set_option maxRecDepth 100000 in
theorem dX11_calls_101 : decode prog_13_method_32_code 101 = .ok (.iinc 2 1, 3) := by decide +kernel
set_option maxRecDepth 100000 in
theorem dX11_calls_104 : decode prog_13_method_32_code 104 = .ok (.goto (-51), 3) := by decide +kernel
set_option maxRecDepth 100000 in
theorem dX11_calls_107 : decode prog_13_method_32_code 107 = .ok (.aload_n 0, 1) := by decide +kernel
set_option maxRecDepth 100000 in
theorem dX11_calls_108 : decode prog_13_method_32_code 108 = .ok (.dup, 1) := by decide +kernel
set_option maxRecDepth 100000 in
theorem dX11_calls_109 : decode prog_13_method_32_code 109 = .ok (.getfield 240, 3) := by decide +kernel
set_option maxRecDepth 100000 in
theorem dX11_calls_112 : decode prog_13_method_32_code 112 = .ok (.iconst 1, 1) := by decide +kernel
set_option maxRecDepth 100000 in
theorem dX11_calls_113 : decode prog_13_method_32_code 113 = .ok (.iadd, 1) := by decide +kernel
set_option maxRecDepth 100000 in
theorem dX11_calls_114 : decode prog_13_method_32_code 114 = .ok (.putfield 240, 3) := by decide +kernel
set_option maxRecDepth 100000 in
theorem dX11_calls_117 : decode prog_13_method_32_code 117 = .ok (.aload_n 0, 1) := by decide +kernel
set_option maxRecDepth 100000 in
theorem dX11_calls_118 : decode prog_13_method_32_code 118 = .ok (.iconst 0, 1) := by decide +kernel
set_option maxRecDepth 100000 in
theorem dX11_calls_119 : decode prog_13_method_32_code 119 = .ok (.putfield 236, 3) := by decide +kernel
set_option maxRecDepth 100000 in
theorem dX11_calls_122 : decode prog_13_method_32_code 122 = .ok (.return_, 1) := by decide +kernel
set_option maxRecDepth 100000 in
theorem fl11_227 : ∀ c ∈ ([9] : List Nat), FL "HandleModelsModel" 227 c 46 := fun c hc => by
  cases List.mem_singleton.mp hc
  exact ⟨_, "HandleModelsModel", rfl, by decide, (gd_of 774 rfl rfl), Or.inl rfl⟩
set_option maxRecDepth 100000 in
theorem fl11_240 : ∀ c ∈ ([9] : List Nat), FL "HandleModelsModel" 240 c 33 := fun c hc => by
  cases List.mem_singleton.mp hc
  exact ⟨_, "HandleModelsModel", rfl, by decide, (gd_of 761 rfl rfl), Or.inl rfl⟩
set_option maxRecDepth 100000 in
theorem pl11_240_m {mi : aM} {x : Int32} (ho : "HandleModelsModel" = mi.1.cls) : ∀ c ∈ ([9] : List Nat), FL mi.1.cls 240 c 33 ∧ FT c 33 (.inl x) ∧ FW mi c 33 := fun c h9 => by
  have h8 := fl11_240 c h9
  rw [← ho]
  refine ⟨h8, ?_⟩
  simp only [List.mem_cons, List.not_mem_nil, or_false] at h9
  rcases h9 with rfl
  · exact ⟨ft_int rfl (by decide +kernel), ⟨_, rfl, Or.inl rfl⟩⟩
set_option maxRecDepth 100000 in
theorem fl11_236 : ∀ c ∈ ([9] : List Nat), FL "HandleModelsModel" 236 c 34 := fun c hc => by
  cases List.mem_singleton.mp hc
  exact ⟨_, "HandleModelsModel", rfl, by decide, (gd_of 762 rfl rfl), Or.inl rfl⟩
set_option maxRecDepth 100000 in
theorem pl11_236_m {mi : aM} {x : Int32} (hx : x = 0 ∨ x = 1) (ho : "HandleModelsModel" = mi.1.cls) : ∀ c ∈ ([9] : List Nat), FL mi.1.cls 236 c 34 ∧ FT c 34 (.inl x) ∧ FW mi c 34 := fun c h9 => by
  have h8 := fl11_236 c h9
  rw [← ho]
  refine ⟨h8, ?_⟩
  simp only [List.mem_cons, List.not_mem_nil, or_false] at h9
  rcases h9 with rfl
  · exact ⟨ft_bool rfl hx (by decide +kernel), ⟨_, rfl, Or.inl rfl⟩⟩
set_option maxRecDepth 100000 in
theorem fl11_233 : ∀ c ∈ ([9] : List Nat), FL "HandleModelsModel" 233 c 32 := fun c hc => by
  cases List.mem_singleton.mp hc
  exact ⟨_, "HandleModelsModel", rfl, by decide, (gd_of 760 rfl rfl), Or.inl rfl⟩
set_option maxRecDepth 100000 in
theorem pl11_233_m {mi : aM} {x : Int32} (ho : "HandleModelsModel" = mi.1.cls) : ∀ c ∈ ([9] : List Nat), FL mi.1.cls 233 c 32 ∧ FT c 32 (.inl x) ∧ FW mi c 32 := fun c h9 => by
  have h8 := fl11_233 c h9
  rw [← ho]
  refine ⟨h8, ?_⟩
  simp only [List.mem_cons, List.not_mem_nil, or_false] at h9
  rcases h9 with rfl
  · exact ⟨ft_int rfl (by decide +kernel), ⟨_, rfl, Or.inl rfl⟩⟩
def fX11_calls_53 (z : Nat → Nat) : Nat → Nat → Int32 → aH → Option aH
  | 0, _, _, _ => none
  | n + 1, a0, x2, h => (rdI h a0 [9] 46).bind fun x101 =>
  (if x101 ≤ x2 then
  (rdI h a0 [9] 33).bind fun x102 =>
  (wrF h a0 [9] 33 (.inl (x102 + 1))).bind fun h103 =>
  (wrF h103 a0 [9] 34 (.inl 0)).bind fun h104 =>
  some h104
  else
  (rdR h a0 [9] 37).bind fun r105 =>
  (rdI h a0 [9] 33).bind fun x106 =>
  (rdR h a0 [9] 44).bind fun r107 =>
  (r107).bind fun a108 =>
  (arI h a108 x2).bind fun x109 =>
  (r105).bind fun a110 =>
  (awI h a110 ((7 * x106) + x2) x109).bind fun h111 =>
  (rdR h111 a0 [9] 38).bind fun r112 =>
  (rdI h111 a0 [9] 33).bind fun x113 =>
  (rdR h111 a0 [9] 45).bind fun r114 =>
  (r114).bind fun a115 =>
  (arJ h111 a115 x2).bind fun j116 =>
  (r112).bind fun a117 =>
  (awJ h111 a117 ((7 * x113) + x2) j116).bind fun h118 =>
  fX11_calls_53 z n a0 (x2 + 1) h118)
set_option maxHeartbeats 4000000 in
set_option maxRecDepth 100000 in
theorem xX11_calls_53 {l : Launch} {g : aG} {d : Nat} (hK : 0 ≤ d) : ∀ (n : Nat) (a0 : Nat) (x2 : Int32) (h : aH) (q : aH), fX11_calls_53 g.2.2 n a0 x2 h = some q → Y l g miX11_calls d 53 [some (.inr (.inr (some a0))), none, some (.inl x2)] [] h (none, q) := by
  intro n
  induction n with
  | zero => intro a0 x2 h q hf; simp [fX11_calls_53] at hf
  | succ n ih =>
    intro a0 x2 h q hf
    rw [fX11_calls_53] at hf
    refine y_iload_n (i := 2) dX11_calls_53 rfl rfl ?_
    refine y_aload_n (i := 0) dX11_calls_54 rfl rfl ?_
    replace hf := bnd hf
    obtain ⟨x101, ex101, hf⟩ := hf
    refine y_getI ex101 fl11_227 dX11_calls_55 ?_
    refine y_icmp_ge (tgt := 107) dX11_calls_58 (by decide) (fun hc => ?_) (fun hc => ?_)
    · rw [if_pos hc] at hf
      refine y_aload_n (i := 0) dX11_calls_107 rfl rfl ?_
      refine y_dup dX11_calls_108 rfl ?_
      replace hf := bnd hf
      obtain ⟨x102, ex102, hf⟩ := hf
      refine y_getI ex102 fl11_240 dX11_calls_109 ?_
      refine y_iconst (v := 1) dX11_calls_112 (by decide) ?_
      refine y_iadd dX11_calls_113 ?_
      replace hf := bnd hf
      obtain ⟨h103, eh103, hf⟩ := hf
      refine y_put eh103 (pl11_240_m rfl) dX11_calls_114 ?_
      refine y_aload_n (i := 0) dX11_calls_117 rfl rfl ?_
      refine y_iconst (v := 0) dX11_calls_118 (by decide) ?_
      replace hf := bnd hf
      obtain ⟨h104, eh104, hf⟩ := hf
      refine y_put eh104 (pl11_236_m (by decide) rfl) dX11_calls_119 ?_
      obtain rfl := Option.some.inj hf
      exact y_ret (v := none) dX11_calls_122 rfl
    · rw [if_neg hc] at hf
      refine y_aload_n (i := 0) dX11_calls_61 rfl rfl ?_
      replace hf := bnd hf
      obtain ⟨r105, er105, hf⟩ := hf
      refine y_getR er105 fl11_81 dX11_calls_62 ?_
      refine y_bipush (v := 7) dX11_calls_65 (by decide) ?_
      refine y_aload_n (i := 0) dX11_calls_67 rfl rfl ?_
      replace hf := bnd hf
      obtain ⟨x106, ex106, hf⟩ := hf
      refine y_getI ex106 fl11_240 dX11_calls_68 ?_
      refine y_imul dX11_calls_71 ?_
      refine y_iload_n (i := 2) dX11_calls_72 rfl rfl ?_
      refine y_iadd dX11_calls_73 ?_
      refine y_aload_n (i := 0) dX11_calls_74 rfl rfl ?_
      replace hf := bnd hf
      obtain ⟨r107, er107, hf⟩ := hf
      refine y_getR er107 fl11_102 dX11_calls_75 ?_
      refine y_iload_n (i := 2) dX11_calls_78 rfl rfl ?_
      replace hf := bnd hf
      obtain ⟨a108, rfl, hf⟩ := hf
      replace hf := bnd hf
      obtain ⟨x109, ex109, hf⟩ := hf
      refine y_iaload ex109 dX11_calls_79 ?_
      replace hf := bnd hf
      obtain ⟨a110, rfl, hf⟩ := hf
      replace hf := bnd hf
      obtain ⟨h111, eh111, hf⟩ := hf
      refine y_iastore eh111 dX11_calls_80 ?_
      refine y_aload_n (i := 0) dX11_calls_81 rfl rfl ?_
      replace hf := bnd hf
      obtain ⟨r112, er112, hf⟩ := hf
      refine y_getR er112 fl11_84 dX11_calls_82 ?_
      refine y_bipush (v := 7) dX11_calls_85 (by decide) ?_
      refine y_aload_n (i := 0) dX11_calls_87 rfl rfl ?_
      replace hf := bnd hf
      obtain ⟨x113, ex113, hf⟩ := hf
      refine y_getI ex113 fl11_240 dX11_calls_88 ?_
      refine y_imul dX11_calls_91 ?_
      refine y_iload_n (i := 2) dX11_calls_92 rfl rfl ?_
      refine y_iadd dX11_calls_93 ?_
      refine y_aload_n (i := 0) dX11_calls_94 rfl rfl ?_
      replace hf := bnd hf
      obtain ⟨r114, er114, hf⟩ := hf
      refine y_getR er114 fl11_105 dX11_calls_95 ?_
      refine y_iload_n (i := 2) dX11_calls_98 rfl rfl ?_
      replace hf := bnd hf
      obtain ⟨a115, rfl, hf⟩ := hf
      replace hf := bnd hf
      obtain ⟨j116, ej116, hf⟩ := hf
      refine y_laload ej116 dX11_calls_99 ?_
      replace hf := bnd hf
      obtain ⟨a117, rfl, hf⟩ := hf
      replace hf := bnd hf
      obtain ⟨h118, eh118, hf⟩ := hf
      refine y_lastore eh118 dX11_calls_100 ?_
      refine y_iinc (i := 2) (y := 1) (lv2 := [some (.inr (.inr (some a0))), none, some (.inl (x2 + 1))]) dX11_calls_101 rfl (by decide) (by decide) rfl ?_
      refine y_goto (tgt := 53) dX11_calls_104 (by decide) ?_
      refine Y.weak (lv2 := [some (.inr (.inr (some a0))), none, some (.inl (x2 + 1))]) [true, false, true] rfl ?_
      exact ih _ _ _ _ hf
def fX11_calls (z : Nat → Nat) (a0 : Nat) (x1 : Int32) (h : aH) : Option aH :=
  (rdI h a0 [9] 32).bind fun x101 =>
  (if x101 = 80 then
  (wrF h a0 [9] 29 (.inl 9)).bind fun h112 =>
  (wrF h112 a0 [9] 34 (.inl 1)).bind fun h113 =>
  some h113
  else
  (rdI h a0 [9] 32).bind fun x102 =>
  (wrF h a0 [9] 32 (.inl (x102 + 1))).bind fun h103 =>
  (rdR h103 a0 [9] 35).bind fun r104 =>
  (rdI h103 a0 [9] 33).bind fun x105 =>
  (r104).bind fun a106 =>
  (awI h103 a106 x105 x1).bind fun h107 =>
  (rdR h107 a0 [9] 36).bind fun r108 =>
  (rdI h107 a0 [9] 33).bind fun x109 =>
  (r108).bind fun a110 =>
  (awI h107 a110 x109 0).bind fun h111 =>
  fX11_calls_53 z 4000 a0 0 h111)
set_option maxHeartbeats 4000000 in
set_option maxRecDepth 100000 in
theorem xX11_calls {l : Launch} {g : aG} {d : Nat} (hK : 0 ≤ d) {a0 : Nat} {x1 : Int32} {h : aH} {q : aH} (hf : fX11_calls g.2.2 a0 x1 h = some q) : Ev l g miX11_calls d [.inr (.inr (some a0)), .inl x1] h (none, q) := by
  refine ⟨?_, rfl, Nat.le_of_ble_eq_true rfl⟩
  unfold fX11_calls at hf
  show Y l g miX11_calls d 0 [some (.inr (.inr (some a0))), some (.inl x1), none] [] h _
  refine y_aload_n (i := 0) dX11_calls_0 rfl rfl ?_
  replace hf := bnd hf
  obtain ⟨x101, ex101, hf⟩ := hf
  refine y_getI ex101 fl11_233 dX11_calls_1 ?_
  refine y_bipush (v := 80) dX11_calls_4 (by decide) ?_
  refine y_icmp_ne (tgt := 21) dX11_calls_6 (by decide) (fun hc => ?_) (fun hc => ?_)
  · rw [if_neg hc] at hf
    refine y_aload_n (i := 0) dX11_calls_21 rfl rfl ?_
    refine y_dup dX11_calls_22 rfl ?_
    replace hf := bnd hf
    obtain ⟨x102, ex102, hf⟩ := hf
    refine y_getI ex102 fl11_233 dX11_calls_23 ?_
    refine y_iconst (v := 1) dX11_calls_26 (by decide) ?_
    refine y_iadd dX11_calls_27 ?_
    replace hf := bnd hf
    obtain ⟨h103, eh103, hf⟩ := hf
    refine y_put eh103 (pl11_233_m rfl) dX11_calls_28 ?_
    refine y_aload_n (i := 0) dX11_calls_31 rfl rfl ?_
    replace hf := bnd hf
    obtain ⟨r104, er104, hf⟩ := hf
    refine y_getR er104 fl11_75 dX11_calls_32 ?_
    refine y_aload_n (i := 0) dX11_calls_35 rfl rfl ?_
    replace hf := bnd hf
    obtain ⟨x105, ex105, hf⟩ := hf
    refine y_getI ex105 fl11_240 dX11_calls_36 ?_
    refine y_iload_n (i := 1) dX11_calls_39 rfl rfl ?_
    replace hf := bnd hf
    obtain ⟨a106, rfl, hf⟩ := hf
    replace hf := bnd hf
    obtain ⟨h107, eh107, hf⟩ := hf
    refine y_iastore eh107 dX11_calls_40 ?_
    refine y_aload_n (i := 0) dX11_calls_41 rfl rfl ?_
    replace hf := bnd hf
    obtain ⟨r108, er108, hf⟩ := hf
    refine y_getR er108 fl11_78 dX11_calls_42 ?_
    refine y_aload_n (i := 0) dX11_calls_45 rfl rfl ?_
    replace hf := bnd hf
    obtain ⟨x109, ex109, hf⟩ := hf
    refine y_getI ex109 fl11_240 dX11_calls_46 ?_
    refine y_iconst (v := 0) dX11_calls_49 (by decide) ?_
    replace hf := bnd hf
    obtain ⟨a110, rfl, hf⟩ := hf
    replace hf := bnd hf
    obtain ⟨h111, eh111, hf⟩ := hf
    refine y_iastore eh111 dX11_calls_50 ?_
    refine y_iconst (v := 0) dX11_calls_51 (by decide) ?_
    refine y_istore_n (i := 2) (lv2 := [some (.inr (.inr (some a0))), some (.inl x1), some (.inl 0)]) dX11_calls_52 rfl (by decide) rfl ?_
    refine Y.weak (lv2 := [some (.inr (.inr (some a0))), none, some (.inl 0)]) [true, false, true] rfl ?_
    exact xX11_calls_53 hK 4000 _ _ _ _ hf
  · rw [if_pos hc] at hf
    refine y_aload_n (i := 0) dX11_calls_9 rfl rfl ?_
    refine y_bipush (v := 9) dX11_calls_10 (by decide) ?_
    replace hf := bnd hf
    obtain ⟨h112, eh112, hf⟩ := hf
    refine y_put eh112 (pl11_173_m rfl) dX11_calls_12 ?_
    refine y_aload_n (i := 0) dX11_calls_15 rfl rfl ?_
    refine y_iconst (v := 1) dX11_calls_16 (by decide) ?_
    replace hf := bnd hf
    obtain ⟨h113, eh113, hf⟩ := hf
    refine y_put eh113 (pl11_236_m (by decide) rfl) dX11_calls_17 ?_
    obtain rfl := Option.some.inj hf
    exact y_ret (v := none) dX11_calls_20 rfl
set_option maxRecDepth 100000 in
theorem dX11_add_0 : decode prog_13_method_30_code 0 = .ok (.aload_n 0, 1) := by decide +kernel
set_option maxRecDepth 100000 in
theorem dX11_add_1 : decode prog_13_method_30_code 1 = .ok (.getfield 102, 3) := by decide +kernel
set_option maxRecDepth 100000 in
theorem dX11_add_4 : decode prog_13_method_30_code 4 = .ok (.aload_n 0, 1) := by decide +kernel
set_option maxRecDepth 100000 in
theorem dX11_add_5 : decode prog_13_method_30_code 5 = .ok (.getfield 227, 3) := by decide +kernel
set_option maxRecDepth 100000 in
theorem dX11_add_8 : decode prog_13_method_30_code 8 = .ok (.iload_n 1, 1) := by decide +kernel
set_option maxRecDepth 100000 in
theorem dX11_add_9 : decode prog_13_method_30_code 9 = .ok (.iastore, 1) := by decide +kernel
set_option maxRecDepth 100000 in
theorem dX11_add_10 : decode prog_13_method_30_code 10 = .ok (.aload_n 0, 1) := by decide +kernel
set_option maxRecDepth 100000 in
theorem dX11_add_11 : decode prog_13_method_30_code 11 = .ok (.getfield 105, 3) := by decide +kernel
set_option maxRecDepth 100000 in
theorem dX11_add_14 : decode prog_13_method_30_code 14 = .ok (.aload_n 0, 1) := by decide +kernel
set_option maxRecDepth 100000 in
theorem dX11_add_15 : decode prog_13_method_30_code 15 = .ok (.getfield 227, 3) := by decide +kernel
set_option maxRecDepth 100000 in
theorem dX11_add_18 : decode prog_13_method_30_code 18 = .ok (.lload_n 2, 1) := by decide +kernel
set_option maxRecDepth 100000 in
theorem dX11_add_19 : decode prog_13_method_30_code 19 = .ok (.lastore, 1) := by decide +kernel
set_option maxRecDepth 100000 in
theorem dX11_add_20 : decode prog_13_method_30_code 20 = .ok (.aload_n 0, 1) := by decide +kernel
set_option maxRecDepth 100000 in
theorem dX11_add_21 : decode prog_13_method_30_code 21 = .ok (.dup, 1) := by decide +kernel
set_option maxRecDepth 100000 in
theorem dX11_add_22 : decode prog_13_method_30_code 22 = .ok (.getfield 227, 3) := by decide +kernel
set_option maxRecDepth 100000 in
theorem dX11_add_25 : decode prog_13_method_30_code 25 = .ok (.iconst 1, 1) := by decide +kernel
set_option maxRecDepth 100000 in
theorem dX11_add_26 : decode prog_13_method_30_code 26 = .ok (.iadd, 1) := by decide +kernel
set_option maxRecDepth 100000 in
theorem dX11_add_27 : decode prog_13_method_30_code 27 = .ok (.putfield 227, 3) := by decide +kernel
set_option maxRecDepth 100000 in
theorem dX11_add_30 : decode prog_13_method_30_code 30 = .ok (.return_, 1) := by decide +kernel
set_option maxRecDepth 100000 in
theorem pl11_227_m {mi : aM} {x : Int32} (ho : "HandleModelsModel" = mi.1.cls) : ∀ c ∈ ([9] : List Nat), FL mi.1.cls 227 c 46 ∧ FT c 46 (.inl x) ∧ FW mi c 46 := fun c h9 => by
  have h8 := fl11_227 c h9
  rw [← ho]
  refine ⟨h8, ?_⟩
  simp only [List.mem_cons, List.not_mem_nil, or_false] at h9
  rcases h9 with rfl
  · exact ⟨ft_int rfl (by decide +kernel), ⟨_, rfl, Or.inl rfl⟩⟩
def fX11_add (z : Nat → Nat) (a0 : Nat) (x1 : Int32) (j2 : Int64) (h : aH) : Option aH :=
  (rdR h a0 [9] 44).bind fun r101 =>
  (rdI h a0 [9] 46).bind fun x102 =>
  (r101).bind fun a103 =>
  (awI h a103 x102 x1).bind fun h104 =>
  (rdR h104 a0 [9] 45).bind fun r105 =>
  (rdI h104 a0 [9] 46).bind fun x106 =>
  (r105).bind fun a107 =>
  (awJ h104 a107 x106 j2).bind fun h108 =>
  (rdI h108 a0 [9] 46).bind fun x109 =>
  (wrF h108 a0 [9] 46 (.inl (x109 + 1))).bind fun h110 =>
  some h110
set_option maxHeartbeats 4000000 in
set_option maxRecDepth 100000 in
theorem xX11_add {l : Launch} {g : aG} {d : Nat} (hK : 0 ≤ d) {a0 : Nat} {x1 : Int32} {j2 : Int64} {h : aH} {q : aH} (hf : fX11_add g.2.2 a0 x1 j2 h = some q) : Ev l g miX11_add d [.inr (.inr (some a0)), .inl x1, .inr (.inl j2)] h (none, q) := by
  refine ⟨?_, rfl, Nat.le_of_ble_eq_true rfl⟩
  unfold fX11_add at hf
  show Y l g miX11_add d 0 [some (.inr (.inr (some a0))), some (.inl x1), some (.inr (.inl j2)), none] [] h _
  refine y_aload_n (i := 0) dX11_add_0 rfl rfl ?_
  replace hf := bnd hf
  obtain ⟨r101, er101, hf⟩ := hf
  refine y_getR er101 fl11_102 dX11_add_1 ?_
  refine y_aload_n (i := 0) dX11_add_4 rfl rfl ?_
  replace hf := bnd hf
  obtain ⟨x102, ex102, hf⟩ := hf
  refine y_getI ex102 fl11_227 dX11_add_5 ?_
  refine y_iload_n (i := 1) dX11_add_8 rfl rfl ?_
  replace hf := bnd hf
  obtain ⟨a103, rfl, hf⟩ := hf
  replace hf := bnd hf
  obtain ⟨h104, eh104, hf⟩ := hf
  refine y_iastore eh104 dX11_add_9 ?_
  refine y_aload_n (i := 0) dX11_add_10 rfl rfl ?_
  replace hf := bnd hf
  obtain ⟨r105, er105, hf⟩ := hf
  refine y_getR er105 fl11_105 dX11_add_11 ?_
  refine y_aload_n (i := 0) dX11_add_14 rfl rfl ?_
  replace hf := bnd hf
  obtain ⟨x106, ex106, hf⟩ := hf
  refine y_getI ex106 fl11_227 dX11_add_15 ?_
  refine y_lload_n (i := 2) dX11_add_18 rfl rfl ?_
  replace hf := bnd hf
  obtain ⟨a107, rfl, hf⟩ := hf
  replace hf := bnd hf
  obtain ⟨h108, eh108, hf⟩ := hf
  refine y_lastore eh108 dX11_add_19 ?_
  refine y_aload_n (i := 0) dX11_add_20 rfl rfl ?_
  refine y_dup dX11_add_21 rfl ?_
  replace hf := bnd hf
  obtain ⟨x109, ex109, hf⟩ := hf
  refine y_getI ex109 fl11_227 dX11_add_22 ?_
  refine y_iconst (v := 1) dX11_add_25 (by decide) ?_
  refine y_iadd dX11_add_26 ?_
  replace hf := bnd hf
  obtain ⟨h110, eh110, hf⟩ := hf
  refine y_put eh110 (pl11_227_m rfl) dX11_add_27 ?_
  obtain rfl := Option.some.inj hf
  exact y_ret (v := none) dX11_add_30 rfl
set_option maxRecDepth 100000 in
theorem dX11_over_0 : decode prog_13_method_33_code 0 = .ok (.aload_n 0, 1) := by decide +kernel
set_option maxRecDepth 100000 in
theorem dX11_over_1 : decode prog_13_method_33_code 1 = .ok (.dup, 1) := by decide +kernel
set_option maxRecDepth 100000 in
theorem dX11_over_2 : decode prog_13_method_33_code 2 = .ok (.getfield 240, 3) := by decide +kernel
set_option maxRecDepth 100000 in
theorem dX11_over_5 : decode prog_13_method_33_code 5 = .ok (.iconst 1, 1) := by decide +kernel
set_option maxRecDepth 100000 in
theorem dX11_over_6 : decode prog_13_method_33_code 6 = .ok (.isub, 1) := by decide +kernel
set_option maxRecDepth 100000 in
theorem dX11_over_7 : decode prog_13_method_33_code 7 = .ok (.putfield 240, 3) := by decide +kernel
set_option maxRecDepth 100000 in
theorem dX11_over_10 : decode prog_13_method_33_code 10 = .ok (.aload_n 0, 1) := by decide +kernel
set_option maxRecDepth 100000 in
theorem dX11_over_11 : decode prog_13_method_33_code 11 = .ok (.iconst 1, 1) := by decide +kernel
set_option maxRecDepth 100000 in
theorem dX11_over_12 : decode prog_13_method_33_code 12 = .ok (.putfield 236, 3) := by decide +kernel
set_option maxRecDepth 100000 in
theorem dX11_over_15 : decode prog_13_method_33_code 15 = .ok (.return_, 1) := by decide +kernel

def fX11_over (z : Nat → Nat) (a0 : Nat) (h : aH) : Option aH :=
  (rdI h a0 [9] 33).bind fun x101 =>
  (wrF h a0 [9] 33 (.inl (x101 - 1))).bind fun h102 =>
  (wrF h102 a0 [9] 34 (.inl 1)).bind fun h103 =>
  some h103
set_option maxHeartbeats 4000000 in
set_option maxRecDepth 100000 in
theorem xX11_over {l : Launch} {g : aG} {d : Nat} (hK : 0 ≤ d) {a0 : Nat} {h : aH} {q : aH} (hf : fX11_over g.2.2 a0 h = some q) : Ev l g miX11_over d [.inr (.inr (some a0))] h (none, q) := by
  refine ⟨?_, rfl, Nat.le_of_ble_eq_true rfl⟩
  unfold fX11_over at hf
  show Y l g miX11_over d 0 [some (.inr (.inr (some a0)))] [] h _
  refine y_aload_n (i := 0) dX11_over_0 rfl rfl ?_
  refine y_dup dX11_over_1 rfl ?_
  replace hf := bnd hf
  obtain ⟨x101, ex101, hf⟩ := hf
  refine y_getI ex101 fl11_240 dX11_over_2 ?_
  refine y_iconst (v := 1) dX11_over_5 (by decide) ?_
  refine y_isub dX11_over_6 ?_
  replace hf := bnd hf
  obtain ⟨h102, eh102, hf⟩ := hf
  refine y_put eh102 (pl11_240_m rfl) dX11_over_7 ?_
  refine y_aload_n (i := 0) dX11_over_10 rfl rfl ?_
  refine y_iconst (v := 1) dX11_over_11 (by decide) ?_
  replace hf := bnd hf
  obtain ⟨h103, eh103, hf⟩ := hf
  refine y_put eh103 (pl11_236_m (by decide) rfl) dX11_over_12 ?_
  obtain rfl := Option.some.inj hf
  exact y_ret (v := none) dX11_over_15 rfl
set_option maxRecDepth 100000 in
theorem dX11_adapts_0 : decode prog_13_method_44_code 0 = .ok (.iload_n 2, 1) := by decide +kernel
set_option maxRecDepth 100000 in
theorem dX11_adapts_1 : decode prog_13_method_44_code 1 = .ok (.ifCond .le 33, 3) := by decide +kernel
set_option maxRecDepth 100000 in
theorem dX11_adapts_4 : decode prog_13_method_44_code 4 = .ok (.aload_n 0, 1) := by decide +kernel
set_option maxRecDepth 100000 in
theorem dX11_adapts_5 : decode prog_13_method_44_code 5 = .ok (.aload_n 0, 1) := by decide +kernel
set_option maxRecDepth 100000 in
theorem dX11_adapts_6 : decode prog_13_method_44_code 6 = .ok (.getfield 23, 3) := by decide +kernel
set_option maxRecDepth 100000 in
theorem dX11_adapts_9 : decode prog_13_method_44_code 9 = .ok (.iload 4, 2) := by decide +kernel
set_option maxRecDepth 100000 in
theorem dX11_adapts_11 : decode prog_13_method_44_code 11 = .ok (.iaload, 1) := by decide +kernel
set_option maxRecDepth 100000 in
theorem dX11_adapts_12 : decode prog_13_method_44_code 12 = .ok (.aload_n 0, 1) := by decide +kernel
set_option maxRecDepth 100000 in
theorem dX11_adapts_13 : decode prog_13_method_44_code 13 = .ok (.getfield 23, 3) := by decide +kernel
set_option maxRecDepth 100000 in
theorem dX11_adapts_16 : decode prog_13_method_44_code 16 = .ok (.iload_n 3, 1) := by decide +kernel
set_option maxRecDepth 100000 in
theorem dX11_adapts_17 : decode prog_13_method_44_code 17 = .ok (.iaload, 1) := by decide +kernel
set_option maxRecDepth 100000 in
theorem dX11_adapts_18 : decode prog_13_method_44_code 18 = .ok (.aload_n 0, 1) := by decide +kernel
set_option maxRecDepth 100000 in
theorem dX11_adapts_19 : decode prog_13_method_44_code 19 = .ok (.getfield 207, 3) := by decide +kernel
set_option maxRecDepth 100000 in
theorem dX11_adapts_22 : decode prog_13_method_44_code 22 = .ok (.aload_n 0, 1) := by decide +kernel
set_option maxRecDepth 100000 in
theorem dX11_adapts_23 : decode prog_13_method_44_code 23 = .ok (.getfield 210, 3) := by decide +kernel
set_option maxRecDepth 100000 in
theorem dX11_adapts_26 : decode prog_13_method_44_code 26 = .ok (.invokevirtual 169, 3) := by decide +kernel
set_option maxRecDepth 100000 in
theorem dX11_adapts_29 : decode prog_13_method_44_code 29 = .ok (.aload_n 0, 1) := by decide +kernel
set_option maxRecDepth 100000 in
theorem dX11_adapts_30 : decode prog_13_method_44_code 30 = .ok (.invokevirtual 243, 3) := by decide +kernel
set_option maxRecDepth 100000 in
theorem dX11_adapts_33 : decode prog_13_method_44_code 33 = .ok (.return_, 1) := by decide +kernel
set_option maxRecDepth 100000 in
theorem dX11_adapts_34 : decode prog_13_method_44_code 34 = .ok (.aload_n 0, 1) := by decide +kernel
set_option maxRecDepth 100000 in
theorem dX11_adapts_35 : decode prog_13_method_44_code 35 = .ok (.iconst 0, 1) := by decide +kernel
set_option maxRecDepth 100000 in
theorem dX11_adapts_36 : decode prog_13_method_44_code 36 = .ok (.putfield 173, 3) := by decide +kernel
set_option maxRecDepth 100000 in
theorem dX11_adapts_39 : decode prog_13_method_44_code 39 = .ok (.iconst 0, 1) := by decide +kernel
set_option maxRecDepth 100000 in
theorem dX11_adapts_40 : decode prog_13_method_44_code 40 = .ok (.istore 6, 2) := by decide +kernel
set_option maxRecDepth 100000 in
theorem dX11_adapts_42 : decode prog_13_method_44_code 42 = .ok (.iload 6, 2) := by decide +kernel
set_option maxRecDepth 100000 in
theorem dX11_adapts_44 : decode prog_13_method_44_code 44 = .ok (.iload 5, 2) := by decide +kernel
set_option maxRecDepth 100000 in
theorem dX11_adapts_46 : decode prog_13_method_44_code 46 = .ok (.if_icmp .ge 81, 3) := by decide +kernel
set_option maxRecDepth 100000 in
theorem dX11_adapts_49 : decode prog_13_method_44_code 49 = .ok (.aload_n 0, 1) := by decide +kernel
set_option maxRecDepth 100000 in
theorem dX11_adapts_50 : decode prog_13_method_44_code 50 = .ok (.getfield 173, 3) := by decide +kernel
set_option maxRecDepth 100000 in
theorem dX11_adapts_53 : decode prog_13_method_44_code 53 = .ok (.ifCond .ne 74, 3) := by decide +kernel
set_option maxRecDepth 100000 in
theorem dX11_adapts_56 : decode prog_13_method_44_code 56 = .ok (.aload_n 0, 1) := by decide +kernel
set_option maxRecDepth 100000 in
theorem dX11_adapts_57 : decode prog_13_method_44_code 57 = .ok (.aload_n 0, 1) := by decide +kernel
set_option maxRecDepth 100000 in
theorem dX11_adapts_58 : decode prog_13_method_44_code 58 = .ok (.getfield 20, 3) := by decide +kernel
set_option maxRecDepth 100000 in
theorem dX11_adapts_61 : decode prog_13_method_44_code 61 = .ok (.bipush 6, 2) := by decide +kernel
set_option maxRecDepth 100000 in
theorem dX11_adapts_63 : decode prog_13_method_44_code 63 = .ok (.iload_n 3, 1) := by decide +kernel
set_option maxRecDepth 100000 in
theorem dX11_adapts_64 : decode prog_13_method_44_code 64 = .ok (.imul, 1) := by decide +kernel
set_option maxRecDepth 100000 in
theorem dX11_adapts_65 : decode prog_13_method_44_code 65 = .ok (.iload 6, 2) := by decide +kernel
set_option maxRecDepth 100000 in
theorem dX11_adapts_67 : decode prog_13_method_44_code 67 = .ok (.iadd, 1) := by decide +kernel
set_option maxRecDepth 100000 in
theorem dX11_adapts_68 : decode prog_13_method_44_code 68 = .ok (.iaload, 1) := by decide +kernel
set_option maxRecDepth 100000 in
theorem dX11_adapts_69 : decode prog_13_method_44_code 69 = .ok (.aload_n 0, 1) := by decide +kernel
set_option maxRecDepth 100000 in
theorem dX11_adapts_70 : decode prog_13_method_44_code 70 = .ok (.getfield 20, 3) := by decide +kernel
set_option maxRecDepth 100000 in
theorem dX11_adapts_73 : decode prog_13_method_44_code 73 = .ok (.bipush 6, 2) := by decide +kernel
set_option maxRecDepth 100000 in
theorem dX11_adapts_75 : decode prog_13_method_44_code 75 = .ok (.iload 4, 2) := by decide +kernel
set_option maxRecDepth 100000 in
theorem dX11_adapts_77 : decode prog_13_method_44_code 77 = .ok (.imul, 1) := by decide +kernel
set_option maxRecDepth 100000 in
theorem dX11_adapts_78 : decode prog_13_method_44_code 78 = .ok (.iload 6, 2) := by decide +kernel
set_option maxRecDepth 100000 in
theorem dX11_adapts_80 : decode prog_13_method_44_code 80 = .ok (.iadd, 1) := by decide +kernel
set_option maxRecDepth 100000 in
theorem dX11_adapts_81 : decode prog_13_method_44_code 81 = .ok (.iaload, 1) := by decide +kernel
set_option maxRecDepth 100000 in
theorem dX11_adapts_82 : decode prog_13_method_44_code 82 = .ok (.aload_n 0, 1) := by decide +kernel
set_option maxRecDepth 100000 in
theorem dX11_adapts_83 : decode prog_13_method_44_code 83 = .ok (.getfield 81, 3) := by decide +kernel
set_option maxRecDepth 100000 in
theorem dX11_adapts_86 : decode prog_13_method_44_code 86 = .ok (.bipush 7, 2) := by decide +kernel
set_option maxRecDepth 100000 in
theorem dX11_adapts_88 : decode prog_13_method_44_code 88 = .ok (.iload_n 1, 1) := by decide +kernel
set_option maxRecDepth 100000 in
theorem dX11_adapts_89 : decode prog_13_method_44_code 89 = .ok (.imul, 1) := by decide +kernel
set_option maxRecDepth 100000 in
theorem dX11_adapts_90 : decode prog_13_method_44_code 90 = .ok (.iload 6, 2) := by decide +kernel
set_option maxRecDepth 100000 in
theorem dX11_adapts_92 : decode prog_13_method_44_code 92 = .ok (.iadd, 1) := by decide +kernel
set_option maxRecDepth 100000 in
theorem dX11_adapts_93 : decode prog_13_method_44_code 93 = .ok (.iaload, 1) := by decide +kernel
set_option maxRecDepth 100000 in
theorem dX11_adapts_94 : decode prog_13_method_44_code 94 = .ok (.aload_n 0, 1) := by decide +kernel
set_option maxRecDepth 100000 in
theorem dX11_adapts_95 : decode prog_13_method_44_code 95 = .ok (.getfield 84, 3) := by decide +kernel
set_option maxRecDepth 100000 in
theorem dX11_adapts_98 : decode prog_13_method_44_code 98 = .ok (.bipush 7, 2) := by decide +kernel
set_option maxRecDepth 100000 in
theorem dX11_adapts_100 : decode prog_13_method_44_code 100 = .ok (.iload_n 1, 1) := by decide +kernel
set_option maxRecDepth 100000 in
theorem dX11_adapts_101 : decode prog_13_method_44_code 101 = .ok (.imul, 1) := by decide +kernel
set_option maxRecDepth 100000 in
theorem dX11_adapts_102 : decode prog_13_method_44_code 102 = .ok (.iload 6, 2) := by decide +kernel
set_option maxRecDepth 100000 in
theorem dX11_adapts_104 : decode prog_13_method_44_code 104 = .ok (.iadd, 1) := by decide +kernel
set_option maxRecDepth 100000 in
theorem dX11_adapts_105 : decode prog_13_method_44_code 105 = .ok (.laload, 1) := by decide +kernel
set_option maxRecDepth 100000 in
theorem dX11_adapts_106 : decode prog_13_method_44_code 106 = .ok (.invokevirtual 169, 3) := by decide +kernel
set_option maxRecDepth 100000 in
theorem dX11_adapts_109 : decode prog_13_method_44_code 109 = .ok (.aload_n 0, 1) := by decide +kernel
set_option maxRecDepth 100000 in
theorem dX11_adapts_110 : decode prog_13_method_44_code 110 = .ok (.aload_n 0, 1) := by decide +kernel
set_option maxRecDepth 100000 in
theorem dX11_adapts_111 : decode prog_13_method_44_code 111 = .ok (.getfield 207, 3) := by decide +kernel
set_option maxRecDepth 100000 in
theorem dX11_adapts_114 : decode prog_13_method_44_code 114 = .ok (.aload_n 0, 1) := by decide +kernel
set_option maxRecDepth 100000 in
theorem dX11_adapts_115 : decode prog_13_method_44_code 115 = .ok (.getfield 210, 3) := by decide +kernel
set_option maxRecDepth 100000 in
theorem dX11_adapts_118 : decode prog_13_method_44_code 118 = .ok (.invokevirtual 230, 3) := by decide +kernel
set_option maxRecDepth 100000 in
theorem dX11_adapts_121 : decode prog_13_method_44_code 121 = .ok (.iinc 6 1, 3) := by decide +kernel
set_option maxRecDepth 100000 in
theorem dX11_adapts_124 : decode prog_13_method_44_code 124 = .ok (.goto (-82), 3) := by decide +kernel
set_option maxRecDepth 100000 in
theorem dX11_adapts_127 : decode prog_13_method_44_code 127 = .ok (.aload_n 0, 1) := by decide +kernel
set_option maxRecDepth 100000 in
theorem dX11_adapts_128 : decode prog_13_method_44_code 128 = .ok (.getfield 173, 3) := by decide +kernel
set_option maxRecDepth 100000 in
theorem dX11_adapts_131 : decode prog_13_method_44_code 131 = .ok (.ifCond .le 10, 3) := by decide +kernel
set_option maxRecDepth 100000 in
theorem dX11_adapts_134 : decode prog_13_method_44_code 134 = .ok (.aload_n 0, 1) := by decide +kernel
set_option maxRecDepth 100000 in
theorem dX11_adapts_135 : decode prog_13_method_44_code 135 = .ok (.invokevirtual 243, 3) := by decide +kernel
set_option maxRecDepth 100000 in
theorem dX11_adapts_138 : decode prog_13_method_44_code 138 = .ok (.goto 9, 3) := by decide +kernel
set_option maxRecDepth 100000 in
theorem dX11_adapts_141 : decode prog_13_method_44_code 141 = .ok (.aload_n 0, 1) := by decide +kernel
set_option maxRecDepth 100000 in
theorem dX11_adapts_142 : decode prog_13_method_44_code 142 = .ok (.iload 4, 2) := by decide +kernel
set_option maxRecDepth 100000 in
theorem dX11_adapts_144 : decode prog_13_method_44_code 144 = .ok (.invokevirtual 259, 3) := by decide +kernel
set_option maxRecDepth 100000 in
theorem dX11_adapts_147 : decode prog_13_method_44_code 147 = .ok (.return_, 1) := by decide +kernel
set_option maxRecDepth 100000 in
theorem okX11_calls : mOk miX11_calls 1 := ⟨(gd_of 1008 rfl rfl), (gd_of 76 rfl rfl), by decide +kernel, ⟨by decide +kernel, by decide +kernel, by decide +kernel⟩, by decide⟩
set_option maxRecDepth 100000 in
theorem okX11_over : mOk miX11_over 0 := ⟨(gd_of 1024 rfl rfl), (gd_of 76 rfl rfl), by decide +kernel, ⟨by decide +kernel, by decide +kernel, by decide +kernel⟩, by decide⟩
set_option maxRecDepth 100000 in
theorem okX11_add : mOk miX11_add 2 := ⟨(gd_of 1004 rfl rfl), (gd_of 76 rfl rfl), by decide +kernel, ⟨by decide +kernel, by decide +kernel, by decide +kernel⟩, by decide⟩
def fX11_adapts_127 (z : Nat → Nat) (a0 : Nat) (x4 : Int32) (h : aH) : Option aH :=
  (rdI h a0 [9] 29).bind fun x101 =>
  (if x101 ≤ 0 then
  (obO h a0 9).bind fun fs103 =>
  (fX11_calls z a0 x4 h).bind fun q102 =>
  some q102
  else
  (obO h a0 9).bind fun fs105 =>
  (fX11_over z a0 h).bind fun q104 =>
  some q104)
set_option maxHeartbeats 4000000 in
set_option maxRecDepth 100000 in
theorem xX11_adapts_127 {l : Launch} {g : aG} {d : Nat} (hK : 2 ≤ d + 1) {a0 : Nat} {x4 : Int32} {h : aH} {q : aH} (hf : fX11_adapts_127 g.2.2 a0 x4 h = some q) : Y l g miX11_adapts (d + 1) 127 [some (.inr (.inr (some a0))), none, none, none, some (.inl x4), none, none] [] h (none, q) := by
  unfold fX11_adapts_127 at hf
  refine y_aload_n (i := 0) dX11_adapts_127 rfl rfl ?_
  replace hf := bnd hf
  obtain ⟨x101, ex101, hf⟩ := hf
  refine y_getI ex101 fl11_173 dX11_adapts_128 ?_
  refine y_if_le (tgt := 141) dX11_adapts_131 (by decide) (fun hc => ?_) (fun hc => ?_)
  · rw [if_pos hc] at hf
    refine y_aload_n (i := 0) dX11_adapts_141 rfl rfl ?_
    refine y_iload (i := 4) dX11_adapts_142 rfl ?_
    replace hf := bnd hf
    obtain ⟨fs103, efs103, hf⟩ := hf
    replace hf := bnd hf
    obtain ⟨q102, eq102, hf⟩ := hf
    refine y_callV (mj := miX11_calls) (args := [.inl x4]) (st := []) dX11_adapts_144 (gd_of 1005 rfl rfl) (gd_of 1007 rfl rfl) (gd_of 55 rfl rfl) okX11_calls (obO_spec efs103) rfl rfl (xX11_calls (by omega) eq102) (Nat.le_of_ble_eq_true rfl) rfl ?_
    show Y l g miX11_adapts (d + 1) 147 [some (.inr (.inr (some a0))), none, none, none, some (.inl x4), none, none] [] q102 _
    obtain rfl := Option.some.inj hf
    exact y_ret (v := none) dX11_adapts_147 rfl
  · rw [if_neg hc] at hf
    refine y_aload_n (i := 0) dX11_adapts_134 rfl rfl ?_
    replace hf := bnd hf
    obtain ⟨fs105, efs105, hf⟩ := hf
    replace hf := bnd hf
    obtain ⟨q104, eq104, hf⟩ := hf
    refine y_callV (mj := miX11_over) (args := []) (st := []) dX11_adapts_135 (gd_of 1021 rfl rfl) (gd_of 1023 rfl rfl) (gd_of 59 rfl rfl) okX11_over (obO_spec efs105) rfl rfl (xX11_over (by omega) eq104) (Nat.le_of_ble_eq_true rfl) rfl ?_
    show Y l g miX11_adapts (d + 1) 138 [some (.inr (.inr (some a0))), none, none, none, some (.inl x4), none, none] [] q104 _
    refine y_goto (tgt := 147) dX11_adapts_138 (by decide) ?_
    obtain rfl := Option.some.inj hf
    exact y_ret (v := none) dX11_adapts_147 rfl
def fX11_adapts_42 (z : Nat → Nat) : Nat → Nat → Int32 → Int32 → Int32 → Int32 → Int32 → aH → Option aH
  | 0, _, _, _, _, _, _, _ => none
  | n + 1, a0, x1, x3, x4, x5, x6, h => (if x5 ≤ x6 then
  fX11_adapts_127 z a0 x4 h
  else
  (rdI h a0 [9] 29).bind fun x101 =>
  (if x101 = 0 then
  (rdR h a0 [9] 4).bind fun r102 =>
  (r102).bind fun a103 =>
  (arI h a103 ((6 * x3) + x6)).bind fun x104 =>
  (rdR h a0 [9] 4).bind fun r105 =>
  (r105).bind fun a106 =>
  (arI h a106 ((6 * x4) + x6)).bind fun x107 =>
  (rdR h a0 [9] 37).bind fun r108 =>
  (r108).bind fun a109 =>
  (arI h a109 ((7 * x1) + x6)).bind fun x110 =>
  (rdR h a0 [9] 38).bind fun r111 =>
  (r111).bind fun a112 =>
  (arJ h a112 ((7 * x1) + x6)).bind fun j113 =>
  (obO h a0 9).bind fun fs115 =>
  (fX11_adapt z a0 x104 x107 x110 j113 h).bind fun q114 =>
  (rdI q114 a0 [9] 30).bind fun x116 =>
  (rdJ q114 a0 [9] 31).bind fun j117 =>
  (obO q114 a0 9).bind fun fs119 =>
  (fX11_add z a0 x116 j117 q114).bind fun q118 =>
  fX11_adapts_42 z n a0 x1 x3 x4 x5 (x6 + 1) q118
  else
  fX11_adapts_127 z a0 x4 h))
set_option maxHeartbeats 4000000 in
set_option maxRecDepth 100000 in
theorem xX11_adapts_42 {l : Launch} {g : aG} {d : Nat} (hK : 2 ≤ d + 1) : ∀ (n : Nat) (a0 : Nat) (x1 : Int32) (x3 : Int32) (x4 : Int32) (x5 : Int32) (x6 : Int32) (h : aH) (q : aH), fX11_adapts_42 g.2.2 n a0 x1 x3 x4 x5 x6 h = some q → Y l g miX11_adapts (d + 1) 42 [some (.inr (.inr (some a0))), some (.inl x1), none, some (.inl x3), some (.inl x4), some (.inl x5), some (.inl x6)] [] h (none, q) := by
  intro n
  induction n with
  | zero => intro a0 x1 x3 x4 x5 x6 h q hf; simp [fX11_adapts_42] at hf
  | succ n ih =>
    intro a0 x1 x3 x4 x5 x6 h q hf
    rw [fX11_adapts_42] at hf
    refine y_iload (i := 6) dX11_adapts_42 rfl ?_
    refine y_iload (i := 5) dX11_adapts_44 rfl ?_
    refine y_icmp_ge (tgt := 127) dX11_adapts_46 (by decide) (fun hc => ?_) (fun hc => ?_)
    · rw [if_pos hc] at hf
      refine Y.weak (lv2 := [some (.inr (.inr (some a0))), none, none, none, some (.inl x4), none, none]) [true, false, false, false, true, false, false] rfl ?_
      exact xX11_adapts_127 hK hf
    · rw [if_neg hc] at hf
      refine y_aload_n (i := 0) dX11_adapts_49 rfl rfl ?_
      replace hf := bnd hf
      obtain ⟨x101, ex101, hf⟩ := hf
      refine y_getI ex101 fl11_173 dX11_adapts_50 ?_
      refine y_if_ne (tgt := 127) dX11_adapts_53 (by decide) (fun hc => ?_) (fun hc => ?_)
      · rw [if_neg hc] at hf
        refine Y.weak (lv2 := [some (.inr (.inr (some a0))), none, none, none, some (.inl x4), none, none]) [true, false, false, false, true, false, false] rfl ?_
        exact xX11_adapts_127 hK hf
      · rw [if_pos hc] at hf
        refine y_aload_n (i := 0) dX11_adapts_56 rfl rfl ?_
        refine y_aload_n (i := 0) dX11_adapts_57 rfl rfl ?_
        replace hf := bnd hf
        obtain ⟨r102, er102, hf⟩ := hf
        refine y_getR er102 fl11_20 dX11_adapts_58 ?_
        refine y_bipush (v := 6) dX11_adapts_61 (by decide) ?_
        refine y_iload_n (i := 3) dX11_adapts_63 rfl rfl ?_
        refine y_imul dX11_adapts_64 ?_
        refine y_iload (i := 6) dX11_adapts_65 rfl ?_
        refine y_iadd dX11_adapts_67 ?_
        replace hf := bnd hf
        obtain ⟨a103, rfl, hf⟩ := hf
        replace hf := bnd hf
        obtain ⟨x104, ex104, hf⟩ := hf
        refine y_iaload ex104 dX11_adapts_68 ?_
        refine y_aload_n (i := 0) dX11_adapts_69 rfl rfl ?_
        replace hf := bnd hf
        obtain ⟨r105, er105, hf⟩ := hf
        refine y_getR er105 fl11_20 dX11_adapts_70 ?_
        refine y_bipush (v := 6) dX11_adapts_73 (by decide) ?_
        refine y_iload (i := 4) dX11_adapts_75 rfl ?_
        refine y_imul dX11_adapts_77 ?_
        refine y_iload (i := 6) dX11_adapts_78 rfl ?_
        refine y_iadd dX11_adapts_80 ?_
        replace hf := bnd hf
        obtain ⟨a106, rfl, hf⟩ := hf
        replace hf := bnd hf
        obtain ⟨x107, ex107, hf⟩ := hf
        refine y_iaload ex107 dX11_adapts_81 ?_
        refine y_aload_n (i := 0) dX11_adapts_82 rfl rfl ?_
        replace hf := bnd hf
        obtain ⟨r108, er108, hf⟩ := hf
        refine y_getR er108 fl11_81 dX11_adapts_83 ?_
        refine y_bipush (v := 7) dX11_adapts_86 (by decide) ?_
        refine y_iload_n (i := 1) dX11_adapts_88 rfl rfl ?_
        refine y_imul dX11_adapts_89 ?_
        refine y_iload (i := 6) dX11_adapts_90 rfl ?_
        refine y_iadd dX11_adapts_92 ?_
        replace hf := bnd hf
        obtain ⟨a109, rfl, hf⟩ := hf
        replace hf := bnd hf
        obtain ⟨x110, ex110, hf⟩ := hf
        refine y_iaload ex110 dX11_adapts_93 ?_
        refine y_aload_n (i := 0) dX11_adapts_94 rfl rfl ?_
        replace hf := bnd hf
        obtain ⟨r111, er111, hf⟩ := hf
        refine y_getR er111 fl11_84 dX11_adapts_95 ?_
        refine y_bipush (v := 7) dX11_adapts_98 (by decide) ?_
        refine y_iload_n (i := 1) dX11_adapts_100 rfl rfl ?_
        refine y_imul dX11_adapts_101 ?_
        refine y_iload (i := 6) dX11_adapts_102 rfl ?_
        refine y_iadd dX11_adapts_104 ?_
        replace hf := bnd hf
        obtain ⟨a112, rfl, hf⟩ := hf
        replace hf := bnd hf
        obtain ⟨j113, ej113, hf⟩ := hf
        refine y_laload ej113 dX11_adapts_105 ?_
        replace hf := bnd hf
        obtain ⟨fs115, efs115, hf⟩ := hf
        replace hf := bnd hf
        obtain ⟨q114, eq114, hf⟩ := hf
        refine y_callV (mj := miX11_adapt) (args := [.inl x104, .inl x107, .inl x110, .inr (.inl j113)]) (st := []) dX11_adapts_106 (gd_of 936 rfl rfl) (gd_of 938 rfl rfl) (gd_of 44 rfl rfl) okX11_adapt (obO_spec efs115) rfl rfl (xX11_adapt (by omega) eq114) (Nat.le_of_ble_eq_true rfl) rfl ?_
        show Y l g miX11_adapts (d + 1) 109 [some (.inr (.inr (some a0))), some (.inl x1), none, some (.inl x3), some (.inl x4), some (.inl x5), some (.inl x6)] [] q114 _
        refine y_aload_n (i := 0) dX11_adapts_109 rfl rfl ?_
        refine y_aload_n (i := 0) dX11_adapts_110 rfl rfl ?_
        replace hf := bnd hf
        obtain ⟨x116, ex116, hf⟩ := hf
        refine y_getI ex116 fl11_207 dX11_adapts_111 ?_
        refine y_aload_n (i := 0) dX11_adapts_114 rfl rfl ?_
        replace hf := bnd hf
        obtain ⟨j117, ej117, hf⟩ := hf
        refine y_getJ ej117 fl11_210 dX11_adapts_115 ?_
        replace hf := bnd hf
        obtain ⟨fs119, efs119, hf⟩ := hf
        replace hf := bnd hf
        obtain ⟨q118, eq118, hf⟩ := hf
        refine y_callV (mj := miX11_add) (args := [.inl x116, .inr (.inl j117)]) (st := []) dX11_adapts_118 (gd_of 1001 rfl rfl) (gd_of 1003 rfl rfl) (gd_of 54 rfl rfl) okX11_add (obO_spec efs119) rfl rfl (xX11_add (by omega) eq118) (Nat.le_of_ble_eq_true rfl) rfl ?_
        show Y l g miX11_adapts (d + 1) 121 [some (.inr (.inr (some a0))), some (.inl x1), none, some (.inl x3), some (.inl x4), some (.inl x5), some (.inl x6)] [] q118 _
        refine y_iinc (i := 6) (y := 1) (lv2 := [some (.inr (.inr (some a0))), some (.inl x1), none, some (.inl x3), some (.inl x4), some (.inl x5), some (.inl (x6 + 1))]) dX11_adapts_121 rfl (by decide) (by decide) rfl ?_
        refine y_goto (tgt := 42) dX11_adapts_124 (by decide) ?_
        refine Y.weak (lv2 := [some (.inr (.inr (some a0))), some (.inl x1), none, some (.inl x3), some (.inl x4), some (.inl x5), some (.inl (x6 + 1))]) [true, true, false, true, true, true, true] rfl ?_
        exact ih _ _ _ _ _ _ _ _ hf
def fX11_adapts (z : Nat → Nat) (a0 : Nat) (x1 : Int32) (x2 : Int32) (x3 : Int32) (x4 : Int32) (x5 : Int32) (h : aH) : Option aH :=
  (if x2 ≤ 0 then
  (wrF h a0 [9] 29 (.inl 0)).bind fun h101 =>
  fX11_adapts_42 z 4000 a0 x1 x3 x4 x5 0 h101
  else
  (rdR h a0 [9] 5).bind fun r102 =>
  (r102).bind fun a103 =>
  (arI h a103 x4).bind fun x104 =>
  (rdR h a0 [9] 5).bind fun r105 =>
  (r105).bind fun a106 =>
  (arI h a106 x3).bind fun x107 =>
  (rdI h a0 [9] 30).bind fun x108 =>
  (rdJ h a0 [9] 31).bind fun j109 =>
  (obO h a0 9).bind fun fs111 =>
  (fX11_adapt z a0 x104 x107 x108 j109 h).bind fun q110 =>
  (obO q110 a0 9).bind fun fs113 =>
  (fX11_over z a0 q110).bind fun q112 =>
  some q112)
set_option maxHeartbeats 4000000 in
set_option maxRecDepth 100000 in
theorem xX11_adapts {l : Launch} {g : aG} {d : Nat} (hK : 2 ≤ d) {a0 : Nat} {x1 : Int32} {x2 : Int32} {x3 : Int32} {x4 : Int32} {x5 : Int32} {h : aH} {q : aH} (hf : fX11_adapts g.2.2 a0 x1 x2 x3 x4 x5 h = some q) : Ev l g miX11_adapts d [.inr (.inr (some a0)), .inl x1, .inl x2, .inl x3, .inl x4, .inl x5] h (none, q) := by
  obtain ⟨d, rfl⟩ : ∃ e, d = e + 1 := ⟨d - 1, by omega⟩
  refine ⟨?_, rfl, Nat.le_of_ble_eq_true rfl⟩
  unfold fX11_adapts at hf
  show Y l g miX11_adapts (d + 1) 0 [some (.inr (.inr (some a0))), some (.inl x1), some (.inl x2), some (.inl x3), some (.inl x4), some (.inl x5), none] [] h _
  refine y_iload_n (i := 2) dX11_adapts_0 rfl rfl ?_
  refine y_if_le (tgt := 34) dX11_adapts_1 (by decide) (fun hc => ?_) (fun hc => ?_)
  · rw [if_pos hc] at hf
    refine y_aload_n (i := 0) dX11_adapts_34 rfl rfl ?_
    refine y_iconst (v := 0) dX11_adapts_35 (by decide) ?_
    replace hf := bnd hf
    obtain ⟨h101, eh101, hf⟩ := hf
    refine y_put eh101 (pl11_173_m rfl) dX11_adapts_36 ?_
    refine y_iconst (v := 0) dX11_adapts_39 (by decide) ?_
    refine y_istore (i := 6) (lv2 := [some (.inr (.inr (some a0))), some (.inl x1), some (.inl x2), some (.inl x3), some (.inl x4), some (.inl x5), some (.inl 0)]) dX11_adapts_40 (by decide) rfl ?_
    refine Y.weak (lv2 := [some (.inr (.inr (some a0))), some (.inl x1), none, some (.inl x3), some (.inl x4), some (.inl x5), some (.inl 0)]) [true, true, false, true, true, true, true] rfl ?_
    exact xX11_adapts_42 hK 4000 _ _ _ _ _ _ _ _ hf
  · rw [if_neg hc] at hf
    refine y_aload_n (i := 0) dX11_adapts_4 rfl rfl ?_
    refine y_aload_n (i := 0) dX11_adapts_5 rfl rfl ?_
    replace hf := bnd hf
    obtain ⟨r102, er102, hf⟩ := hf
    refine y_getR er102 fl11_23 dX11_adapts_6 ?_
    refine y_iload (i := 4) dX11_adapts_9 rfl ?_
    replace hf := bnd hf
    obtain ⟨a103, rfl, hf⟩ := hf
    replace hf := bnd hf
    obtain ⟨x104, ex104, hf⟩ := hf
    refine y_iaload ex104 dX11_adapts_11 ?_
    refine y_aload_n (i := 0) dX11_adapts_12 rfl rfl ?_
    replace hf := bnd hf
    obtain ⟨r105, er105, hf⟩ := hf
    refine y_getR er105 fl11_23 dX11_adapts_13 ?_
    refine y_iload_n (i := 3) dX11_adapts_16 rfl rfl ?_
    replace hf := bnd hf
    obtain ⟨a106, rfl, hf⟩ := hf
    replace hf := bnd hf
    obtain ⟨x107, ex107, hf⟩ := hf
    refine y_iaload ex107 dX11_adapts_17 ?_
    refine y_aload_n (i := 0) dX11_adapts_18 rfl rfl ?_
    replace hf := bnd hf
    obtain ⟨x108, ex108, hf⟩ := hf
    refine y_getI ex108 fl11_207 dX11_adapts_19 ?_
    refine y_aload_n (i := 0) dX11_adapts_22 rfl rfl ?_
    replace hf := bnd hf
    obtain ⟨j109, ej109, hf⟩ := hf
    refine y_getJ ej109 fl11_210 dX11_adapts_23 ?_
    replace hf := bnd hf
    obtain ⟨fs111, efs111, hf⟩ := hf
    replace hf := bnd hf
    obtain ⟨q110, eq110, hf⟩ := hf
    refine y_callV (mj := miX11_adapt) (args := [.inl x104, .inl x107, .inl x108, .inr (.inl j109)]) (st := []) dX11_adapts_26 (gd_of 936 rfl rfl) (gd_of 938 rfl rfl) (gd_of 44 rfl rfl) okX11_adapt (obO_spec efs111) rfl rfl (xX11_adapt (by omega) eq110) (Nat.le_of_ble_eq_true rfl) rfl ?_
    show Y l g miX11_adapts (d + 1) 29 [some (.inr (.inr (some a0))), some (.inl x1), some (.inl x2), some (.inl x3), some (.inl x4), some (.inl x5), none] [] q110 _
    refine y_aload_n (i := 0) dX11_adapts_29 rfl rfl ?_
    replace hf := bnd hf
    obtain ⟨fs113, efs113, hf⟩ := hf
    replace hf := bnd hf
    obtain ⟨q112, eq112, hf⟩ := hf
    refine y_callV (mj := miX11_over) (args := []) (st := []) dX11_adapts_30 (gd_of 1021 rfl rfl) (gd_of 1023 rfl rfl) (gd_of 59 rfl rfl) okX11_over (obO_spec efs113) rfl rfl (xX11_over (by omega) eq112) (Nat.le_of_ble_eq_true rfl) rfl ?_
    show Y l g miX11_adapts (d + 1) 33 [some (.inr (.inr (some a0))), some (.inl x1), some (.inl x2), some (.inl x3), some (.inl x4), some (.inl x5), none] [] q112 _
    obtain rfl := Option.some.inj hf
    exact y_ret (v := none) dX11_adapts_33 rfl
set_option maxRecDepth 100000 in
theorem dX11_addOwn_0 : decode prog_13_method_31_code 0 = .ok (.iload_n 2, 1) := by decide +kernel
set_option maxRecDepth 100000 in
theorem dX11_addOwn_1 : decode prog_13_method_31_code 1 = .ok (.istore 4, 2) := by decide +kernel
set_option maxRecDepth 100000 in
theorem dX11_addOwn_3 : decode prog_13_method_31_code 3 = .ok (.iload 4, 2) := by decide +kernel
set_option maxRecDepth 100000 in
theorem dX11_addOwn_5 : decode prog_13_method_31_code 5 = .ok (.iload_n 3, 1) := by decide +kernel
set_option maxRecDepth 100000 in
theorem dX11_addOwn_6 : decode prog_13_method_31_code 6 = .ok (.if_icmp .ge 37, 3) := by decide +kernel
set_option maxRecDepth 100000 in
theorem dX11_addOwn_9 : decode prog_13_method_31_code 9 = .ok (.aload_n 0, 1) := by decide +kernel
set_option maxRecDepth 100000 in
theorem dX11_addOwn_10 : decode prog_13_method_31_code 10 = .ok (.aload_n 0, 1) := by decide +kernel
set_option maxRecDepth 100000 in
theorem dX11_addOwn_11 : decode prog_13_method_31_code 11 = .ok (.getfield 81, 3) := by decide +kernel
set_option maxRecDepth 100000 in
theorem dX11_addOwn_14 : decode prog_13_method_31_code 14 = .ok (.bipush 7, 2) := by decide +kernel
set_option maxRecDepth 100000 in
theorem dX11_addOwn_16 : decode prog_13_method_31_code 16 = .ok (.iload_n 1, 1) := by decide +kernel
set_option maxRecDepth 100000 in
theorem dX11_addOwn_17 : decode prog_13_method_31_code 17 = .ok (.imul, 1) := by decide +kernel
set_option maxRecDepth 100000 in
theorem dX11_addOwn_18 : decode prog_13_method_31_code 18 = .ok (.iload 4, 2) := by decide +kernel
set_option maxRecDepth 100000 in
theorem dX11_addOwn_20 : decode prog_13_method_31_code 20 = .ok (.iadd, 1) := by decide +kernel
set_option maxRecDepth 100000 in
theorem dX11_addOwn_21 : decode prog_13_method_31_code 21 = .ok (.iaload, 1) := by decide +kernel
set_option maxRecDepth 100000 in
theorem dX11_addOwn_22 : decode prog_13_method_31_code 22 = .ok (.aload_n 0, 1) := by decide +kernel
set_option maxRecDepth 100000 in
theorem dX11_addOwn_23 : decode prog_13_method_31_code 23 = .ok (.getfield 84, 3) := by decide +kernel
set_option maxRecDepth 100000 in
theorem dX11_addOwn_26 : decode prog_13_method_31_code 26 = .ok (.bipush 7, 2) := by decide +kernel
set_option maxRecDepth 100000 in
theorem dX11_addOwn_28 : decode prog_13_method_31_code 28 = .ok (.iload_n 1, 1) := by decide +kernel
set_option maxRecDepth 100000 in
theorem dX11_addOwn_29 : decode prog_13_method_31_code 29 = .ok (.imul, 1) := by decide +kernel
set_option maxRecDepth 100000 in
theorem dX11_addOwn_30 : decode prog_13_method_31_code 30 = .ok (.iload 4, 2) := by decide +kernel
set_option maxRecDepth 100000 in
theorem dX11_addOwn_32 : decode prog_13_method_31_code 32 = .ok (.iadd, 1) := by decide +kernel
set_option maxRecDepth 100000 in
theorem dX11_addOwn_33 : decode prog_13_method_31_code 33 = .ok (.laload, 1) := by decide +kernel
set_option maxRecDepth 100000 in
theorem dX11_addOwn_34 : decode prog_13_method_31_code 34 = .ok (.invokevirtual 230, 3) := by decide +kernel
set_option maxRecDepth 100000 in
theorem dX11_addOwn_37 : decode prog_13_method_31_code 37 = .ok (.iinc 4 1, 3) := by decide +kernel
set_option maxRecDepth 100000 in
theorem dX11_addOwn_40 : decode prog_13_method_31_code 40 = .ok (.goto (-37), 3) := by decide +kernel
set_option maxRecDepth 100000 in
theorem dX11_addOwn_43 : decode prog_13_method_31_code 43 = .ok (.return_, 1) := by decide +kernel

def fX11_addOwn_3 (z : Nat → Nat) : Nat → Nat → Int32 → Int32 → Int32 → aH → Option aH
  | 0, _, _, _, _, _ => none
  | n + 1, a0, x1, x3, x4, h => (if x3 ≤ x4 then
  some h
  else
  (rdR h a0 [9] 37).bind fun r101 =>
  (r101).bind fun a102 =>
  (arI h a102 ((7 * x1) + x4)).bind fun x103 =>
  (rdR h a0 [9] 38).bind fun r104 =>
  (r104).bind fun a105 =>
  (arJ h a105 ((7 * x1) + x4)).bind fun j106 =>
  (obO h a0 9).bind fun fs108 =>
  (fX11_add z a0 x103 j106 h).bind fun q107 =>
  fX11_addOwn_3 z n a0 x1 x3 (x4 + 1) q107)
set_option maxHeartbeats 4000000 in
set_option maxRecDepth 100000 in
theorem xX11_addOwn_3 {l : Launch} {g : aG} {d : Nat} (hK : 1 ≤ d + 1) : ∀ (n : Nat) (a0 : Nat) (x1 : Int32) (x3 : Int32) (x4 : Int32) (h : aH) (q : aH), fX11_addOwn_3 g.2.2 n a0 x1 x3 x4 h = some q → Y l g miX11_addOwn (d + 1) 3 [some (.inr (.inr (some a0))), some (.inl x1), none, some (.inl x3), some (.inl x4)] [] h (none, q) := by
  intro n
  induction n with
  | zero => intro a0 x1 x3 x4 h q hf; simp [fX11_addOwn_3] at hf
  | succ n ih =>
    intro a0 x1 x3 x4 h q hf
    rw [fX11_addOwn_3] at hf
    refine y_iload (i := 4) dX11_addOwn_3 rfl ?_
    refine y_iload_n (i := 3) dX11_addOwn_5 rfl rfl ?_
    refine y_icmp_ge (tgt := 43) dX11_addOwn_6 (by decide) (fun hc => ?_) (fun hc => ?_)
    · rw [if_pos hc] at hf
      obtain rfl := Option.some.inj hf
      exact y_ret (v := none) dX11_addOwn_43 rfl
    · rw [if_neg hc] at hf
      refine y_aload_n (i := 0) dX11_addOwn_9 rfl rfl ?_
      refine y_aload_n (i := 0) dX11_addOwn_10 rfl rfl ?_
      replace hf := bnd hf
      obtain ⟨r101, er101, hf⟩ := hf
      refine y_getR er101 fl11_81 dX11_addOwn_11 ?_
      refine y_bipush (v := 7) dX11_addOwn_14 (by decide) ?_
      refine y_iload_n (i := 1) dX11_addOwn_16 rfl rfl ?_
      refine y_imul dX11_addOwn_17 ?_
      refine y_iload (i := 4) dX11_addOwn_18 rfl ?_
      refine y_iadd dX11_addOwn_20 ?_
      replace hf := bnd hf
      obtain ⟨a102, rfl, hf⟩ := hf
      replace hf := bnd hf
      obtain ⟨x103, ex103, hf⟩ := hf
      refine y_iaload ex103 dX11_addOwn_21 ?_
      refine y_aload_n (i := 0) dX11_addOwn_22 rfl rfl ?_
      replace hf := bnd hf
      obtain ⟨r104, er104, hf⟩ := hf
      refine y_getR er104 fl11_84 dX11_addOwn_23 ?_
      refine y_bipush (v := 7) dX11_addOwn_26 (by decide) ?_
      refine y_iload_n (i := 1) dX11_addOwn_28 rfl rfl ?_
      refine y_imul dX11_addOwn_29 ?_
      refine y_iload (i := 4) dX11_addOwn_30 rfl ?_
      refine y_iadd dX11_addOwn_32 ?_
      replace hf := bnd hf
      obtain ⟨a105, rfl, hf⟩ := hf
      replace hf := bnd hf
      obtain ⟨j106, ej106, hf⟩ := hf
      refine y_laload ej106 dX11_addOwn_33 ?_
      replace hf := bnd hf
      obtain ⟨fs108, efs108, hf⟩ := hf
      replace hf := bnd hf
      obtain ⟨q107, eq107, hf⟩ := hf
      refine y_callV (mj := miX11_add) (args := [.inl x103, .inr (.inl j106)]) (st := []) dX11_addOwn_34 (gd_of 1001 rfl rfl) (gd_of 1003 rfl rfl) (gd_of 54 rfl rfl) okX11_add (obO_spec efs108) rfl rfl (xX11_add (by omega) eq107) (Nat.le_of_ble_eq_true rfl) rfl ?_
      show Y l g miX11_addOwn (d + 1) 37 [some (.inr (.inr (some a0))), some (.inl x1), none, some (.inl x3), some (.inl x4)] [] q107 _
      refine y_iinc (i := 4) (y := 1) (lv2 := [some (.inr (.inr (some a0))), some (.inl x1), none, some (.inl x3), some (.inl (x4 + 1))]) dX11_addOwn_37 rfl (by decide) (by decide) rfl ?_
      refine y_goto (tgt := 3) dX11_addOwn_40 (by decide) ?_
      refine Y.weak (lv2 := [some (.inr (.inr (some a0))), some (.inl x1), none, some (.inl x3), some (.inl (x4 + 1))]) [true, true, false, true, true] rfl ?_
      exact ih _ _ _ _ _ _ hf
def fX11_addOwn (z : Nat → Nat) (a0 : Nat) (x1 : Int32) (x2 : Int32) (x3 : Int32) (h : aH) : Option aH :=
  fX11_addOwn_3 z 4000 a0 x1 x3 x2 h
set_option maxHeartbeats 4000000 in
set_option maxRecDepth 100000 in
theorem xX11_addOwn {l : Launch} {g : aG} {d : Nat} (hK : 1 ≤ d) {a0 : Nat} {x1 : Int32} {x2 : Int32} {x3 : Int32} {h : aH} {q : aH} (hf : fX11_addOwn g.2.2 a0 x1 x2 x3 h = some q) : Ev l g miX11_addOwn d [.inr (.inr (some a0)), .inl x1, .inl x2, .inl x3] h (none, q) := by
  obtain ⟨d, rfl⟩ : ∃ e, d = e + 1 := ⟨d - 1, by omega⟩
  refine ⟨?_, rfl, Nat.le_of_ble_eq_true rfl⟩
  unfold fX11_addOwn at hf
  show Y l g miX11_addOwn (d + 1) 0 [some (.inr (.inr (some a0))), some (.inl x1), some (.inl x2), some (.inl x3), none] [] h _
  refine y_iload_n (i := 2) dX11_addOwn_0 rfl rfl ?_
  refine y_istore (i := 4) (lv2 := [some (.inr (.inr (some a0))), some (.inl x1), some (.inl x2), some (.inl x3), some (.inl x2)]) dX11_addOwn_1 (by decide) rfl ?_
  refine Y.weak (lv2 := [some (.inr (.inr (some a0))), some (.inl x1), none, some (.inl x3), some (.inl x2)]) [true, true, false, true, true] rfl ?_
  exact xX11_addOwn_3 hK 4000 _ _ _ _ _ _ hf
set_option maxRecDepth 100000 in
theorem dX11_begin_0 : decode prog_13_method_29_code 0 = .ok (.aload_n 0, 1) := by decide +kernel
set_option maxRecDepth 100000 in
theorem dX11_begin_1 : decode prog_13_method_29_code 1 = .ok (.iconst 0, 1) := by decide +kernel
set_option maxRecDepth 100000 in
theorem dX11_begin_2 : decode prog_13_method_29_code 2 = .ok (.putfield 227, 3) := by decide +kernel
set_option maxRecDepth 100000 in
theorem dX11_begin_5 : decode prog_13_method_29_code 5 = .ok (.return_, 1) := by decide +kernel

def fX11_begin (z : Nat → Nat) (a0 : Nat) (h : aH) : Option aH :=
  (wrF h a0 [9] 46 (.inl 0)).bind fun h101 =>
  some h101
set_option maxHeartbeats 4000000 in
set_option maxRecDepth 100000 in
theorem xX11_begin {l : Launch} {g : aG} {d : Nat} (hK : 0 ≤ d) {a0 : Nat} {h : aH} {q : aH} (hf : fX11_begin g.2.2 a0 h = some q) : Ev l g miX11_begin d [.inr (.inr (some a0))] h (none, q) := by
  refine ⟨?_, rfl, Nat.le_of_ble_eq_true rfl⟩
  unfold fX11_begin at hf
  show Y l g miX11_begin d 0 [some (.inr (.inr (some a0)))] [] h _
  refine y_aload_n (i := 0) dX11_begin_0 rfl rfl ?_
  refine y_iconst (v := 0) dX11_begin_1 (by decide) ?_
  replace hf := bnd hf
  obtain ⟨h101, eh101, hf⟩ := hf
  refine y_put eh101 (pl11_227_m rfl) dX11_begin_2 ?_
  obtain rfl := Option.some.inj hf
  exact y_ret (v := none) dX11_begin_5 rfl
set_option maxRecDepth 100000 in
theorem dX11_ends_0 : decode prog_13_method_41_code 0 = .ok (.iload_n 2, 1) := by decide +kernel
set_option maxRecDepth 100000 in
theorem dX11_ends_1 : decode prog_13_method_41_code 1 = .ok (.ifCond .ne 19, 3) := by decide +kernel
set_option maxRecDepth 100000 in
theorem dX11_ends_4 : decode prog_13_method_41_code 4 = .ok (.aload_n 0, 1) := by decide +kernel
set_option maxRecDepth 100000 in
theorem dX11_ends_5 : decode prog_13_method_41_code 5 = .ok (.iload_n 1, 1) := by decide +kernel
set_option maxRecDepth 100000 in
theorem dX11_ends_6 : decode prog_13_method_41_code 6 = .ok (.iconst 0, 1) := by decide +kernel
set_option maxRecDepth 100000 in
theorem dX11_ends_7 : decode prog_13_method_41_code 7 = .ok (.iload 5, 2) := by decide +kernel
set_option maxRecDepth 100000 in
theorem dX11_ends_9 : decode prog_13_method_41_code 9 = .ok (.invokevirtual 265, 3) := by decide +kernel
set_option maxRecDepth 100000 in
theorem dX11_ends_12 : decode prog_13_method_41_code 12 = .ok (.aload_n 0, 1) := by decide +kernel
set_option maxRecDepth 100000 in
theorem dX11_ends_13 : decode prog_13_method_41_code 13 = .ok (.iload_n 3, 1) := by decide +kernel
set_option maxRecDepth 100000 in
theorem dX11_ends_14 : decode prog_13_method_41_code 14 = .ok (.invokevirtual 259, 3) := by decide +kernel
set_option maxRecDepth 100000 in
theorem dX11_ends_17 : decode prog_13_method_41_code 17 = .ok (.goto 125, 3) := by decide +kernel
set_option maxRecDepth 100000 in
theorem dX11_ends_20 : decode prog_13_method_41_code 20 = .ok (.iload_n 2, 1) := by decide +kernel
set_option maxRecDepth 100000 in
theorem dX11_ends_21 : decode prog_13_method_41_code 21 = .ok (.iconst 1, 1) := by decide +kernel
set_option maxRecDepth 100000 in
theorem dX11_ends_22 : decode prog_13_method_41_code 22 = .ok (.if_icmp .ne 83, 3) := by decide +kernel
set_option maxRecDepth 100000 in
theorem dX11_ends_25 : decode prog_13_method_41_code 25 = .ok (.aload_n 0, 1) := by decide +kernel
set_option maxRecDepth 100000 in
theorem dX11_ends_26 : decode prog_13_method_41_code 26 = .ok (.getfield 87, 3) := by decide +kernel
set_option maxRecDepth 100000 in
theorem dX11_ends_29 : decode prog_13_method_41_code 29 = .ok (.iload_n 1, 1) := by decide +kernel
set_option maxRecDepth 100000 in
theorem dX11_ends_30 : decode prog_13_method_41_code 30 = .ok (.aload_n 0, 1) := by decide +kernel
set_option maxRecDepth 100000 in
theorem dX11_ends_31 : decode prog_13_method_41_code 31 = .ok (.getfield 173, 3) := by decide +kernel
set_option maxRecDepth 100000 in
theorem dX11_ends_34 : decode prog_13_method_41_code 34 = .ok (.iastore, 1) := by decide +kernel
set_option maxRecDepth 100000 in
theorem dX11_ends_35 : decode prog_13_method_41_code 35 = .ok (.aload_n 0, 1) := by decide +kernel
set_option maxRecDepth 100000 in
theorem dX11_ends_36 : decode prog_13_method_41_code 36 = .ok (.getfield 90, 3) := by decide +kernel
set_option maxRecDepth 100000 in
theorem dX11_ends_39 : decode prog_13_method_41_code 39 = .ok (.iload_n 1, 1) := by decide +kernel
set_option maxRecDepth 100000 in
theorem dX11_ends_40 : decode prog_13_method_41_code 40 = .ok (.aload_n 0, 1) := by decide +kernel
set_option maxRecDepth 100000 in
theorem dX11_ends_41 : decode prog_13_method_41_code 41 = .ok (.getfield 207, 3) := by decide +kernel
set_option maxRecDepth 100000 in
theorem dX11_ends_44 : decode prog_13_method_41_code 44 = .ok (.iastore, 1) := by decide +kernel
set_option maxRecDepth 100000 in
theorem dX11_ends_45 : decode prog_13_method_41_code 45 = .ok (.aload_n 0, 1) := by decide +kernel
set_option maxRecDepth 100000 in
theorem dX11_ends_46 : decode prog_13_method_41_code 46 = .ok (.getfield 93, 3) := by decide +kernel
set_option maxRecDepth 100000 in
theorem dX11_ends_49 : decode prog_13_method_41_code 49 = .ok (.iload_n 1, 1) := by decide +kernel
set_option maxRecDepth 100000 in
theorem dX11_ends_50 : decode prog_13_method_41_code 50 = .ok (.aload_n 0, 1) := by decide +kernel
set_option maxRecDepth 100000 in
theorem dX11_ends_51 : decode prog_13_method_41_code 51 = .ok (.getfield 210, 3) := by decide +kernel
set_option maxRecDepth 100000 in
theorem dX11_ends_54 : decode prog_13_method_41_code 54 = .ok (.lastore, 1) := by decide +kernel
set_option maxRecDepth 100000 in
theorem dX11_ends_55 : decode prog_13_method_41_code 55 = .ok (.aload_n 0, 1) := by decide +kernel
set_option maxRecDepth 100000 in
theorem dX11_ends_56 : decode prog_13_method_41_code 56 = .ok (.iconst 0, 1) := by decide +kernel
set_option maxRecDepth 100000 in
theorem dX11_ends_57 : decode prog_13_method_41_code 57 = .ok (.aload_n 0, 1) := by decide +kernel
set_option maxRecDepth 100000 in
theorem dX11_ends_58 : decode prog_13_method_41_code 58 = .ok (.getfield 173, 3) := by decide +kernel
set_option maxRecDepth 100000 in
theorem dX11_ends_61 : decode prog_13_method_41_code 61 = .ok (.i2l, 1) := by decide +kernel
set_option maxRecDepth 100000 in
theorem dX11_ends_62 : decode prog_13_method_41_code 62 = .ok (.ldc2_w 291, 3) := by decide +kernel
set_option maxRecDepth 100000 in
theorem dX11_ends_65 : decode prog_13_method_41_code 65 = .ok (.ldc2_w 293, 3) := by decide +kernel
set_option maxRecDepth 100000 in
theorem dX11_ends_68 : decode prog_13_method_41_code 68 = .ok (.invokestatic 111, 3) := by decide +kernel
set_option maxRecDepth 100000 in
theorem dX11_ends_71 : decode prog_13_method_41_code 71 = .ok (.ifCond .eq 9, 3) := by decide +kernel
set_option maxRecDepth 100000 in
theorem dX11_ends_74 : decode prog_13_method_41_code 74 = .ok (.ldc2_w 131, 3) := by decide +kernel
set_option maxRecDepth 100000 in
theorem dX11_ends_77 : decode prog_13_method_41_code 77 = .ok (.goto 8, 3) := by decide +kernel
set_option maxRecDepth 100000 in
theorem dX11_ends_80 : decode prog_13_method_41_code 80 = .ok (.aload_n 0, 1) := by decide +kernel
set_option maxRecDepth 100000 in
theorem dX11_ends_81 : decode prog_13_method_41_code 81 = .ok (.getfield 173, 3) := by decide +kernel
set_option maxRecDepth 100000 in
theorem dX11_ends_84 : decode prog_13_method_41_code 84 = .ok (.i2l, 1) := by decide +kernel
set_option maxRecDepth 100000 in
theorem dX11_ends_85 : decode prog_13_method_41_code 85 = .ok (.invokevirtual 230, 3) := by decide +kernel
set_option maxRecDepth 100000 in
theorem dX11_ends_88 : decode prog_13_method_41_code 88 = .ok (.aload_n 0, 1) := by decide +kernel
set_option maxRecDepth 100000 in
theorem dX11_ends_89 : decode prog_13_method_41_code 89 = .ok (.iload_n 1, 1) := by decide +kernel
set_option maxRecDepth 100000 in
theorem dX11_ends_90 : decode prog_13_method_41_code 90 = .ok (.iconst 0, 1) := by decide +kernel
set_option maxRecDepth 100000 in
theorem dX11_ends_91 : decode prog_13_method_41_code 91 = .ok (.iload 5, 2) := by decide +kernel
set_option maxRecDepth 100000 in
theorem dX11_ends_93 : decode prog_13_method_41_code 93 = .ok (.invokevirtual 265, 3) := by decide +kernel
set_option maxRecDepth 100000 in
theorem dX11_ends_96 : decode prog_13_method_41_code 96 = .ok (.aload_n 0, 1) := by decide +kernel
set_option maxRecDepth 100000 in
theorem dX11_ends_97 : decode prog_13_method_41_code 97 = .ok (.iload 4, 2) := by decide +kernel
set_option maxRecDepth 100000 in
theorem dX11_ends_99 : decode prog_13_method_41_code 99 = .ok (.invokevirtual 259, 3) := by decide +kernel
set_option maxRecDepth 100000 in
theorem dX11_ends_102 : decode prog_13_method_41_code 102 = .ok (.goto 40, 3) := by decide +kernel
set_option maxRecDepth 100000 in
theorem dX11_ends_105 : decode prog_13_method_41_code 105 = .ok (.aload_n 0, 1) := by decide +kernel
set_option maxRecDepth 100000 in
theorem dX11_ends_106 : decode prog_13_method_41_code 106 = .ok (.getfield 173, 3) := by decide +kernel
set_option maxRecDepth 100000 in
theorem dX11_ends_109 : decode prog_13_method_41_code 109 = .ok (.ifCond .ne 29, 3) := by decide +kernel
set_option maxRecDepth 100000 in
theorem dX11_ends_112 : decode prog_13_method_41_code 112 = .ok (.aload_n 0, 1) := by decide +kernel
set_option maxRecDepth 100000 in
theorem dX11_ends_113 : decode prog_13_method_41_code 113 = .ok (.aload_n 0, 1) := by decide +kernel
set_option maxRecDepth 100000 in
theorem dX11_ends_114 : decode prog_13_method_41_code 114 = .ok (.getfield 90, 3) := by decide +kernel
set_option maxRecDepth 100000 in
theorem dX11_ends_117 : decode prog_13_method_41_code 117 = .ok (.iload_n 1, 1) := by decide +kernel
set_option maxRecDepth 100000 in
theorem dX11_ends_118 : decode prog_13_method_41_code 118 = .ok (.iaload, 1) := by decide +kernel
set_option maxRecDepth 100000 in
theorem dX11_ends_119 : decode prog_13_method_41_code 119 = .ok (.aload_n 0, 1) := by decide +kernel
set_option maxRecDepth 100000 in
theorem dX11_ends_120 : decode prog_13_method_41_code 120 = .ok (.getfield 93, 3) := by decide +kernel
set_option maxRecDepth 100000 in
theorem dX11_ends_123 : decode prog_13_method_41_code 123 = .ok (.iload_n 1, 1) := by decide +kernel
set_option maxRecDepth 100000 in
theorem dX11_ends_124 : decode prog_13_method_41_code 124 = .ok (.laload, 1) := by decide +kernel
set_option maxRecDepth 100000 in
theorem dX11_ends_125 : decode prog_13_method_41_code 125 = .ok (.invokevirtual 223, 3) := by decide +kernel
set_option maxRecDepth 100000 in
theorem dX11_ends_128 : decode prog_13_method_41_code 128 = .ok (.aload_n 0, 1) := by decide +kernel
set_option maxRecDepth 100000 in
theorem dX11_ends_129 : decode prog_13_method_41_code 129 = .ok (.aload_n 0, 1) := by decide +kernel
set_option maxRecDepth 100000 in
theorem dX11_ends_130 : decode prog_13_method_41_code 130 = .ok (.getfield 87, 3) := by decide +kernel
set_option maxRecDepth 100000 in
theorem dX11_ends_133 : decode prog_13_method_41_code 133 = .ok (.iload_n 1, 1) := by decide +kernel
set_option maxRecDepth 100000 in
theorem dX11_ends_134 : decode prog_13_method_41_code 134 = .ok (.iaload, 1) := by decide +kernel
set_option maxRecDepth 100000 in
theorem dX11_ends_135 : decode prog_13_method_41_code 135 = .ok (.putfield 173, 3) := by decide +kernel
set_option maxRecDepth 100000 in
theorem dX11_ends_138 : decode prog_13_method_41_code 138 = .ok (.aload_n 0, 1) := by decide +kernel
set_option maxRecDepth 100000 in
theorem dX11_ends_139 : decode prog_13_method_41_code 139 = .ok (.invokevirtual 243, 3) := by decide +kernel
set_option maxRecDepth 100000 in
theorem dX11_ends_142 : decode prog_13_method_41_code 142 = .ok (.return_, 1) := by decide +kernel
set_option maxRecDepth 100000 in
theorem okX11_addOwn : mOk miX11_addOwn 3 := ⟨(gd_of 1032 rfl rfl), (gd_of 76 rfl rfl), by decide +kernel, ⟨by decide +kernel, by decide +kernel, by decide +kernel⟩, by decide⟩
def fX11_ends_85 (z : Nat → Nat) (a0 : Nat) (x1 : Int32) (x4 : Int32) (x5 : Int32) (sr0 : Option Nat) (sx1 : Int32) (sj2 : Int64) (h : aH) : Option aH :=
  (sr0).bind fun a102 =>
  (obO h a102 9).bind fun fs103 =>
  (fX11_add z a102 sx1 sj2 h).bind fun q101 =>
  (obO q101 a0 9).bind fun fs105 =>
  (fX11_addOwn z a0 x1 0 x5 q101).bind fun q104 =>
  (obO q104 a0 9).bind fun fs107 =>
  (fX11_calls z a0 x4 q104).bind fun q106 =>
  some q106
set_option maxHeartbeats 4000000 in
set_option maxRecDepth 100000 in
theorem xX11_ends_85 {l : Launch} {g : aG} {d : Nat} (hK : 2 ≤ d + 1) {a0 : Nat} {x1 : Int32} {x4 : Int32} {x5 : Int32} {sr0 : Option Nat} {sx1 : Int32} {sj2 : Int64} {h : aH} {q : aH} (hf : fX11_ends_85 g.2.2 a0 x1 x4 x5 sr0 sx1 sj2 h = some q) : Y l g miX11_ends (d + 1) 85 [some (.inr (.inr (some a0))), some (.inl x1), none, none, some (.inl x4), some (.inl x5)] [.inr (.inl sj2), .inl sx1, .inr (.inr sr0)] h (none, q) := by
  unfold fX11_ends_85 at hf
  replace hf := bnd hf
  obtain ⟨a102, rfl, hf⟩ := hf
  replace hf := bnd hf
  obtain ⟨fs103, efs103, hf⟩ := hf
  replace hf := bnd hf
  obtain ⟨q101, eq101, hf⟩ := hf
  refine y_callV (mj := miX11_add) (args := [.inl sx1, .inr (.inl sj2)]) (st := []) dX11_ends_85 (gd_of 1001 rfl rfl) (gd_of 1003 rfl rfl) (gd_of 54 rfl rfl) okX11_add (obO_spec efs103) rfl rfl (xX11_add (by omega) eq101) (Nat.le_of_ble_eq_true rfl) rfl ?_
  show Y l g miX11_ends (d + 1) 88 [some (.inr (.inr (some a0))), some (.inl x1), none, none, some (.inl x4), some (.inl x5)] [] q101 _
  refine y_aload_n (i := 0) dX11_ends_88 rfl rfl ?_
  refine y_iload_n (i := 1) dX11_ends_89 rfl rfl ?_
  refine y_iconst (v := 0) dX11_ends_90 (by decide) ?_
  refine y_iload (i := 5) dX11_ends_91 rfl ?_
  replace hf := bnd hf
  obtain ⟨fs105, efs105, hf⟩ := hf
  replace hf := bnd hf
  obtain ⟨q104, eq104, hf⟩ := hf
  refine y_callV (mj := miX11_addOwn) (args := [.inl x1, .inl 0, .inl x5]) (st := []) dX11_ends_93 (gd_of 1029 rfl rfl) (gd_of 1031 rfl rfl) (gd_of 61 rfl rfl) okX11_addOwn (obO_spec efs105) rfl rfl (xX11_addOwn (by omega) eq104) (Nat.le_of_ble_eq_true rfl) rfl ?_
  show Y l g miX11_ends (d + 1) 96 [some (.inr (.inr (some a0))), some (.inl x1), none, none, some (.inl x4), some (.inl x5)] [] q104 _
  refine y_aload_n (i := 0) dX11_ends_96 rfl rfl ?_
  refine y_iload (i := 4) dX11_ends_97 rfl ?_
  replace hf := bnd hf
  obtain ⟨fs107, efs107, hf⟩ := hf
  replace hf := bnd hf
  obtain ⟨q106, eq106, hf⟩ := hf
  refine y_callV (mj := miX11_calls) (args := [.inl x4]) (st := []) dX11_ends_99 (gd_of 1005 rfl rfl) (gd_of 1007 rfl rfl) (gd_of 55 rfl rfl) okX11_calls (obO_spec efs107) rfl rfl (xX11_calls (by omega) eq106) (Nat.le_of_ble_eq_true rfl) rfl ?_
  show Y l g miX11_ends (d + 1) 102 [some (.inr (.inr (some a0))), some (.inl x1), none, none, some (.inl x4), some (.inl x5)] [] q106 _
  refine y_goto (tgt := 142) dX11_ends_102 (by decide) ?_
  obtain rfl := Option.some.inj hf
  exact y_ret (v := none) dX11_ends_142 rfl
def fX11_ends (z : Nat → Nat) (a0 : Nat) (x1 : Int32) (x2 : Int32) (x3 : Int32) (x4 : Int32) (x5 : Int32) (h : aH) : Option aH :=
  (if x2 = 0 then
  (obO h a0 9).bind fun fs134 =>
  (fX11_addOwn z a0 x1 0 x5 h).bind fun q133 =>
  (obO q133 a0 9).bind fun fs136 =>
  (fX11_calls z a0 x3 q133).bind fun q135 =>
  some q135
  else
  (if x2 = 1 then
  (rdR h a0 [9] 39).bind fun r118 =>
  (rdI h a0 [9] 29).bind fun x119 =>
  (r118).bind fun a120 =>
  (awI h a120 x1 x119).bind fun h121 =>
  (rdR h121 a0 [9] 40).bind fun r122 =>
  (rdI h121 a0 [9] 30).bind fun x123 =>
  (r122).bind fun a124 =>
  (awI h121 a124 x1 x123).bind fun h125 =>
  (rdR h125 a0 [9] 41).bind fun r126 =>
  (rdJ h125 a0 [9] 31).bind fun j127 =>
  (r126).bind fun a128 =>
  (awJ h125 a128 x1 j127).bind fun h129 =>
  (rdI h129 a0 [9] 29).bind fun x130 =>
  (fX11_in z (Int32.toInt64 x130) 7 10 h129).bind fun q131 =>
  (if q131.1 = 0 then
  (rdI q131.2 a0 [9] 29).bind fun x132 =>
  fX11_ends_85 z a0 x1 x4 x5 (some a0) 0 (Int32.toInt64 x132) q131.2
  else
  fX11_ends_85 z a0 x1 x4 x5 (some a0) 0 99 q131.2)
  else
  (rdI h a0 [9] 29).bind fun x101 =>
  (if x101 = 0 then
  (rdR h a0 [9] 40).bind fun r104 =>
  (r104).bind fun a105 =>
  (arI h a105 x1).bind fun x106 =>
  (rdR h a0 [9] 41).bind fun r107 =>
  (r107).bind fun a108 =>
  (arJ h a108 x1).bind fun j109 =>
  (obO h a0 9).bind fun fs111 =>
  (fX11_comes z a0 x106 j109 h).bind fun q110 =>
  (rdR q110 a0 [9] 39).bind fun r112 =>
  (r112).bind fun a113 =>
  (arI q110 a113 x1).bind fun x114 =>
  (wrF q110 a0 [9] 29 (.inl x114)).bind fun h115 =>
  (obO h115 a0 9).bind fun fs117 =>
  (fX11_over z a0 h115).bind fun q116 =>
  some q116
  else
  (obO h a0 9).bind fun fs103 =>
  (fX11_over z a0 h).bind fun q102 =>
  some q102)))
set_option maxHeartbeats 4000000 in
set_option maxRecDepth 100000 in
theorem xX11_ends {l : Launch} {g : aG} {d : Nat} (hK : 2 ≤ d) {a0 : Nat} {x1 : Int32} {x2 : Int32} {x3 : Int32} {x4 : Int32} {x5 : Int32} {h : aH} {q : aH} (hf : fX11_ends g.2.2 a0 x1 x2 x3 x4 x5 h = some q) : Ev l g miX11_ends d [.inr (.inr (some a0)), .inl x1, .inl x2, .inl x3, .inl x4, .inl x5] h (none, q) := by
  obtain ⟨d, rfl⟩ : ∃ e, d = e + 1 := ⟨d - 1, by omega⟩
  refine ⟨?_, rfl, Nat.le_of_ble_eq_true rfl⟩
  unfold fX11_ends at hf
  show Y l g miX11_ends (d + 1) 0 [some (.inr (.inr (some a0))), some (.inl x1), some (.inl x2), some (.inl x3), some (.inl x4), some (.inl x5)] [] h _
  refine y_iload_n (i := 2) dX11_ends_0 rfl rfl ?_
  refine y_if_ne (tgt := 20) dX11_ends_1 (by decide) (fun hc => ?_) (fun hc => ?_)
  · rw [if_neg hc] at hf
    refine y_iload_n (i := 2) dX11_ends_20 rfl rfl ?_
    refine y_iconst (v := 1) dX11_ends_21 (by decide) ?_
    refine y_icmp_ne (tgt := 105) dX11_ends_22 (by decide) (fun hc => ?_) (fun hc => ?_)
    · rw [if_neg hc] at hf
      refine y_aload_n (i := 0) dX11_ends_105 rfl rfl ?_
      replace hf := bnd hf
      obtain ⟨x101, ex101, hf⟩ := hf
      refine y_getI ex101 fl11_173 dX11_ends_106 ?_
      refine y_if_ne (tgt := 138) dX11_ends_109 (by decide) (fun hc => ?_) (fun hc => ?_)
      · rw [if_neg hc] at hf
        refine y_aload_n (i := 0) dX11_ends_138 rfl rfl ?_
        replace hf := bnd hf
        obtain ⟨fs103, efs103, hf⟩ := hf
        replace hf := bnd hf
        obtain ⟨q102, eq102, hf⟩ := hf
        refine y_callV (mj := miX11_over) (args := []) (st := []) dX11_ends_139 (gd_of 1021 rfl rfl) (gd_of 1023 rfl rfl) (gd_of 59 rfl rfl) okX11_over (obO_spec efs103) rfl rfl (xX11_over (by omega) eq102) (Nat.le_of_ble_eq_true rfl) rfl ?_
        show Y l g miX11_ends (d + 1) 142 [some (.inr (.inr (some a0))), some (.inl x1), some (.inl x2), some (.inl x3), some (.inl x4), some (.inl x5)] [] q102 _
        obtain rfl := Option.some.inj hf
        exact y_ret (v := none) dX11_ends_142 rfl
      · rw [if_pos hc] at hf
        refine y_aload_n (i := 0) dX11_ends_112 rfl rfl ?_
        refine y_aload_n (i := 0) dX11_ends_113 rfl rfl ?_
        replace hf := bnd hf
        obtain ⟨r104, er104, hf⟩ := hf
        refine y_getR er104 fl11_90 dX11_ends_114 ?_
        refine y_iload_n (i := 1) dX11_ends_117 rfl rfl ?_
        replace hf := bnd hf
        obtain ⟨a105, rfl, hf⟩ := hf
        replace hf := bnd hf
        obtain ⟨x106, ex106, hf⟩ := hf
        refine y_iaload ex106 dX11_ends_118 ?_
        refine y_aload_n (i := 0) dX11_ends_119 rfl rfl ?_
        replace hf := bnd hf
        obtain ⟨r107, er107, hf⟩ := hf
        refine y_getR er107 fl11_93 dX11_ends_120 ?_
        refine y_iload_n (i := 1) dX11_ends_123 rfl rfl ?_
        replace hf := bnd hf
        obtain ⟨a108, rfl, hf⟩ := hf
        replace hf := bnd hf
        obtain ⟨j109, ej109, hf⟩ := hf
        refine y_laload ej109 dX11_ends_124 ?_
        replace hf := bnd hf
        obtain ⟨fs111, efs111, hf⟩ := hf
        replace hf := bnd hf
        obtain ⟨q110, eq110, hf⟩ := hf
        refine y_callV (mj := miX11_comes) (args := [.inl x106, .inr (.inl j109)]) (st := []) dX11_ends_125 (gd_of 940 rfl rfl) (gd_of 942 rfl rfl) (gd_of 45 rfl rfl) okX11_comes (obO_spec efs111) rfl rfl (xX11_comes (by omega) eq110) (Nat.le_of_ble_eq_true rfl) rfl ?_
        show Y l g miX11_ends (d + 1) 128 [some (.inr (.inr (some a0))), some (.inl x1), some (.inl x2), some (.inl x3), some (.inl x4), some (.inl x5)] [] q110 _
        refine y_aload_n (i := 0) dX11_ends_128 rfl rfl ?_
        refine y_aload_n (i := 0) dX11_ends_129 rfl rfl ?_
        replace hf := bnd hf
        obtain ⟨r112, er112, hf⟩ := hf
        refine y_getR er112 fl11_87 dX11_ends_130 ?_
        refine y_iload_n (i := 1) dX11_ends_133 rfl rfl ?_
        replace hf := bnd hf
        obtain ⟨a113, rfl, hf⟩ := hf
        replace hf := bnd hf
        obtain ⟨x114, ex114, hf⟩ := hf
        refine y_iaload ex114 dX11_ends_134 ?_
        replace hf := bnd hf
        obtain ⟨h115, eh115, hf⟩ := hf
        refine y_put eh115 (pl11_173_m rfl) dX11_ends_135 ?_
        refine y_aload_n (i := 0) dX11_ends_138 rfl rfl ?_
        replace hf := bnd hf
        obtain ⟨fs117, efs117, hf⟩ := hf
        replace hf := bnd hf
        obtain ⟨q116, eq116, hf⟩ := hf
        refine y_callV (mj := miX11_over) (args := []) (st := []) dX11_ends_139 (gd_of 1021 rfl rfl) (gd_of 1023 rfl rfl) (gd_of 59 rfl rfl) okX11_over (obO_spec efs117) rfl rfl (xX11_over (by omega) eq116) (Nat.le_of_ble_eq_true rfl) rfl ?_
        show Y l g miX11_ends (d + 1) 142 [some (.inr (.inr (some a0))), some (.inl x1), some (.inl x2), some (.inl x3), some (.inl x4), some (.inl x5)] [] q116 _
        obtain rfl := Option.some.inj hf
        exact y_ret (v := none) dX11_ends_142 rfl
    · rw [if_pos hc] at hf
      refine y_aload_n (i := 0) dX11_ends_25 rfl rfl ?_
      replace hf := bnd hf
      obtain ⟨r118, er118, hf⟩ := hf
      refine y_getR er118 fl11_87 dX11_ends_26 ?_
      refine y_iload_n (i := 1) dX11_ends_29 rfl rfl ?_
      refine y_aload_n (i := 0) dX11_ends_30 rfl rfl ?_
      replace hf := bnd hf
      obtain ⟨x119, ex119, hf⟩ := hf
      refine y_getI ex119 fl11_173 dX11_ends_31 ?_
      replace hf := bnd hf
      obtain ⟨a120, rfl, hf⟩ := hf
      replace hf := bnd hf
      obtain ⟨h121, eh121, hf⟩ := hf
      refine y_iastore eh121 dX11_ends_34 ?_
      refine y_aload_n (i := 0) dX11_ends_35 rfl rfl ?_
      replace hf := bnd hf
      obtain ⟨r122, er122, hf⟩ := hf
      refine y_getR er122 fl11_90 dX11_ends_36 ?_
      refine y_iload_n (i := 1) dX11_ends_39 rfl rfl ?_
      refine y_aload_n (i := 0) dX11_ends_40 rfl rfl ?_
      replace hf := bnd hf
      obtain ⟨x123, ex123, hf⟩ := hf
      refine y_getI ex123 fl11_207 dX11_ends_41 ?_
      replace hf := bnd hf
      obtain ⟨a124, rfl, hf⟩ := hf
      replace hf := bnd hf
      obtain ⟨h125, eh125, hf⟩ := hf
      refine y_iastore eh125 dX11_ends_44 ?_
      refine y_aload_n (i := 0) dX11_ends_45 rfl rfl ?_
      replace hf := bnd hf
      obtain ⟨r126, er126, hf⟩ := hf
      refine y_getR er126 fl11_93 dX11_ends_46 ?_
      refine y_iload_n (i := 1) dX11_ends_49 rfl rfl ?_
      refine y_aload_n (i := 0) dX11_ends_50 rfl rfl ?_
      replace hf := bnd hf
      obtain ⟨j127, ej127, hf⟩ := hf
      refine y_getJ ej127 fl11_210 dX11_ends_51 ?_
      replace hf := bnd hf
      obtain ⟨a128, rfl, hf⟩ := hf
      replace hf := bnd hf
      obtain ⟨h129, eh129, hf⟩ := hf
      refine y_lastore eh129 dX11_ends_54 ?_
      refine y_aload_n (i := 0) dX11_ends_55 rfl rfl ?_
      refine y_iconst (v := 0) dX11_ends_56 (by decide) ?_
      refine y_aload_n (i := 0) dX11_ends_57 rfl rfl ?_
      replace hf := bnd hf
      obtain ⟨x130, ex130, hf⟩ := hf
      refine y_getI ex130 fl11_173 dX11_ends_58 ?_
      refine y_i2l dX11_ends_61 ?_
      refine y_ldc2 (v := 7) dX11_ends_62 (gd_of 1045 rfl rfl) ?_
      refine y_ldc2 (v := 10) dX11_ends_65 (gd_of 1046 rfl rfl) ?_
      replace hf := bnd hf
      obtain ⟨q131, eq131, hf⟩ := hf
      refine y_callS (mj := miX11_in) (args := [.inr (.inl (Int32.toInt64 x130)), .inr (.inl 7), .inr (.inl 10)]) (st := [.inl 0, .inr (.inr (some a0))]) dX11_ends_68 (gd_of 878 rfl rfl) (gd_of 879 rfl rfl) okX11_in (xX11_in (by omega) eq131) (Nat.le_of_ble_eq_true rfl) rfl ?_
      show Y l g miX11_ends (d + 1) 71 [some (.inr (.inr (some a0))), some (.inl x1), some (.inl x2), some (.inl x3), some (.inl x4), some (.inl x5)] [.inl q131.1, .inl 0, .inr (.inr (some a0))] q131.2 _
      refine y_if_eq (tgt := 80) dX11_ends_71 (by decide) (fun hc => ?_) (fun hc => ?_)
      · rw [if_pos hc] at hf
        refine y_aload_n (i := 0) dX11_ends_80 rfl rfl ?_
        replace hf := bnd hf
        obtain ⟨x132, ex132, hf⟩ := hf
        refine y_getI ex132 fl11_173 dX11_ends_81 ?_
        refine y_i2l dX11_ends_84 ?_
        refine Y.weak (lv2 := [some (.inr (.inr (some a0))), some (.inl x1), none, none, some (.inl x4), some (.inl x5)]) [true, true, false, false, true, true] rfl ?_
        exact xX11_ends_85 hK hf
      · rw [if_neg hc] at hf
        refine y_ldc2 (v := 99) dX11_ends_74 (gd_of 884 rfl rfl) ?_
        refine y_goto (tgt := 85) dX11_ends_77 (by decide) ?_
        refine Y.weak (lv2 := [some (.inr (.inr (some a0))), some (.inl x1), none, none, some (.inl x4), some (.inl x5)]) [true, true, false, false, true, true] rfl ?_
        exact xX11_ends_85 hK hf
  · rw [if_pos hc] at hf
    refine y_aload_n (i := 0) dX11_ends_4 rfl rfl ?_
    refine y_iload_n (i := 1) dX11_ends_5 rfl rfl ?_
    refine y_iconst (v := 0) dX11_ends_6 (by decide) ?_
    refine y_iload (i := 5) dX11_ends_7 rfl ?_
    replace hf := bnd hf
    obtain ⟨fs134, efs134, hf⟩ := hf
    replace hf := bnd hf
    obtain ⟨q133, eq133, hf⟩ := hf
    refine y_callV (mj := miX11_addOwn) (args := [.inl x1, .inl 0, .inl x5]) (st := []) dX11_ends_9 (gd_of 1029 rfl rfl) (gd_of 1031 rfl rfl) (gd_of 61 rfl rfl) okX11_addOwn (obO_spec efs134) rfl rfl (xX11_addOwn (by omega) eq133) (Nat.le_of_ble_eq_true rfl) rfl ?_
    show Y l g miX11_ends (d + 1) 12 [some (.inr (.inr (some a0))), some (.inl x1), some (.inl x2), some (.inl x3), some (.inl x4), some (.inl x5)] [] q133 _
    refine y_aload_n (i := 0) dX11_ends_12 rfl rfl ?_
    refine y_iload_n (i := 3) dX11_ends_13 rfl rfl ?_
    replace hf := bnd hf
    obtain ⟨fs136, efs136, hf⟩ := hf
    replace hf := bnd hf
    obtain ⟨q135, eq135, hf⟩ := hf
    refine y_callV (mj := miX11_calls) (args := [.inl x3]) (st := []) dX11_ends_14 (gd_of 1005 rfl rfl) (gd_of 1007 rfl rfl) (gd_of 55 rfl rfl) okX11_calls (obO_spec efs136) rfl rfl (xX11_calls (by omega) eq135) (Nat.le_of_ble_eq_true rfl) rfl ?_
    show Y l g miX11_ends (d + 1) 17 [some (.inr (.inr (some a0))), some (.inl x1), some (.inl x2), some (.inl x3), some (.inl x4), some (.inl x5)] [] q135 _
    refine y_goto (tgt := 142) dX11_ends_17 (by decide) ?_
    obtain rfl := Option.some.inj hf
    exact y_ret (v := none) dX11_ends_142 rfl
set_option maxRecDepth 100000 in
theorem dX11_fails_0 : decode prog_13_method_34_code 0 = .ok (.aload_n 0, 1) := by decide +kernel
set_option maxRecDepth 100000 in
theorem dX11_fails_1 : decode prog_13_method_34_code 1 = .ok (.iload_n 1, 1) := by decide +kernel
set_option maxRecDepth 100000 in
theorem dX11_fails_2 : decode prog_13_method_34_code 2 = .ok (.putfield 173, 3) := by decide +kernel
set_option maxRecDepth 100000 in
theorem dX11_fails_5 : decode prog_13_method_34_code 5 = .ok (.aload_n 0, 1) := by decide +kernel
set_option maxRecDepth 100000 in
theorem dX11_fails_6 : decode prog_13_method_34_code 6 = .ok (.invokevirtual 243, 3) := by decide +kernel
set_option maxRecDepth 100000 in
theorem dX11_fails_9 : decode prog_13_method_34_code 9 = .ok (.return_, 1) := by decide +kernel

def fX11_fails (z : Nat → Nat) (a0 : Nat) (x1 : Int32) (h : aH) : Option aH :=
  (wrF h a0 [9] 29 (.inl x1)).bind fun h101 =>
  (obO h101 a0 9).bind fun fs103 =>
  (fX11_over z a0 h101).bind fun q102 =>
  some q102
set_option maxHeartbeats 4000000 in
set_option maxRecDepth 100000 in
theorem xX11_fails {l : Launch} {g : aG} {d : Nat} (hK : 1 ≤ d) {a0 : Nat} {x1 : Int32} {h : aH} {q : aH} (hf : fX11_fails g.2.2 a0 x1 h = some q) : Ev l g miX11_fails d [.inr (.inr (some a0)), .inl x1] h (none, q) := by
  obtain ⟨d, rfl⟩ : ∃ e, d = e + 1 := ⟨d - 1, by omega⟩
  refine ⟨?_, rfl, Nat.le_of_ble_eq_true rfl⟩
  unfold fX11_fails at hf
  show Y l g miX11_fails (d + 1) 0 [some (.inr (.inr (some a0))), some (.inl x1)] [] h _
  refine y_aload_n (i := 0) dX11_fails_0 rfl rfl ?_
  refine y_iload_n (i := 1) dX11_fails_1 rfl rfl ?_
  replace hf := bnd hf
  obtain ⟨h101, eh101, hf⟩ := hf
  refine y_put eh101 (pl11_173_m rfl) dX11_fails_2 ?_
  refine y_aload_n (i := 0) dX11_fails_5 rfl rfl ?_
  replace hf := bnd hf
  obtain ⟨fs103, efs103, hf⟩ := hf
  replace hf := bnd hf
  obtain ⟨q102, eq102, hf⟩ := hf
  refine y_callV (mj := miX11_over) (args := []) (st := []) dX11_fails_6 (gd_of 1021 rfl rfl) (gd_of 1023 rfl rfl) (gd_of 59 rfl rfl) okX11_over (obO_spec efs103) rfl rfl (xX11_over (by omega) eq102) (Nat.le_of_ble_eq_true rfl) rfl ?_
  show Y l g miX11_fails (d + 1) 9 [some (.inr (.inr (some a0))), some (.inl x1)] [] q102 _
  obtain rfl := Option.some.inj hf
  exact y_ret (v := none) dX11_fails_9 rfl
set_option maxRecDepth 100000 in
theorem dX11_isCaught_0 : decode prog_13_method_38_code 0 = .ok (.aload_n 0, 1) := by decide +kernel
set_option maxRecDepth 100000 in
theorem dX11_isCaught_1 : decode prog_13_method_38_code 1 = .ok (.getfield 173, 3) := by decide +kernel
set_option maxRecDepth 100000 in
theorem dX11_isCaught_4 : decode prog_13_method_38_code 4 = .ok (.ifCond .le 37, 3) := by decide +kernel
set_option maxRecDepth 100000 in
theorem dX11_isCaught_7 : decode prog_13_method_38_code 7 = .ok (.aload_n 0, 1) := by decide +kernel
set_option maxRecDepth 100000 in
theorem dX11_isCaught_8 : decode prog_13_method_38_code 8 = .ok (.getfield 173, 3) := by decide +kernel
set_option maxRecDepth 100000 in
theorem dX11_isCaught_11 : decode prog_13_method_38_code 11 = .ok (.bipush 7, 2) := by decide +kernel
set_option maxRecDepth 100000 in
theorem dX11_isCaught_13 : decode prog_13_method_38_code 13 = .ok (.if_icmp .lt 12, 3) := by decide +kernel
set_option maxRecDepth 100000 in
theorem dX11_isCaught_16 : decode prog_13_method_38_code 16 = .ok (.aload_n 0, 1) := by decide +kernel
set_option maxRecDepth 100000 in
theorem dX11_isCaught_17 : decode prog_13_method_38_code 17 = .ok (.getfield 173, 3) := by decide +kernel
set_option maxRecDepth 100000 in
theorem dX11_isCaught_20 : decode prog_13_method_38_code 20 = .ok (.bipush 99, 2) := by decide +kernel
set_option maxRecDepth 100000 in
theorem dX11_isCaught_22 : decode prog_13_method_38_code 22 = .ok (.if_icmp .le 19, 3) := by decide +kernel
set_option maxRecDepth 100000 in
theorem dX11_isCaught_25 : decode prog_13_method_38_code 25 = .ok (.iload_n 1, 1) := by decide +kernel
set_option maxRecDepth 100000 in
theorem dX11_isCaught_26 : decode prog_13_method_38_code 26 = .ok (.ifCond .eq 11, 3) := by decide +kernel
set_option maxRecDepth 100000 in
theorem dX11_isCaught_29 : decode prog_13_method_38_code 29 = .ok (.iload_n 1, 1) := by decide +kernel
set_option maxRecDepth 100000 in
theorem dX11_isCaught_30 : decode prog_13_method_38_code 30 = .ok (.aload_n 0, 1) := by decide +kernel
set_option maxRecDepth 100000 in
theorem dX11_isCaught_31 : decode prog_13_method_38_code 31 = .ok (.getfield 173, 3) := by decide +kernel
set_option maxRecDepth 100000 in
theorem dX11_isCaught_34 : decode prog_13_method_38_code 34 = .ok (.if_icmp .ne 7, 3) := by decide +kernel
set_option maxRecDepth 100000 in
theorem dX11_isCaught_37 : decode prog_13_method_38_code 37 = .ok (.iconst 1, 1) := by decide +kernel
set_option maxRecDepth 100000 in
theorem dX11_isCaught_38 : decode prog_13_method_38_code 38 = .ok (.goto 4, 3) := by decide +kernel
set_option maxRecDepth 100000 in
theorem dX11_isCaught_41 : decode prog_13_method_38_code 41 = .ok (.iconst 0, 1) := by decide +kernel
set_option maxRecDepth 100000 in
theorem dX11_isCaught_42 : decode prog_13_method_38_code 42 = .ok (.ireturn, 1) := by decide +kernel

def fX11_isCaught_25 (z : Nat → Nat) (a0 : Nat) (x1 : Int32) (h : aH) : Option (Int32 × aH) :=
  (if x1 = 0 then
  some (1, h)
  else
  (rdI h a0 [9] 29).bind fun x101 =>
  (if x1 = x101 then
  some (1, h)
  else
  some (0, h)))
set_option maxHeartbeats 4000000 in
set_option maxRecDepth 100000 in
theorem xX11_isCaught_25 {l : Launch} {g : aG} {d : Nat} (hK : 0 ≤ d) {a0 : Nat} {x1 : Int32} {h : aH} {q : Int32 × aH} (hf : fX11_isCaught_25 g.2.2 a0 x1 h = some q) : Y l g miX11_isCaught d 25 [some (.inr (.inr (some a0))), some (.inl x1)] [] h (some (.inl q.1), q.2) := by
  unfold fX11_isCaught_25 at hf
  refine y_iload_n (i := 1) dX11_isCaught_25 rfl rfl ?_
  refine y_if_eq (tgt := 37) dX11_isCaught_26 (by decide) (fun hc => ?_) (fun hc => ?_)
  · rw [if_pos hc] at hf
    refine y_iconst (v := 1) dX11_isCaught_37 (by decide) ?_
    refine y_goto (tgt := 42) dX11_isCaught_38 (by decide) ?_
    obtain rfl := Option.some.inj hf
    exact y_ret (v := some (.inl 1)) dX11_isCaught_42 rfl
  · rw [if_neg hc] at hf
    refine y_iload_n (i := 1) dX11_isCaught_29 rfl rfl ?_
    refine y_aload_n (i := 0) dX11_isCaught_30 rfl rfl ?_
    replace hf := bnd hf
    obtain ⟨x101, ex101, hf⟩ := hf
    refine y_getI ex101 fl11_173 dX11_isCaught_31 ?_
    refine y_icmp_ne (tgt := 41) dX11_isCaught_34 (by decide) (fun hc => ?_) (fun hc => ?_)
    · rw [if_neg hc] at hf
      refine y_iconst (v := 0) dX11_isCaught_41 (by decide) ?_
      obtain rfl := Option.some.inj hf
      exact y_ret (v := some (.inl 0)) dX11_isCaught_42 rfl
    · rw [if_pos hc] at hf
      refine y_iconst (v := 1) dX11_isCaught_37 (by decide) ?_
      refine y_goto (tgt := 42) dX11_isCaught_38 (by decide) ?_
      obtain rfl := Option.some.inj hf
      exact y_ret (v := some (.inl 1)) dX11_isCaught_42 rfl
def fX11_isCaught_e (z : Nat → Nat) (a0 : Nat) (x1 : Int32) (h : aH) : Option (Int32 × aH) :=
  (rdI h a0 [9] 29).bind fun x101 =>
  (if x101 ≤ 0 then
  some (0, h)
  else
  (rdI h a0 [9] 29).bind fun x102 =>
  (if x102 < 7 then
  fX11_isCaught_25 z a0 x1 h
  else
  (rdI h a0 [9] 29).bind fun x103 =>
  (if x103 ≤ 99 then
  some (0, h)
  else
  fX11_isCaught_25 z a0 x1 h)))
def fX11_isCaught (z : Nat → Nat) (a0 : Nat) (x1 : Int32) (h : aH) : Option (Int32 × aH) := chkB (fX11_isCaught_e z a0 x1 h)
set_option maxHeartbeats 4000000 in
set_option maxRecDepth 100000 in
theorem xX11_isCaught {l : Launch} {g : aG} {d : Nat} (hK : 0 ≤ d) {a0 : Nat} {x1 : Int32} {h : aH} {q : Int32 × aH} (hf : fX11_isCaught g.2.2 a0 x1 h = some q) : Ev l g miX11_isCaught d [.inr (.inr (some a0)), .inl x1] h (some (.inl q.1), q.2) := by
  replace hf := chkB_spec hf
  obtain ⟨hf, hb⟩ := hf
  refine ⟨?_, Or.inr ⟨rfl, hb⟩, Nat.le_of_ble_eq_true rfl⟩
  unfold fX11_isCaught_e at hf
  show Y l g miX11_isCaught d 0 [some (.inr (.inr (some a0))), some (.inl x1)] [] h _
  refine y_aload_n (i := 0) dX11_isCaught_0 rfl rfl ?_
  replace hf := bnd hf
  obtain ⟨x101, ex101, hf⟩ := hf
  refine y_getI ex101 fl11_173 dX11_isCaught_1 ?_
  refine y_if_le (tgt := 41) dX11_isCaught_4 (by decide) (fun hc => ?_) (fun hc => ?_)
  · rw [if_pos hc] at hf
    refine y_iconst (v := 0) dX11_isCaught_41 (by decide) ?_
    obtain rfl := Option.some.inj hf
    exact y_ret (v := some (.inl 0)) dX11_isCaught_42 rfl
  · rw [if_neg hc] at hf
    refine y_aload_n (i := 0) dX11_isCaught_7 rfl rfl ?_
    replace hf := bnd hf
    obtain ⟨x102, ex102, hf⟩ := hf
    refine y_getI ex102 fl11_173 dX11_isCaught_8 ?_
    refine y_bipush (v := 7) dX11_isCaught_11 (by decide) ?_
    refine y_icmp_lt (tgt := 25) dX11_isCaught_13 (by decide) (fun hc => ?_) (fun hc => ?_)
    · rw [if_pos hc] at hf
      refine Y.weak (lv2 := [some (.inr (.inr (some a0))), some (.inl x1)]) [true, true] rfl ?_
      exact xX11_isCaught_25 hK hf
    · rw [if_neg hc] at hf
      refine y_aload_n (i := 0) dX11_isCaught_16 rfl rfl ?_
      replace hf := bnd hf
      obtain ⟨x103, ex103, hf⟩ := hf
      refine y_getI ex103 fl11_173 dX11_isCaught_17 ?_
      refine y_bipush (v := 99) dX11_isCaught_20 (by decide) ?_
      refine y_icmp_le (tgt := 41) dX11_isCaught_22 (by decide) (fun hc => ?_) (fun hc => ?_)
      · rw [if_pos hc] at hf
        refine y_iconst (v := 0) dX11_isCaught_41 (by decide) ?_
        obtain rfl := Option.some.inj hf
        exact y_ret (v := some (.inl 0)) dX11_isCaught_42 rfl
      · rw [if_neg hc] at hf
        refine Y.weak (lv2 := [some (.inr (.inr (some a0))), some (.inl x1)]) [true, true] rfl ?_
        exact xX11_isCaught_25 hK hf
set_option maxRecDepth 100000 in
theorem dX11_last_0 : decode prog_13_method_39_code 0 = .ok (.aload_n 0, 1) := by decide +kernel
set_option maxRecDepth 100000 in
theorem dX11_last_1 : decode prog_13_method_39_code 1 = .ok (.getfield 78, 3) := by decide +kernel
set_option maxRecDepth 100000 in
theorem dX11_last_4 : decode prog_13_method_39_code 4 = .ok (.iload_n 1, 1) := by decide +kernel
set_option maxRecDepth 100000 in
theorem dX11_last_5 : decode prog_13_method_39_code 5 = .ok (.bipush 9, 2) := by decide +kernel
set_option maxRecDepth 100000 in
theorem dX11_last_7 : decode prog_13_method_39_code 7 = .ok (.iastore, 1) := by decide +kernel
set_option maxRecDepth 100000 in
theorem dX11_last_8 : decode prog_13_method_39_code 8 = .ok (.aload_n 0, 1) := by decide +kernel
set_option maxRecDepth 100000 in
theorem dX11_last_9 : decode prog_13_method_39_code 9 = .ok (.iload_n 2, 1) := by decide +kernel
set_option maxRecDepth 100000 in
theorem dX11_last_10 : decode prog_13_method_39_code 10 = .ok (.invokevirtual 259, 3) := by decide +kernel
set_option maxRecDepth 100000 in
theorem dX11_last_13 : decode prog_13_method_39_code 13 = .ok (.return_, 1) := by decide +kernel

def fX11_last (z : Nat → Nat) (a0 : Nat) (x1 : Int32) (x2 : Int32) (h : aH) : Option aH :=
  (rdR h a0 [9] 36).bind fun r101 =>
  (r101).bind fun a102 =>
  (awI h a102 x1 9).bind fun h103 =>
  (obO h103 a0 9).bind fun fs105 =>
  (fX11_calls z a0 x2 h103).bind fun q104 =>
  some q104
set_option maxHeartbeats 4000000 in
set_option maxRecDepth 100000 in
theorem xX11_last {l : Launch} {g : aG} {d : Nat} (hK : 1 ≤ d) {a0 : Nat} {x1 : Int32} {x2 : Int32} {h : aH} {q : aH} (hf : fX11_last g.2.2 a0 x1 x2 h = some q) : Ev l g miX11_last d [.inr (.inr (some a0)), .inl x1, .inl x2] h (none, q) := by
  obtain ⟨d, rfl⟩ : ∃ e, d = e + 1 := ⟨d - 1, by omega⟩
  refine ⟨?_, rfl, Nat.le_of_ble_eq_true rfl⟩
  unfold fX11_last at hf
  show Y l g miX11_last (d + 1) 0 [some (.inr (.inr (some a0))), some (.inl x1), some (.inl x2)] [] h _
  refine y_aload_n (i := 0) dX11_last_0 rfl rfl ?_
  replace hf := bnd hf
  obtain ⟨r101, er101, hf⟩ := hf
  refine y_getR er101 fl11_78 dX11_last_1 ?_
  refine y_iload_n (i := 1) dX11_last_4 rfl rfl ?_
  refine y_bipush (v := 9) dX11_last_5 (by decide) ?_
  replace hf := bnd hf
  obtain ⟨a102, rfl, hf⟩ := hf
  replace hf := bnd hf
  obtain ⟨h103, eh103, hf⟩ := hf
  refine y_iastore eh103 dX11_last_7 ?_
  refine y_aload_n (i := 0) dX11_last_8 rfl rfl ?_
  refine y_iload_n (i := 2) dX11_last_9 rfl rfl ?_
  replace hf := bnd hf
  obtain ⟨fs105, efs105, hf⟩ := hf
  replace hf := bnd hf
  obtain ⟨q104, eq104, hf⟩ := hf
  refine y_callV (mj := miX11_calls) (args := [.inl x2]) (st := []) dX11_last_10 (gd_of 1005 rfl rfl) (gd_of 1007 rfl rfl) (gd_of 55 rfl rfl) okX11_calls (obO_spec efs105) rfl rfl (xX11_calls (by omega) eq104) (Nat.le_of_ble_eq_true rfl) rfl ?_
  show Y l g miX11_last (d + 1) 13 [some (.inr (.inr (some a0))), some (.inl x1), some (.inl x2)] [] q104 _
  obtain rfl := Option.some.inj hf
  exact y_ret (v := none) dX11_last_13 rfl
set_option maxRecDepth 100000 in
theorem dX11_rounds_0 : decode prog_13_method_42_code 0 = .ok (.iload_n 2, 1) := by decide +kernel
set_option maxRecDepth 100000 in
theorem dX11_rounds_1 : decode prog_13_method_42_code 1 = .ok (.ifCond .ne 11, 3) := by decide +kernel
set_option maxRecDepth 100000 in
theorem dX11_rounds_4 : decode prog_13_method_42_code 4 = .ok (.aload_n 0, 1) := by decide +kernel
set_option maxRecDepth 100000 in
theorem dX11_rounds_5 : decode prog_13_method_42_code 5 = .ok (.iload_n 3, 1) := by decide +kernel
set_option maxRecDepth 100000 in
theorem dX11_rounds_6 : decode prog_13_method_42_code 6 = .ok (.invokevirtual 259, 3) := by decide +kernel
set_option maxRecDepth 100000 in
theorem dX11_rounds_9 : decode prog_13_method_42_code 9 = .ok (.goto 103, 3) := by decide +kernel
set_option maxRecDepth 100000 in
theorem dX11_rounds_12 : decode prog_13_method_42_code 12 = .ok (.iload_n 2, 1) := by decide +kernel
set_option maxRecDepth 100000 in
theorem dX11_rounds_13 : decode prog_13_method_42_code 13 = .ok (.iconst 1, 1) := by decide +kernel
set_option maxRecDepth 100000 in
theorem dX11_rounds_14 : decode prog_13_method_42_code 14 = .ok (.if_icmp .ne 29, 3) := by decide +kernel
set_option maxRecDepth 100000 in
theorem dX11_rounds_17 : decode prog_13_method_42_code 17 = .ok (.aload_n 0, 1) := by decide +kernel
set_option maxRecDepth 100000 in
theorem dX11_rounds_18 : decode prog_13_method_42_code 18 = .ok (.getfield 96, 3) := by decide +kernel
set_option maxRecDepth 100000 in
theorem dX11_rounds_21 : decode prog_13_method_42_code 21 = .ok (.iload_n 1, 1) := by decide +kernel
set_option maxRecDepth 100000 in
theorem dX11_rounds_22 : decode prog_13_method_42_code 22 = .ok (.aload_n 0, 1) := by decide +kernel
set_option maxRecDepth 100000 in
theorem dX11_rounds_23 : decode prog_13_method_42_code 23 = .ok (.getfield 210, 3) := by decide +kernel
set_option maxRecDepth 100000 in
theorem dX11_rounds_26 : decode prog_13_method_42_code 26 = .ok (.lastore, 1) := by decide +kernel
set_option maxRecDepth 100000 in
theorem dX11_rounds_27 : decode prog_13_method_42_code 27 = .ok (.aload_n 0, 1) := by decide +kernel
set_option maxRecDepth 100000 in
theorem dX11_rounds_28 : decode prog_13_method_42_code 28 = .ok (.getfield 99, 3) := by decide +kernel
set_option maxRecDepth 100000 in
theorem dX11_rounds_31 : decode prog_13_method_42_code 31 = .ok (.iload_n 1, 1) := by decide +kernel
set_option maxRecDepth 100000 in
theorem dX11_rounds_32 : decode prog_13_method_42_code 32 = .ok (.lconst 0, 1) := by decide +kernel
set_option maxRecDepth 100000 in
theorem dX11_rounds_33 : decode prog_13_method_42_code 33 = .ok (.lastore, 1) := by decide +kernel
set_option maxRecDepth 100000 in
theorem dX11_rounds_34 : decode prog_13_method_42_code 34 = .ok (.aload_n 0, 1) := by decide +kernel
set_option maxRecDepth 100000 in
theorem dX11_rounds_35 : decode prog_13_method_42_code 35 = .ok (.iload 5, 2) := by decide +kernel
set_option maxRecDepth 100000 in
theorem dX11_rounds_37 : decode prog_13_method_42_code 37 = .ok (.invokevirtual 259, 3) := by decide +kernel
set_option maxRecDepth 100000 in
theorem dX11_rounds_40 : decode prog_13_method_42_code 40 = .ok (.goto 72, 3) := by decide +kernel
set_option maxRecDepth 100000 in
theorem dX11_rounds_43 : decode prog_13_method_42_code 43 = .ok (.aload_n 0, 1) := by decide +kernel
set_option maxRecDepth 100000 in
theorem dX11_rounds_44 : decode prog_13_method_42_code 44 = .ok (.getfield 99, 3) := by decide +kernel
set_option maxRecDepth 100000 in
theorem dX11_rounds_47 : decode prog_13_method_42_code 47 = .ok (.iload_n 1, 1) := by decide +kernel
set_option maxRecDepth 100000 in
theorem dX11_rounds_48 : decode prog_13_method_42_code 48 = .ok (.laload, 1) := by decide +kernel
set_option maxRecDepth 100000 in
theorem dX11_rounds_49 : decode prog_13_method_42_code 49 = .ok (.aload_n 0, 1) := by decide +kernel
set_option maxRecDepth 100000 in
theorem dX11_rounds_50 : decode prog_13_method_42_code 50 = .ok (.getfield 96, 3) := by decide +kernel
set_option maxRecDepth 100000 in
theorem dX11_rounds_53 : decode prog_13_method_42_code 53 = .ok (.iload_n 1, 1) := by decide +kernel
set_option maxRecDepth 100000 in
theorem dX11_rounds_54 : decode prog_13_method_42_code 54 = .ok (.laload, 1) := by decide +kernel
set_option maxRecDepth 100000 in
theorem dX11_rounds_55 : decode prog_13_method_42_code 55 = .ok (.lcmp, 1) := by decide +kernel
set_option maxRecDepth 100000 in
theorem dX11_rounds_56 : decode prog_13_method_42_code 56 = .ok (.ifCond .ge 52, 3) := by decide +kernel
set_option maxRecDepth 100000 in
theorem dX11_rounds_59 : decode prog_13_method_42_code 59 = .ok (.aload_n 0, 1) := by decide +kernel
set_option maxRecDepth 100000 in
theorem dX11_rounds_60 : decode prog_13_method_42_code 60 = .ok (.aload_n 0, 1) := by decide +kernel
set_option maxRecDepth 100000 in
theorem dX11_rounds_61 : decode prog_13_method_42_code 61 = .ok (.getfield 207, 3) := by decide +kernel
set_option maxRecDepth 100000 in
theorem dX11_rounds_64 : decode prog_13_method_42_code 64 = .ok (.aload_n 0, 1) := by decide +kernel
set_option maxRecDepth 100000 in
theorem dX11_rounds_65 : decode prog_13_method_42_code 65 = .ok (.getfield 210, 3) := by decide +kernel
set_option maxRecDepth 100000 in
theorem dX11_rounds_68 : decode prog_13_method_42_code 68 = .ok (.invokevirtual 230, 3) := by decide +kernel
set_option maxRecDepth 100000 in
theorem dX11_rounds_71 : decode prog_13_method_42_code 71 = .ok (.aload_n 0, 1) := by decide +kernel
set_option maxRecDepth 100000 in
theorem dX11_rounds_72 : decode prog_13_method_42_code 72 = .ok (.iconst 0, 1) := by decide +kernel
set_option maxRecDepth 100000 in
theorem dX11_rounds_73 : decode prog_13_method_42_code 73 = .ok (.aload_n 0, 1) := by decide +kernel
set_option maxRecDepth 100000 in
theorem dX11_rounds_74 : decode prog_13_method_42_code 74 = .ok (.getfield 99, 3) := by decide +kernel
set_option maxRecDepth 100000 in
theorem dX11_rounds_77 : decode prog_13_method_42_code 77 = .ok (.iload_n 1, 1) := by decide +kernel
set_option maxRecDepth 100000 in
theorem dX11_rounds_78 : decode prog_13_method_42_code 78 = .ok (.laload, 1) := by decide +kernel
set_option maxRecDepth 100000 in
theorem dX11_rounds_79 : decode prog_13_method_42_code 79 = .ok (.invokevirtual 230, 3) := by decide +kernel
set_option maxRecDepth 100000 in
theorem dX11_rounds_82 : decode prog_13_method_42_code 82 = .ok (.aload_n 0, 1) := by decide +kernel
set_option maxRecDepth 100000 in
theorem dX11_rounds_83 : decode prog_13_method_42_code 83 = .ok (.getfield 99, 3) := by decide +kernel
set_option maxRecDepth 100000 in
theorem dX11_rounds_86 : decode prog_13_method_42_code 86 = .ok (.iload_n 1, 1) := by decide +kernel
set_option maxRecDepth 100000 in
theorem dX11_rounds_87 : decode prog_13_method_42_code 87 = .ok (.dup2, 1) := by decide +kernel
set_option maxRecDepth 100000 in
theorem dX11_rounds_88 : decode prog_13_method_42_code 88 = .ok (.laload, 1) := by decide +kernel
set_option maxRecDepth 100000 in
theorem dX11_rounds_89 : decode prog_13_method_42_code 89 = .ok (.lconst 1, 1) := by decide +kernel
set_option maxRecDepth 100000 in
theorem dX11_rounds_90 : decode prog_13_method_42_code 90 = .ok (.ladd, 1) := by decide +kernel
set_option maxRecDepth 100000 in
theorem dX11_rounds_91 : decode prog_13_method_42_code 91 = .ok (.lastore, 1) := by decide +kernel
set_option maxRecDepth 100000 in
theorem dX11_rounds_92 : decode prog_13_method_42_code 92 = .ok (.aload_n 0, 1) := by decide +kernel
set_option maxRecDepth 100000 in
theorem dX11_rounds_93 : decode prog_13_method_42_code 93 = .ok (.getfield 78, 3) := by decide +kernel
set_option maxRecDepth 100000 in
theorem dX11_rounds_96 : decode prog_13_method_42_code 96 = .ok (.iload_n 1, 1) := by decide +kernel
set_option maxRecDepth 100000 in
theorem dX11_rounds_97 : decode prog_13_method_42_code 97 = .ok (.iconst 2, 1) := by decide +kernel
set_option maxRecDepth 100000 in
theorem dX11_rounds_98 : decode prog_13_method_42_code 98 = .ok (.iastore, 1) := by decide +kernel
set_option maxRecDepth 100000 in
theorem dX11_rounds_99 : decode prog_13_method_42_code 99 = .ok (.aload_n 0, 1) := by decide +kernel
set_option maxRecDepth 100000 in
theorem dX11_rounds_100 : decode prog_13_method_42_code 100 = .ok (.iload 4, 2) := by decide +kernel
set_option maxRecDepth 100000 in
theorem dX11_rounds_102 : decode prog_13_method_42_code 102 = .ok (.invokevirtual 259, 3) := by decide +kernel
set_option maxRecDepth 100000 in
theorem dX11_rounds_105 : decode prog_13_method_42_code 105 = .ok (.goto 7, 3) := by decide +kernel
set_option maxRecDepth 100000 in
theorem dX11_rounds_108 : decode prog_13_method_42_code 108 = .ok (.aload_n 0, 1) := by decide +kernel
set_option maxRecDepth 100000 in
theorem dX11_rounds_109 : decode prog_13_method_42_code 109 = .ok (.invokevirtual 243, 3) := by decide +kernel
set_option maxRecDepth 100000 in
theorem dX11_rounds_112 : decode prog_13_method_42_code 112 = .ok (.return_, 1) := by decide +kernel

def fX11_rounds (z : Nat → Nat) (a0 : Nat) (x1 : Int32) (x2 : Int32) (x3 : Int32) (x4 : Int32) (x5 : Int32) (h : aH) : Option aH :=
  (if x2 = 0 then
  (obO h a0 9).bind fun fs137 =>
  (fX11_calls z a0 x3 h).bind fun q136 =>
  some q136
  else
  (if x2 = 1 then
  (rdR h a0 [9] 42).bind fun r127 =>
  (rdJ h a0 [9] 31).bind fun j128 =>
  (r127).bind fun a129 =>
  (awJ h a129 x1 j128).bind fun h130 =>
  (rdR h130 a0 [9] 43).bind fun r131 =>
  (r131).bind fun a132 =>
  (awJ h130 a132 x1 0).bind fun h133 =>
  (obO h133 a0 9).bind fun fs135 =>
  (fX11_calls z a0 x5 h133).bind fun q134 =>
  some q134
  else
  (rdR h a0 [9] 43).bind fun r101 =>
  (r101).bind fun a102 =>
  (arJ h a102 x1).bind fun j103 =>
  (rdR h a0 [9] 42).bind fun r104 =>
  (r104).bind fun a105 =>
  (arJ h a105 x1).bind fun j106 =>
  (if 0 ≤ (lg_cmp j103 j106) then
  (obO h a0 9).bind fun fs108 =>
  (fX11_over z a0 h).bind fun q107 =>
  some q107
  else
  (rdI h a0 [9] 30).bind fun x109 =>
  (rdJ h a0 [9] 31).bind fun j110 =>
  (obO h a0 9).bind fun fs112 =>
  (fX11_add z a0 x109 j110 h).bind fun q111 =>
  (rdR q111 a0 [9] 43).bind fun r113 =>
  (r113).bind fun a114 =>
  (arJ q111 a114 x1).bind fun j115 =>
  (obO q111 a0 9).bind fun fs117 =>
  (fX11_add z a0 0 j115 q111).bind fun q116 =>
  (rdR q116 a0 [9] 43).bind fun r118 =>
  (r118).bind fun a119 =>
  (arJ q116 a119 x1).bind fun j120 =>
  (awJ q116 a119 x1 (j120 + 1)).bind fun h121 =>
  (rdR h121 a0 [9] 36).bind fun r122 =>
  (r122).bind fun a123 =>
  (awI h121 a123 x1 2).bind fun h124 =>
  (obO h124 a0 9).bind fun fs126 =>
  (fX11_calls z a0 x4 h124).bind fun q125 =>
  some q125)))
set_option maxHeartbeats 4000000 in
set_option maxRecDepth 100000 in
theorem xX11_rounds {l : Launch} {g : aG} {d : Nat} (hK : 1 ≤ d) {a0 : Nat} {x1 : Int32} {x2 : Int32} {x3 : Int32} {x4 : Int32} {x5 : Int32} {h : aH} {q : aH} (hf : fX11_rounds g.2.2 a0 x1 x2 x3 x4 x5 h = some q) : Ev l g miX11_rounds d [.inr (.inr (some a0)), .inl x1, .inl x2, .inl x3, .inl x4, .inl x5] h (none, q) := by
  obtain ⟨d, rfl⟩ : ∃ e, d = e + 1 := ⟨d - 1, by omega⟩
  refine ⟨?_, rfl, Nat.le_of_ble_eq_true rfl⟩
  unfold fX11_rounds at hf
  show Y l g miX11_rounds (d + 1) 0 [some (.inr (.inr (some a0))), some (.inl x1), some (.inl x2), some (.inl x3), some (.inl x4), some (.inl x5)] [] h _
  refine y_iload_n (i := 2) dX11_rounds_0 rfl rfl ?_
  refine y_if_ne (tgt := 12) dX11_rounds_1 (by decide) (fun hc => ?_) (fun hc => ?_)
  · rw [if_neg hc] at hf
    refine y_iload_n (i := 2) dX11_rounds_12 rfl rfl ?_
    refine y_iconst (v := 1) dX11_rounds_13 (by decide) ?_
    refine y_icmp_ne (tgt := 43) dX11_rounds_14 (by decide) (fun hc => ?_) (fun hc => ?_)
    · rw [if_neg hc] at hf
      refine y_aload_n (i := 0) dX11_rounds_43 rfl rfl ?_
      replace hf := bnd hf
      obtain ⟨r101, er101, hf⟩ := hf
      refine y_getR er101 fl11_99 dX11_rounds_44 ?_
      refine y_iload_n (i := 1) dX11_rounds_47 rfl rfl ?_
      replace hf := bnd hf
      obtain ⟨a102, rfl, hf⟩ := hf
      replace hf := bnd hf
      obtain ⟨j103, ej103, hf⟩ := hf
      refine y_laload ej103 dX11_rounds_48 ?_
      refine y_aload_n (i := 0) dX11_rounds_49 rfl rfl ?_
      replace hf := bnd hf
      obtain ⟨r104, er104, hf⟩ := hf
      refine y_getR er104 fl11_96 dX11_rounds_50 ?_
      refine y_iload_n (i := 1) dX11_rounds_53 rfl rfl ?_
      replace hf := bnd hf
      obtain ⟨a105, rfl, hf⟩ := hf
      replace hf := bnd hf
      obtain ⟨j106, ej106, hf⟩ := hf
      refine y_laload ej106 dX11_rounds_54 ?_
      refine y_lcmp dX11_rounds_55 ?_
      refine y_if_ge (tgt := 108) dX11_rounds_56 (by decide) (fun hc => ?_) (fun hc => ?_)
      · rw [if_pos hc] at hf
        refine y_aload_n (i := 0) dX11_rounds_108 rfl rfl ?_
        replace hf := bnd hf
        obtain ⟨fs108, efs108, hf⟩ := hf
        replace hf := bnd hf
        obtain ⟨q107, eq107, hf⟩ := hf
        refine y_callV (mj := miX11_over) (args := []) (st := []) dX11_rounds_109 (gd_of 1021 rfl rfl) (gd_of 1023 rfl rfl) (gd_of 59 rfl rfl) okX11_over (obO_spec efs108) rfl rfl (xX11_over (by omega) eq107) (Nat.le_of_ble_eq_true rfl) rfl ?_
        show Y l g miX11_rounds (d + 1) 112 [some (.inr (.inr (some a0))), some (.inl x1), some (.inl x2), some (.inl x3), some (.inl x4), some (.inl x5)] [] q107 _
        obtain rfl := Option.some.inj hf
        exact y_ret (v := none) dX11_rounds_112 rfl
      · rw [if_neg hc] at hf
        refine y_aload_n (i := 0) dX11_rounds_59 rfl rfl ?_
        refine y_aload_n (i := 0) dX11_rounds_60 rfl rfl ?_
        replace hf := bnd hf
        obtain ⟨x109, ex109, hf⟩ := hf
        refine y_getI ex109 fl11_207 dX11_rounds_61 ?_
        refine y_aload_n (i := 0) dX11_rounds_64 rfl rfl ?_
        replace hf := bnd hf
        obtain ⟨j110, ej110, hf⟩ := hf
        refine y_getJ ej110 fl11_210 dX11_rounds_65 ?_
        replace hf := bnd hf
        obtain ⟨fs112, efs112, hf⟩ := hf
        replace hf := bnd hf
        obtain ⟨q111, eq111, hf⟩ := hf
        refine y_callV (mj := miX11_add) (args := [.inl x109, .inr (.inl j110)]) (st := []) dX11_rounds_68 (gd_of 1001 rfl rfl) (gd_of 1003 rfl rfl) (gd_of 54 rfl rfl) okX11_add (obO_spec efs112) rfl rfl (xX11_add (by omega) eq111) (Nat.le_of_ble_eq_true rfl) rfl ?_
        show Y l g miX11_rounds (d + 1) 71 [some (.inr (.inr (some a0))), some (.inl x1), some (.inl x2), some (.inl x3), some (.inl x4), some (.inl x5)] [] q111 _
        refine y_aload_n (i := 0) dX11_rounds_71 rfl rfl ?_
        refine y_iconst (v := 0) dX11_rounds_72 (by decide) ?_
        refine y_aload_n (i := 0) dX11_rounds_73 rfl rfl ?_
        replace hf := bnd hf
        obtain ⟨r113, er113, hf⟩ := hf
        refine y_getR er113 fl11_99 dX11_rounds_74 ?_
        refine y_iload_n (i := 1) dX11_rounds_77 rfl rfl ?_
        replace hf := bnd hf
        obtain ⟨a114, rfl, hf⟩ := hf
        replace hf := bnd hf
        obtain ⟨j115, ej115, hf⟩ := hf
        refine y_laload ej115 dX11_rounds_78 ?_
        replace hf := bnd hf
        obtain ⟨fs117, efs117, hf⟩ := hf
        replace hf := bnd hf
        obtain ⟨q116, eq116, hf⟩ := hf
        refine y_callV (mj := miX11_add) (args := [.inl 0, .inr (.inl j115)]) (st := []) dX11_rounds_79 (gd_of 1001 rfl rfl) (gd_of 1003 rfl rfl) (gd_of 54 rfl rfl) okX11_add (obO_spec efs117) rfl rfl (xX11_add (by omega) eq116) (Nat.le_of_ble_eq_true rfl) rfl ?_
        show Y l g miX11_rounds (d + 1) 82 [some (.inr (.inr (some a0))), some (.inl x1), some (.inl x2), some (.inl x3), some (.inl x4), some (.inl x5)] [] q116 _
        refine y_aload_n (i := 0) dX11_rounds_82 rfl rfl ?_
        replace hf := bnd hf
        obtain ⟨r118, er118, hf⟩ := hf
        refine y_getR er118 fl11_99 dX11_rounds_83 ?_
        refine y_iload_n (i := 1) dX11_rounds_86 rfl rfl ?_
        refine y_dup2 dX11_rounds_87 rfl rfl ?_
        replace hf := bnd hf
        obtain ⟨a119, rfl, hf⟩ := hf
        replace hf := bnd hf
        obtain ⟨j120, ej120, hf⟩ := hf
        refine y_laload ej120 dX11_rounds_88 ?_
        refine y_lconst (v := 1) dX11_rounds_89 (by decide) ?_
        refine y_ladd dX11_rounds_90 ?_
        replace hf := bnd hf
        obtain ⟨h121, eh121, hf⟩ := hf
        refine y_lastore eh121 dX11_rounds_91 ?_
        refine y_aload_n (i := 0) dX11_rounds_92 rfl rfl ?_
        replace hf := bnd hf
        obtain ⟨r122, er122, hf⟩ := hf
        refine y_getR er122 fl11_78 dX11_rounds_93 ?_
        refine y_iload_n (i := 1) dX11_rounds_96 rfl rfl ?_
        refine y_iconst (v := 2) dX11_rounds_97 (by decide) ?_
        replace hf := bnd hf
        obtain ⟨a123, rfl, hf⟩ := hf
        replace hf := bnd hf
        obtain ⟨h124, eh124, hf⟩ := hf
        refine y_iastore eh124 dX11_rounds_98 ?_
        refine y_aload_n (i := 0) dX11_rounds_99 rfl rfl ?_
        refine y_iload (i := 4) dX11_rounds_100 rfl ?_
        replace hf := bnd hf
        obtain ⟨fs126, efs126, hf⟩ := hf
        replace hf := bnd hf
        obtain ⟨q125, eq125, hf⟩ := hf
        refine y_callV (mj := miX11_calls) (args := [.inl x4]) (st := []) dX11_rounds_102 (gd_of 1005 rfl rfl) (gd_of 1007 rfl rfl) (gd_of 55 rfl rfl) okX11_calls (obO_spec efs126) rfl rfl (xX11_calls (by omega) eq125) (Nat.le_of_ble_eq_true rfl) rfl ?_
        show Y l g miX11_rounds (d + 1) 105 [some (.inr (.inr (some a0))), some (.inl x1), some (.inl x2), some (.inl x3), some (.inl x4), some (.inl x5)] [] q125 _
        refine y_goto (tgt := 112) dX11_rounds_105 (by decide) ?_
        obtain rfl := Option.some.inj hf
        exact y_ret (v := none) dX11_rounds_112 rfl
    · rw [if_pos hc] at hf
      refine y_aload_n (i := 0) dX11_rounds_17 rfl rfl ?_
      replace hf := bnd hf
      obtain ⟨r127, er127, hf⟩ := hf
      refine y_getR er127 fl11_96 dX11_rounds_18 ?_
      refine y_iload_n (i := 1) dX11_rounds_21 rfl rfl ?_
      refine y_aload_n (i := 0) dX11_rounds_22 rfl rfl ?_
      replace hf := bnd hf
      obtain ⟨j128, ej128, hf⟩ := hf
      refine y_getJ ej128 fl11_210 dX11_rounds_23 ?_
      replace hf := bnd hf
      obtain ⟨a129, rfl, hf⟩ := hf
      replace hf := bnd hf
      obtain ⟨h130, eh130, hf⟩ := hf
      refine y_lastore eh130 dX11_rounds_26 ?_
      refine y_aload_n (i := 0) dX11_rounds_27 rfl rfl ?_
      replace hf := bnd hf
      obtain ⟨r131, er131, hf⟩ := hf
      refine y_getR er131 fl11_99 dX11_rounds_28 ?_
      refine y_iload_n (i := 1) dX11_rounds_31 rfl rfl ?_
      refine y_lconst (v := 0) dX11_rounds_32 (by decide) ?_
      replace hf := bnd hf
      obtain ⟨a132, rfl, hf⟩ := hf
      replace hf := bnd hf
      obtain ⟨h133, eh133, hf⟩ := hf
      refine y_lastore eh133 dX11_rounds_33 ?_
      refine y_aload_n (i := 0) dX11_rounds_34 rfl rfl ?_
      refine y_iload (i := 5) dX11_rounds_35 rfl ?_
      replace hf := bnd hf
      obtain ⟨fs135, efs135, hf⟩ := hf
      replace hf := bnd hf
      obtain ⟨q134, eq134, hf⟩ := hf
      refine y_callV (mj := miX11_calls) (args := [.inl x5]) (st := []) dX11_rounds_37 (gd_of 1005 rfl rfl) (gd_of 1007 rfl rfl) (gd_of 55 rfl rfl) okX11_calls (obO_spec efs135) rfl rfl (xX11_calls (by omega) eq134) (Nat.le_of_ble_eq_true rfl) rfl ?_
      show Y l g miX11_rounds (d + 1) 40 [some (.inr (.inr (some a0))), some (.inl x1), some (.inl x2), some (.inl x3), some (.inl x4), some (.inl x5)] [] q134 _
      refine y_goto (tgt := 112) dX11_rounds_40 (by decide) ?_
      obtain rfl := Option.some.inj hf
      exact y_ret (v := none) dX11_rounds_112 rfl
  · rw [if_pos hc] at hf
    refine y_aload_n (i := 0) dX11_rounds_4 rfl rfl ?_
    refine y_iload_n (i := 3) dX11_rounds_5 rfl rfl ?_
    replace hf := bnd hf
    obtain ⟨fs137, efs137, hf⟩ := hf
    replace hf := bnd hf
    obtain ⟨q136, eq136, hf⟩ := hf
    refine y_callV (mj := miX11_calls) (args := [.inl x3]) (st := []) dX11_rounds_6 (gd_of 1005 rfl rfl) (gd_of 1007 rfl rfl) (gd_of 55 rfl rfl) okX11_calls (obO_spec efs137) rfl rfl (xX11_calls (by omega) eq136) (Nat.le_of_ble_eq_true rfl) rfl ?_
    show Y l g miX11_rounds (d + 1) 9 [some (.inr (.inr (some a0))), some (.inl x1), some (.inl x2), some (.inl x3), some (.inl x4), some (.inl x5)] [] q136 _
    refine y_goto (tgt := 112) dX11_rounds_9 (by decide) ?_
    obtain rfl := Option.some.inj hf
    exact y_ret (v := none) dX11_rounds_112 rfl
