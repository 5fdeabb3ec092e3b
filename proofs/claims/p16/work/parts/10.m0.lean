set_option maxRecDepth 100000 in
theorem dX4_init_0 : decode prog_6_method_1_code 0 = .ok (.aload_n 0, 1) := by decide +kernel
set_option maxRecDepth 100000 in
theorem dX4_init_1 : decode prog_6_method_1_code 1 = .ok (.invokespecial 3, 3) := by decide +kernel
set_option maxRecDepth 100000 in
theorem dX4_init_4 : decode prog_6_method_1_code 4 = .ok (.aload_n 0, 1) := by decide +kernel
set_option maxRecDepth 100000 in
theorem dX4_init_5 : decode prog_6_method_1_code 5 = .ok (.sipush 1200, 3) := by decide +kernel
set_option maxRecDepth 100000 in
theorem dX4_init_8 : decode prog_6_method_1_code 8 = .ok (.newarray .int, 2) := by decide +kernel
set_option maxRecDepth 100000 in
theorem dX4_init_10 : decode prog_6_method_1_code 10 = .ok (.putfield 9, 3) := by decide +kernel
set_option maxRecDepth 100000 in
theorem dX4_init_13 : decode prog_6_method_1_code 13 = .ok (.aload_n 0, 1) := by decide +kernel
set_option maxRecDepth 100000 in
theorem dX4_init_14 : decode prog_6_method_1_code 14 = .ok (.bipush 60, 2) := by decide +kernel
set_option maxRecDepth 100000 in
theorem dX4_init_16 : decode prog_6_method_1_code 16 = .ok (.newarray .int, 2) := by decide +kernel
set_option maxRecDepth 100000 in
theorem dX4_init_18 : decode prog_6_method_1_code 18 = .ok (.putfield 15, 3) := by decide +kernel
set_option maxRecDepth 100000 in
theorem dX4_init_21 : decode prog_6_method_1_code 21 = .ok (.aload_n 0, 1) := by decide +kernel
set_option maxRecDepth 100000 in
theorem dX4_init_22 : decode prog_6_method_1_code 22 = .ok (.iconst 0, 1) := by decide +kernel
set_option maxRecDepth 100000 in
theorem dX4_init_23 : decode prog_6_method_1_code 23 = .ok (.putfield 18, 3) := by decide +kernel
set_option maxRecDepth 100000 in
theorem dX4_init_26 : decode prog_6_method_1_code 26 = .ok (.return_, 1) := by decide +kernel
set_option maxRecDepth 100000 in
theorem fl4_9 : ∀ c ∈ ([3] : List Nat), FL "HandleModels$Rows" 9 c 0 := fun c hc => by
  cases List.mem_singleton.mp hc
  exact ⟨_, "HandleModels$Rows", rfl, by decide, (gd_of 104 rfl rfl), Or.inl rfl⟩
set_option maxRecDepth 100000 in
theorem pl4_9_i {mi : aM} {x : Option Nat} (ho : "HandleModels$Rows" = mi.1.cls) (hn : mi.1.name = "<init>") (hc : "HandleModels$Rows" = mi.1.cls) : ∀ c ∈ ([3] : List Nat), FL mi.1.cls 9 c 0 ∧ FT c 0 (.inr (.inr x)) ∧ FW mi c 0 := fun c h9 => by
  have h8 := fl4_9 c h9
  rw [← ho]
  refine ⟨h8, ?_⟩
  simp only [List.mem_cons, List.not_mem_nil, or_false] at h9
  rcases h9 with rfl
  · exact ⟨ft_arr (n := .int) rfl (by decide +kernel), ⟨_, rfl, Or.inr ⟨rfl, hn, hc⟩⟩⟩
set_option maxRecDepth 100000 in
theorem fl4_15 : ∀ c ∈ ([3] : List Nat), FL "HandleModels$Rows" 15 c 1 := fun c hc => by
  cases List.mem_singleton.mp hc
  exact ⟨_, "HandleModels$Rows", rfl, by decide, (gd_of 105 rfl rfl), Or.inl rfl⟩
set_option maxRecDepth 100000 in
theorem pl4_15_i {mi : aM} {x : Option Nat} (ho : "HandleModels$Rows" = mi.1.cls) (hn : mi.1.name = "<init>") (hc : "HandleModels$Rows" = mi.1.cls) : ∀ c ∈ ([3] : List Nat), FL mi.1.cls 15 c 1 ∧ FT c 1 (.inr (.inr x)) ∧ FW mi c 1 := fun c h9 => by
  have h8 := fl4_15 c h9
  rw [← ho]
  refine ⟨h8, ?_⟩
  simp only [List.mem_cons, List.not_mem_nil, or_false] at h9
  rcases h9 with rfl
  · exact ⟨ft_arr (n := .int) rfl (by decide +kernel), ⟨_, rfl, Or.inr ⟨rfl, hn, hc⟩⟩⟩
set_option maxRecDepth 100000 in
theorem fl4_18 : ∀ c ∈ ([3] : List Nat), FL "HandleModels$Rows" 18 c 2 := fun c hc => by
  cases List.mem_singleton.mp hc
  exact ⟨_, "HandleModels$Rows", rfl, by decide, (gd_of 106 rfl rfl), Or.inl rfl⟩
set_option maxRecDepth 100000 in
theorem pl4_18_i {mi : aM} {x : Int32} (ho : "HandleModels$Rows" = mi.1.cls) : ∀ c ∈ ([3] : List Nat), FL mi.1.cls 18 c 2 ∧ FT c 2 (.inl x) ∧ FW mi c 2 := fun c h9 => by
  have h8 := fl4_18 c h9
  rw [← ho]
  refine ⟨h8, ?_⟩
  simp only [List.mem_cons, List.not_mem_nil, or_false] at h9
  rcases h9 with rfl
  · exact ⟨ft_int rfl (by decide +kernel), ⟨_, rfl, Or.inl rfl⟩⟩
def fX4_init (z : Nat → Nat) (a0 : Nat) (h : aH) : Option aH :=
  (nwI h 1200).bind fun h101 =>
  (wrF h101 a0 [3] 0 (.inr (.inr (some h.1)))).bind fun h102 =>
  (nwI h102 60).bind fun h103 =>
  (wrF h103 a0 [3] 1 (.inr (.inr (some h102.1)))).bind fun h104 =>
  (wrF h104 a0 [3] 2 (.inl 0)).bind fun h105 =>
  some h105
set_option maxHeartbeats 4000000 in
set_option maxRecDepth 100000 in
theorem xX4_init {l : Launch} {g : aG} {d : Nat} (hK : 1 ≤ d) {a0 : Nat} {h : aH} {q : aH} (hf : fX4_init g.2.2 a0 h = some q) : Ev l g miX4_init d [.inr (.inr (some a0))] h (none, q) := by
  obtain ⟨d, rfl⟩ : ∃ e, d = e + 1 := ⟨d - 1, by omega⟩
  refine ⟨?_, rfl, Nat.le_of_ble_eq_true rfl⟩
  unfold fX4_init at hf
  show Y l g miX4_init (d + 1) 0 [some (.inr (.inr (some a0)))] [] h _
  refine y_aload_n (i := 0) dX4_init_0 rfl rfl ?_
  refine y_obj dX4_init_1 (gd_of 103 rfl rfl) (gd_of 92 rfl rfl) (gd_of 93 rfl rfl) (by simp) (Nat.le_of_ble_eq_true rfl) ?_
  refine y_aload_n (i := 0) dX4_init_4 rfl rfl ?_
  refine y_sipush (v := 1200) dX4_init_5 (by decide) ?_
  replace hf := bnd hf
  obtain ⟨h101, eh101, hf⟩ := hf
  refine y_newI eh101 (gd_of 114 rfl rfl) dX4_init_8 ?_
  replace hf := bnd hf
  obtain ⟨h102, eh102, hf⟩ := hf
  refine y_put eh102 (pl4_9_i rfl rfl rfl) dX4_init_10 ?_
  refine y_aload_n (i := 0) dX4_init_13 rfl rfl ?_
  refine y_bipush (v := 60) dX4_init_14 (by decide) ?_
  replace hf := bnd hf
  obtain ⟨h103, eh103, hf⟩ := hf
  refine y_newI eh103 (gd_of 114 rfl rfl) dX4_init_16 ?_
  replace hf := bnd hf
  obtain ⟨h104, eh104, hf⟩ := hf
  refine y_put eh104 (pl4_15_i rfl rfl rfl) dX4_init_18 ?_
  refine y_aload_n (i := 0) dX4_init_21 rfl rfl ?_
  refine y_iconst (v := 0) dX4_init_22 (by decide) ?_
  replace hf := bnd hf
  obtain ⟨h105, eh105, hf⟩ := hf
  refine y_put eh105 (pl4_18_i rfl) dX4_init_23 ?_
  obtain rfl := Option.some.inj hf
  exact y_ret (v := none) dX4_init_26 rfl
set_option maxRecDepth 100000 in
theorem dX9_init_0 : decode prog_11_method_1_code 0 = .ok (.aload_n 0, 1) := by decide +kernel
set_option maxRecDepth 100000 in
theorem dX9_init_1 : decode prog_11_method_1_code 1 = .ok (.invokespecial 3, 3) := by decide +kernel
set_option maxRecDepth 100000 in
theorem dX9_init_4 : decode prog_11_method_1_code 4 = .ok (.aload_n 0, 1) := by decide +kernel
set_option maxRecDepth 100000 in
theorem dX9_init_5 : decode prog_11_method_1_code 5 = .ok (.bipush 6, 2) := by decide +kernel
set_option maxRecDepth 100000 in
theorem dX9_init_7 : decode prog_11_method_1_code 7 = .ok (.newarray .int, 2) := by decide +kernel
set_option maxRecDepth 100000 in
theorem dX9_init_9 : decode prog_11_method_1_code 9 = .ok (.putfield 9, 3) := by decide +kernel
set_option maxRecDepth 100000 in
theorem dX9_init_12 : decode prog_11_method_1_code 12 = .ok (.aload_n 0, 1) := by decide +kernel
set_option maxRecDepth 100000 in
theorem dX9_init_13 : decode prog_11_method_1_code 13 = .ok (.bipush 6, 2) := by decide +kernel
set_option maxRecDepth 100000 in
theorem dX9_init_15 : decode prog_11_method_1_code 15 = .ok (.newarray .long, 2) := by decide +kernel
set_option maxRecDepth 100000 in
theorem dX9_init_17 : decode prog_11_method_1_code 17 = .ok (.putfield 15, 3) := by decide +kernel
set_option maxRecDepth 100000 in
theorem dX9_init_20 : decode prog_11_method_1_code 20 = .ok (.aload_n 0, 1) := by decide +kernel
set_option maxRecDepth 100000 in
theorem dX9_init_21 : decode prog_11_method_1_code 21 = .ok (.iconst 0, 1) := by decide +kernel
set_option maxRecDepth 100000 in
theorem dX9_init_22 : decode prog_11_method_1_code 22 = .ok (.putfield 19, 3) := by decide +kernel
set_option maxRecDepth 100000 in
theorem dX9_init_25 : decode prog_11_method_1_code 25 = .ok (.return_, 1) := by decide +kernel
set_option maxRecDepth 100000 in
theorem fl9_9 : ∀ c ∈ ([7] : List Nat), FL "HandleModels$Values" 9 c 0 := fun c hc => by
  cases List.mem_singleton.mp hc
  exact ⟨_, "HandleModels$Values", rfl, by decide, (gd_of 121 rfl rfl), Or.inl rfl⟩
set_option maxRecDepth 100000 in
theorem pl9_9_i {mi : aM} {x : Option Nat} (ho : "HandleModels$Values" = mi.1.cls) (hn : mi.1.name = "<init>") (hc : "HandleModels$Values" = mi.1.cls) : ∀ c ∈ ([7] : List Nat), FL mi.1.cls 9 c 0 ∧ FT c 0 (.inr (.inr x)) ∧ FW mi c 0 := fun c h9 => by
  have h8 := fl9_9 c h9
  rw [← ho]
  refine ⟨h8, ?_⟩
  simp only [List.mem_cons, List.not_mem_nil, or_false] at h9
  rcases h9 with rfl
  · exact ⟨ft_arr (n := .int) rfl (by decide +kernel), ⟨_, rfl, Or.inr ⟨rfl, hn, hc⟩⟩⟩
set_option maxRecDepth 100000 in
theorem fl9_15 : ∀ c ∈ ([7] : List Nat), FL "HandleModels$Values" 15 c 1 := fun c hc => by
  cases List.mem_singleton.mp hc
  exact ⟨_, "HandleModels$Values", rfl, by decide, (gd_of 122 rfl rfl), Or.inl rfl⟩
set_option maxRecDepth 100000 in
theorem pl9_15_i {mi : aM} {x : Option Nat} (ho : "HandleModels$Values" = mi.1.cls) (hn : mi.1.name = "<init>") (hc : "HandleModels$Values" = mi.1.cls) : ∀ c ∈ ([7] : List Nat), FL mi.1.cls 15 c 1 ∧ FT c 1 (.inr (.inr x)) ∧ FW mi c 1 := fun c h9 => by
  have h8 := fl9_15 c h9
  rw [← ho]
  refine ⟨h8, ?_⟩
  simp only [List.mem_cons, List.not_mem_nil, or_false] at h9
  rcases h9 with rfl
  · exact ⟨ft_arr (n := .long) rfl (by decide +kernel), ⟨_, rfl, Or.inr ⟨rfl, hn, hc⟩⟩⟩
set_option maxRecDepth 100000 in
theorem fl9_19 : ∀ c ∈ ([7] : List Nat), FL "HandleModels$Values" 19 c 2 := fun c hc => by
  cases List.mem_singleton.mp hc
  exact ⟨_, "HandleModels$Values", rfl, by decide, (gd_of 123 rfl rfl), Or.inl rfl⟩
set_option maxRecDepth 100000 in
theorem pl9_19_i {mi : aM} {x : Int32} (ho : "HandleModels$Values" = mi.1.cls) : ∀ c ∈ ([7] : List Nat), FL mi.1.cls 19 c 2 ∧ FT c 2 (.inl x) ∧ FW mi c 2 := fun c h9 => by
  have h8 := fl9_19 c h9
  rw [← ho]
  refine ⟨h8, ?_⟩
  simp only [List.mem_cons, List.not_mem_nil, or_false] at h9
  rcases h9 with rfl
  · exact ⟨ft_int rfl (by decide +kernel), ⟨_, rfl, Or.inl rfl⟩⟩
def fX9_init (z : Nat → Nat) (a0 : Nat) (h : aH) : Option aH :=
  (nwI h 6).bind fun h101 =>
  (wrF h101 a0 [7] 0 (.inr (.inr (some h.1)))).bind fun h102 =>
  (nwJ h102 6).bind fun h103 =>
  (wrF h103 a0 [7] 1 (.inr (.inr (some h102.1)))).bind fun h104 =>
  (wrF h104 a0 [7] 2 (.inl 0)).bind fun h105 =>
  some h105
set_option maxHeartbeats 4000000 in
set_option maxRecDepth 100000 in
theorem xX9_init {l : Launch} {g : aG} {d : Nat} (hK : 1 ≤ d) {a0 : Nat} {h : aH} {q : aH} (hf : fX9_init g.2.2 a0 h = some q) : Ev l g miX9_init d [.inr (.inr (some a0))] h (none, q) := by
  obtain ⟨d, rfl⟩ : ∃ e, d = e + 1 := ⟨d - 1, by omega⟩
  refine ⟨?_, rfl, Nat.le_of_ble_eq_true rfl⟩
  unfold fX9_init at hf
  show Y l g miX9_init (d + 1) 0 [some (.inr (.inr (some a0)))] [] h _
  refine y_aload_n (i := 0) dX9_init_0 rfl rfl ?_
  refine y_obj dX9_init_1 (gd_of 120 rfl rfl) (gd_of 92 rfl rfl) (gd_of 93 rfl rfl) (by simp) (Nat.le_of_ble_eq_true rfl) ?_
  refine y_aload_n (i := 0) dX9_init_4 rfl rfl ?_
  refine y_bipush (v := 6) dX9_init_5 (by decide) ?_
  replace hf := bnd hf
  obtain ⟨h101, eh101, hf⟩ := hf
  refine y_newI eh101 (gd_of 114 rfl rfl) dX9_init_7 ?_
  replace hf := bnd hf
  obtain ⟨h102, eh102, hf⟩ := hf
  refine y_put eh102 (pl9_9_i rfl rfl rfl) dX9_init_9 ?_
  refine y_aload_n (i := 0) dX9_init_12 rfl rfl ?_
  refine y_bipush (v := 6) dX9_init_13 (by decide) ?_
  replace hf := bnd hf
  obtain ⟨h103, eh103, hf⟩ := hf
  refine y_newJ eh103 (gd_of 131 rfl rfl) dX9_init_15 ?_
  replace hf := bnd hf
  obtain ⟨h104, eh104, hf⟩ := hf
  refine y_put eh104 (pl9_15_i rfl rfl rfl) dX9_init_17 ?_
  refine y_aload_n (i := 0) dX9_init_20 rfl rfl ?_
  refine y_iconst (v := 0) dX9_init_21 (by decide) ?_
  replace hf := bnd hf
  obtain ⟨h105, eh105, hf⟩ := hf
  refine y_put eh105 (pl9_19_i rfl) dX9_init_22 ?_
  obtain rfl := Option.some.inj hf
  exact y_ret (v := none) dX9_init_25 rfl
set_option maxRecDepth 100000 in
theorem dX5_init_0 : decode prog_7_method_1_code 0 = .ok (.aload_n 0, 1) := by decide +kernel
set_option maxRecDepth 100000 in
theorem dX5_init_1 : decode prog_7_method_1_code 1 = .ok (.invokespecial 3, 3) := by decide +kernel
set_option maxRecDepth 100000 in
theorem dX5_init_4 : decode prog_7_method_1_code 4 = .ok (.aload_n 0, 1) := by decide +kernel
set_option maxRecDepth 100000 in
theorem dX5_init_5 : decode prog_7_method_1_code 5 = .ok (.bipush 62, 2) := by decide +kernel
set_option maxRecDepth 100000 in
theorem dX5_init_7 : decode prog_7_method_1_code 7 = .ok (.anewarray 9, 3) := by decide +kernel
set_option maxRecDepth 100000 in
theorem dX5_init_10 : decode prog_7_method_1_code 10 = .ok (.putfield 11, 3) := by decide +kernel
set_option maxRecDepth 100000 in
theorem dX5_init_13 : decode prog_7_method_1_code 13 = .ok (.aload_n 0, 1) := by decide +kernel
set_option maxRecDepth 100000 in
theorem dX5_init_14 : decode prog_7_method_1_code 14 = .ok (.iconst 0, 1) := by decide +kernel
set_option maxRecDepth 100000 in
theorem dX5_init_15 : decode prog_7_method_1_code 15 = .ok (.putfield 17, 3) := by decide +kernel
set_option maxRecDepth 100000 in
theorem dX5_init_18 : decode prog_7_method_1_code 18 = .ok (.aload_n 0, 1) := by decide +kernel
set_option maxRecDepth 100000 in
theorem dX5_init_19 : decode prog_7_method_1_code 19 = .ok (.iconst 0, 1) := by decide +kernel
set_option maxRecDepth 100000 in
theorem dX5_init_20 : decode prog_7_method_1_code 20 = .ok (.putfield 21, 3) := by decide +kernel
set_option maxRecDepth 100000 in
theorem dX5_init_23 : decode prog_7_method_1_code 23 = .ok (.aload_n 0, 1) := by decide +kernel
set_option maxRecDepth 100000 in
theorem dX5_init_24 : decode prog_7_method_1_code 24 = .ok (.iconst 3, 1) := by decide +kernel
set_option maxRecDepth 100000 in
theorem dX5_init_25 : decode prog_7_method_1_code 25 = .ok (.putfield 24, 3) := by decide +kernel
set_option maxRecDepth 100000 in
theorem dX5_init_28 : decode prog_7_method_1_code 28 = .ok (.aload_n 0, 1) := by decide +kernel
set_option maxRecDepth 100000 in
theorem dX5_init_29 : decode prog_7_method_1_code 29 = .ok (.lconst 0, 1) := by decide +kernel
set_option maxRecDepth 100000 in
theorem dX5_init_30 : decode prog_7_method_1_code 30 = .ok (.putfield 27, 3) := by decide +kernel
set_option maxRecDepth 100000 in
theorem dX5_init_33 : decode prog_7_method_1_code 33 = .ok (.aload_n 0, 1) := by decide +kernel
set_option maxRecDepth 100000 in
theorem dX5_init_34 : decode prog_7_method_1_code 34 = .ok (.aload_n 1, 1) := by decide +kernel
set_option maxRecDepth 100000 in
theorem dX5_init_35 : decode prog_7_method_1_code 35 = .ok (.putfield 31, 3) := by decide +kernel
set_option maxRecDepth 100000 in
theorem dX5_init_38 : decode prog_7_method_1_code 38 = .ok (.iconst 0, 1) := by decide +kernel
set_option maxRecDepth 100000 in
theorem dX5_init_39 : decode prog_7_method_1_code 39 = .ok (.istore_n 2, 1) := by decide +kernel
set_option maxRecDepth 100000 in
theorem dX5_init_40 : decode prog_7_method_1_code 40 = .ok (.iload_n 2, 1) := by decide +kernel
set_option maxRecDepth 100000 in
theorem dX5_init_41 : decode prog_7_method_1_code 41 = .ok (.aload_n 0, 1) := by decide +kernel
set_option maxRecDepth 100000 in
theorem dX5_init_42 : decode prog_7_method_1_code 42 = .ok (.getfield 11, 3) := by decide +kernel
set_option maxRecDepth 100000 in
theorem dX5_init_45 : decode prog_7_method_1_code 45 = .ok (.arraylength, 1) := by decide +kernel
set_option maxRecDepth 100000 in
theorem dX5_init_46 : decode prog_7_method_1_code 46 = .ok (.if_icmp .ge 22, 3) := by decide +kernel
set_option maxRecDepth 100000 in
theorem dX5_init_49 : decode prog_7_method_1_code 49 = .ok (.aload_n 0, 1) := by decide +kernel
set_option maxRecDepth 100000 in
theorem dX5_init_50 : decode prog_7_method_1_code 50 = .ok (.getfield 11, 3) := by decide +kernel
set_option maxRecDepth 100000 in
theorem dX5_init_53 : decode prog_7_method_1_code 53 = .ok (.iload_n 2, 1) := by decide +kernel
set_option maxRecDepth 100000 in
theorem dX5_init_54 : decode prog_7_method_1_code 54 = .ok (.new 9, 3) := by decide +kernel
set_option maxRecDepth 100000 in
theorem dX5_init_57 : decode prog_7_method_1_code 57 = .ok (.dup, 1) := by decide +kernel
set_option maxRecDepth 100000 in
theorem dX5_init_58 : decode prog_7_method_1_code 58 = .ok (.invokespecial 35, 3) := by decide +kernel
set_option maxRecDepth 100000 in
theorem dX5_init_61 : decode prog_7_method_1_code 61 = .ok (.aastore, 1) := by decide +kernel
set_option maxRecDepth 100000 in
theorem dX5_init_62 : decode prog_7_method_1_code 62 = .ok (.iinc 2 1, 3) := by decide +kernel
set_option maxRecDepth 100000 in
theorem dX5_init_65 : decode prog_7_method_1_code 65 = .ok (.goto (-25), 3) := by decide +kernel
set_option maxRecDepth 100000 in
theorem dX5_init_68 : decode prog_7_method_1_code 68 = .ok (.return_, 1) := by decide +kernel
set_option maxRecDepth 100000 in
theorem fl5_11 : ∀ c ∈ ([4] : List Nat), FL "HandleModels$Runner" 11 c 1 := fun c hc => by
  cases List.mem_singleton.mp hc
  exact ⟨_, "HandleModels$Runner", rfl, by decide, (gd_of 142 rfl rfl), Or.inl rfl⟩
abbrev dz7 : List aV := [.inr (.inr none), .inr (.inr none), .inl 0]
set_option maxRecDepth 100000 in
theorem dz7_ok : ∀ j, j < 3 → defaultValue (tyX9 j) = vp_V (dz7.map tv) j := by decide +kernel
set_option maxRecDepth 100000 in
theorem okX9_init : mOk miX9_init 0 := ⟨(gd_of 119 rfl rfl), (gd_of 74 rfl rfl), by decide +kernel, ⟨by decide +kernel, by decide +kernel, by decide +kernel⟩, by decide⟩
set_option maxRecDepth 100000 in
theorem ac2 : ∀ c ∈ ([7] : List Nat), AC c 2 := fun c hc => by
  cases List.mem_singleton.mp hc
  exact ⟨_, rfl, Or.inl rfl⟩
set_option maxRecDepth 100000 in
theorem pl5_11_i {mi : aM} {x : Option Nat} (ho : "HandleModels$Runner" = mi.1.cls) (hn : mi.1.name = "<init>") (hc : "HandleModels$Runner" = mi.1.cls) : ∀ c ∈ ([4] : List Nat), FL mi.1.cls 11 c 1 ∧ FT c 1 (.inr (.inr x)) ∧ FW mi c 1 := fun c h9 => by
  have h8 := fl5_11 c h9
  rw [← ho]
  refine ⟨h8, ?_⟩
  simp only [List.mem_cons, List.not_mem_nil, or_false] at h9
  rcases h9 with rfl
  · exact ⟨ft_arr (n := (.object "HandleModels$Values")) rfl (by decide +kernel), ⟨_, rfl, Or.inr ⟨rfl, hn, hc⟩⟩⟩
set_option maxRecDepth 100000 in
theorem fl5_17 : ∀ c ∈ ([4] : List Nat), FL "HandleModels$Runner" 17 c 2 := fun c hc => by
  cases List.mem_singleton.mp hc
  exact ⟨_, "HandleModels$Runner", rfl, by decide, (gd_of 143 rfl rfl), Or.inl rfl⟩
set_option maxRecDepth 100000 in
theorem pl5_17_i {mi : aM} {x : Int32} (ho : "HandleModels$Runner" = mi.1.cls) : ∀ c ∈ ([4] : List Nat), FL mi.1.cls 17 c 2 ∧ FT c 2 (.inl x) ∧ FW mi c 2 := fun c h9 => by
  have h8 := fl5_17 c h9
  rw [← ho]
  refine ⟨h8, ?_⟩
  simp only [List.mem_cons, List.not_mem_nil, or_false] at h9
  rcases h9 with rfl
  · exact ⟨ft_int rfl (by decide +kernel), ⟨_, rfl, Or.inl rfl⟩⟩
set_option maxRecDepth 100000 in
theorem fl5_21 : ∀ c ∈ ([4] : List Nat), FL "HandleModels$Runner" 21 c 3 := fun c hc => by
  cases List.mem_singleton.mp hc
  exact ⟨_, "HandleModels$Runner", rfl, by decide, (gd_of 145 rfl rfl), Or.inl rfl⟩
set_option maxRecDepth 100000 in
theorem pl5_21_i {mi : aM} {x : Int32} (ho : "HandleModels$Runner" = mi.1.cls) : ∀ c ∈ ([4] : List Nat), FL mi.1.cls 21 c 3 ∧ FT c 3 (.inl x) ∧ FW mi c 3 := fun c h9 => by
  have h8 := fl5_21 c h9
  rw [← ho]
  refine ⟨h8, ?_⟩
  simp only [List.mem_cons, List.not_mem_nil, or_false] at h9
  rcases h9 with rfl
  · exact ⟨ft_int rfl (by decide +kernel), ⟨_, rfl, Or.inl rfl⟩⟩
set_option maxRecDepth 100000 in
theorem fl5_24 : ∀ c ∈ ([4] : List Nat), FL "HandleModels$Runner" 24 c 4 := fun c hc => by
  cases List.mem_singleton.mp hc
  exact ⟨_, "HandleModels$Runner", rfl, by decide, (gd_of 147 rfl rfl), Or.inl rfl⟩
set_option maxRecDepth 100000 in
theorem pl5_24_i {mi : aM} {x : Int32} (ho : "HandleModels$Runner" = mi.1.cls) : ∀ c ∈ ([4] : List Nat), FL mi.1.cls 24 c 4 ∧ FT c 4 (.inl x) ∧ FW mi c 4 := fun c h9 => by
  have h8 := fl5_24 c h9
  rw [← ho]
  refine ⟨h8, ?_⟩
  simp only [List.mem_cons, List.not_mem_nil, or_false] at h9
  rcases h9 with rfl
  · exact ⟨ft_int rfl (by decide +kernel), ⟨_, rfl, Or.inl rfl⟩⟩
set_option maxRecDepth 100000 in
theorem fl5_27 : ∀ c ∈ ([4] : List Nat), FL "HandleModels$Runner" 27 c 5 := fun c hc => by
  cases List.mem_singleton.mp hc
  exact ⟨_, "HandleModels$Runner", rfl, by decide, (gd_of 149 rfl rfl), Or.inl rfl⟩
set_option maxRecDepth 100000 in
theorem pl5_27_i {mi : aM} {x : Int64} (ho : "HandleModels$Runner" = mi.1.cls) : ∀ c ∈ ([4] : List Nat), FL mi.1.cls 27 c 5 ∧ FT c 5 (.inr (.inl x)) ∧ FW mi c 5 := fun c h9 => by
  have h8 := fl5_27 c h9
  rw [← ho]
  refine ⟨h8, ?_⟩
  simp only [List.mem_cons, List.not_mem_nil, or_false] at h9
  rcases h9 with rfl
  · exact ⟨ft_long rfl (by decide +kernel), ⟨_, rfl, Or.inl rfl⟩⟩
set_option maxRecDepth 100000 in
theorem fl5_31 : ∀ c ∈ ([4] : List Nat), FL "HandleModels$Runner" 31 c 0 := fun c hc => by
  cases List.mem_singleton.mp hc
  exact ⟨_, "HandleModels$Runner", rfl, by decide, (gd_of 141 rfl rfl), Or.inl rfl⟩
set_option maxRecDepth 100000 in
theorem pl5_31_i {mi : aM} {x : Option Nat} (ho : "HandleModels$Runner" = mi.1.cls) (hn : mi.1.name = "<init>") (hc : "HandleModels$Runner" = mi.1.cls) : ∀ c ∈ ([4] : List Nat), FL mi.1.cls 31 c 0 ∧ FT c 0 (.inr (.inr x)) ∧ FW mi c 0 := fun c h9 => by
  have h8 := fl5_31 c h9
  rw [← ho]
  refine ⟨h8, ?_⟩
  simp only [List.mem_cons, List.not_mem_nil, or_false] at h9
  rcases h9 with rfl
  · exact ⟨ft_obj (n := "HandleModels$Rows") rfl (by decide +kernel), ⟨_, rfl, Or.inr ⟨rfl, hn, hc⟩⟩⟩
def fX5_init_40 (z : Nat → Nat) : Nat → Nat → Int32 → aH → Option aH
  | 0, _, _, _ => none
  | n + 1, a0, x2, h => (rdR h a0 [4] 1).bind fun r101 =>
  (r101).bind fun a102 =>
  (arN h a102).bind fun x103 =>
  (if x103 ≤ x2 then
  some h
  else
  (rdR h a0 [4] 1).bind fun r104 =>
  (fX9_init z h.1 (hnew h 3 (.inr (7, dz7)))).bind fun q105 =>
  (r104).bind fun a106 =>
  (awR q105 a106 x2 2 [7] h.1).bind fun h107 =>
  fX5_init_40 z n a0 (x2 + 1) h107)
set_option maxHeartbeats 4000000 in
set_option maxRecDepth 100000 in
theorem xX5_init_40 {l : Launch} {g : aG} {d : Nat} (hK : 2 ≤ d + 1) : ∀ (n : Nat) (a0 : Nat) (x2 : Int32) (h : aH) (q : aH), fX5_init_40 g.2.2 n a0 x2 h = some q → Y l g miX5_init (d + 1) 40 [some (.inr (.inr (some a0))), none, some (.inl x2)] [] h (none, q) := by
  intro n
  induction n with
  | zero => intro a0 x2 h q hf; simp [fX5_init_40] at hf
  | succ n ih =>
    intro a0 x2 h q hf
    rw [fX5_init_40] at hf
    refine y_iload_n (i := 2) dX5_init_40 rfl rfl ?_
    refine y_aload_n (i := 0) dX5_init_41 rfl rfl ?_
    replace hf := bnd hf
    obtain ⟨r101, er101, hf⟩ := hf
    refine y_getR er101 fl5_11 dX5_init_42 ?_
    replace hf := bnd hf
    obtain ⟨a102, rfl, hf⟩ := hf
    replace hf := bnd hf
    obtain ⟨x103, ex103, hf⟩ := hf
    refine y_alen ex103 dX5_init_45 ?_
    refine y_icmp_ge (tgt := 68) dX5_init_46 (by decide) (fun hc => ?_) (fun hc => ?_)
    · rw [if_pos hc] at hf
      obtain rfl := Option.some.inj hf
      exact y_ret (v := none) dX5_init_68 rfl
    · rw [if_neg hc] at hf
      refine y_aload_n (i := 0) dX5_init_49 rfl rfl ?_
      replace hf := bnd hf
      obtain ⟨r104, er104, hf⟩ := hf
      refine y_getR er104 fl5_11 dX5_init_50 ?_
      refine y_iload_n (i := 2) dX5_init_53 rfl rfl ?_
      refine y_new (c := 7) (fs := dz7) rfl tyX9 tyX9_ok rfl dz7_ok (gd_of 138 rfl rfl) (gd_of 116 rfl rfl) (gd_of 74 rfl rfl) dX5_init_54 ?_
      refine y_dup dX5_init_57 rfl ?_
      replace hf := bnd hf
      obtain ⟨q105, eq105, hf⟩ := hf
      refine y_callI (mj := miX9_init) (args := []) (st := [.inr (.inr (some h.1)), .inl x2, .inr (.inr r104)]) dX5_init_58 (Or.inr ⟨"HandleModels", by simp [nWs]⟩) (gd_of 118 rfl rfl) rfl rfl okX9_init (xX9_init (by omega) eq105) (Nat.le_of_ble_eq_true rfl) rfl ?_
      show Y l g miX5_init (d + 1) 61 [some (.inr (.inr (some a0))), none, some (.inl x2)] [.inr (.inr (some h.1)), .inl x2, .inr (.inr r104)] q105 _
      replace hf := bnd hf
      obtain ⟨a106, rfl, hf⟩ := hf
      replace hf := bnd hf
      obtain ⟨h107, eh107, hf⟩ := hf
      refine y_aastore eh107 ac2 dX5_init_61 ?_
      refine y_iinc (i := 2) (y := 1) (lv2 := [some (.inr (.inr (some a0))), none, some (.inl (x2 + 1))]) dX5_init_62 rfl (by decide) (by decide) rfl ?_
      refine y_goto (tgt := 40) dX5_init_65 (by decide) ?_
      refine Y.weak (lv2 := [some (.inr (.inr (some a0))), none, some (.inl (x2 + 1))]) [true, false, true] rfl ?_
      exact ih _ _ _ _ hf
def fX5_init (z : Nat → Nat) (a0 : Nat) (r1 : Option Nat) (h : aH) : Option aH :=
  (nwR h 2 62).bind fun h101 =>
  (wrF h101 a0 [4] 1 (.inr (.inr (some h.1)))).bind fun h102 =>
  (wrF h102 a0 [4] 2 (.inl 0)).bind fun h103 =>
  (wrF h103 a0 [4] 3 (.inl 0)).bind fun h104 =>
  (wrF h104 a0 [4] 4 (.inl 3)).bind fun h105 =>
  (wrF h105 a0 [4] 5 (.inr (.inl 0))).bind fun h106 =>
  (wrF h106 a0 [4] 0 (.inr (.inr r1))).bind fun h107 =>
  fX5_init_40 z 4000 a0 0 h107
set_option maxHeartbeats 4000000 in
set_option maxRecDepth 100000 in
theorem xX5_init {l : Launch} {g : aG} {d : Nat} (hK : 2 ≤ d) {a0 : Nat} {r1 : Option Nat} {h : aH} {q : aH} (hf : fX5_init g.2.2 a0 r1 h = some q) : Ev l g miX5_init d [.inr (.inr (some a0)), .inr (.inr r1)] h (none, q) := by
  obtain ⟨d, rfl⟩ : ∃ e, d = e + 1 := ⟨d - 1, by omega⟩
  refine ⟨?_, rfl, Nat.le_of_ble_eq_true rfl⟩
  unfold fX5_init at hf
  show Y l g miX5_init (d + 1) 0 [some (.inr (.inr (some a0))), some (.inr (.inr r1)), none] [] h _
  refine y_aload_n (i := 0) dX5_init_0 rfl rfl ?_
  refine y_obj dX5_init_1 (gd_of 137 rfl rfl) (gd_of 92 rfl rfl) (gd_of 93 rfl rfl) (by simp) (Nat.le_of_ble_eq_true rfl) ?_
  refine y_aload_n (i := 0) dX5_init_4 rfl rfl ?_
  refine y_bipush (v := 62) dX5_init_5 (by decide) ?_
  replace hf := bnd hf
  obtain ⟨h101, eh101, hf⟩ := hf
  refine y_newR (t := 2) eh101 (gd_of 138 rfl rfl) (by simp [arC, aoCs]) dX5_init_7 ?_
  replace hf := bnd hf
  obtain ⟨h102, eh102, hf⟩ := hf
  refine y_put eh102 (pl5_11_i rfl rfl rfl) dX5_init_10 ?_
  refine y_aload_n (i := 0) dX5_init_13 rfl rfl ?_
  refine y_iconst (v := 0) dX5_init_14 (by decide) ?_
  replace hf := bnd hf
  obtain ⟨h103, eh103, hf⟩ := hf
  refine y_put eh103 (pl5_17_i rfl) dX5_init_15 ?_
  refine y_aload_n (i := 0) dX5_init_18 rfl rfl ?_
  refine y_iconst (v := 0) dX5_init_19 (by decide) ?_
  replace hf := bnd hf
  obtain ⟨h104, eh104, hf⟩ := hf
  refine y_put eh104 (pl5_21_i rfl) dX5_init_20 ?_
  refine y_aload_n (i := 0) dX5_init_23 rfl rfl ?_
  refine y_iconst (v := 3) dX5_init_24 (by decide) ?_
  replace hf := bnd hf
  obtain ⟨h105, eh105, hf⟩ := hf
  refine y_put eh105 (pl5_24_i rfl) dX5_init_25 ?_
  refine y_aload_n (i := 0) dX5_init_28 rfl rfl ?_
  refine y_lconst (v := 0) dX5_init_29 (by decide) ?_
  replace hf := bnd hf
  obtain ⟨h106, eh106, hf⟩ := hf
  refine y_put eh106 (pl5_27_i rfl) dX5_init_30 ?_
  refine y_aload_n (i := 0) dX5_init_33 rfl rfl ?_
  refine y_aload_n (i := 1) dX5_init_34 rfl rfl ?_
  replace hf := bnd hf
  obtain ⟨h107, eh107, hf⟩ := hf
  refine y_put eh107 (pl5_31_i rfl rfl rfl) dX5_init_35 ?_
  refine y_iconst (v := 0) dX5_init_38 (by decide) ?_
  refine y_istore_n (i := 2) (lv2 := [some (.inr (.inr (some a0))), some (.inr (.inr r1)), some (.inl 0)]) dX5_init_39 rfl (by decide) rfl ?_
  refine Y.weak (lv2 := [some (.inr (.inr (some a0))), none, some (.inl 0)]) [true, false, true] rfl ?_
  exact xX5_init_40 hK 4000 _ _ _ _ hf
set_option maxRecDepth 100000 in
theorem dX10_init_0 : decode prog_1_method_1_code 0 = .ok (.aload_n 0, 1) := by decide +kernel
set_option maxRecDepth 100000 in
theorem dX10_init_1 : decode prog_1_method_1_code 1 = .ok (.invokespecial 1, 3) := by decide +kernel
set_option maxRecDepth 100000 in
theorem dX10_init_4 : decode prog_1_method_1_code 4 = .ok (.aload_n 0, 1) := by decide +kernel
set_option maxRecDepth 100000 in
theorem dX10_init_5 : decode prog_1_method_1_code 5 = .ok (.bipush 60, 2) := by decide +kernel
set_option maxRecDepth 100000 in
theorem dX10_init_7 : decode prog_1_method_1_code 7 = .ok (.anewarray 9, 3) := by decide +kernel
set_option maxRecDepth 100000 in
theorem dX10_init_10 : decode prog_1_method_1_code 10 = .ok (.putfield 11, 3) := by decide +kernel
set_option maxRecDepth 100000 in
theorem dX10_init_13 : decode prog_1_method_1_code 13 = .ok (.aload_n 0, 1) := by decide +kernel
set_option maxRecDepth 100000 in
theorem dX10_init_14 : decode prog_1_method_1_code 14 = .ok (.iconst 0, 1) := by decide +kernel
set_option maxRecDepth 100000 in
theorem dX10_init_15 : decode prog_1_method_1_code 15 = .ok (.putfield 15, 3) := by decide +kernel
set_option maxRecDepth 100000 in
theorem dX10_init_18 : decode prog_1_method_1_code 18 = .ok (.aload_n 0, 1) := by decide +kernel
set_option maxRecDepth 100000 in
theorem dX10_init_19 : decode prog_1_method_1_code 19 = .ok (.bipush 10, 2) := by decide +kernel
set_option maxRecDepth 100000 in
theorem dX10_init_21 : decode prog_1_method_1_code 21 = .ok (.anewarray 19, 3) := by decide +kernel
set_option maxRecDepth 100000 in
theorem dX10_init_24 : decode prog_1_method_1_code 24 = .ok (.putfield 21, 3) := by decide +kernel
set_option maxRecDepth 100000 in
theorem dX10_init_27 : decode prog_1_method_1_code 27 = .ok (.aload_n 0, 1) := by decide +kernel
set_option maxRecDepth 100000 in
theorem dX10_init_28 : decode prog_1_method_1_code 28 = .ok (.iconst 0, 1) := by decide +kernel
set_option maxRecDepth 100000 in
theorem dX10_init_29 : decode prog_1_method_1_code 29 = .ok (.putfield 25, 3) := by decide +kernel
set_option maxRecDepth 100000 in
theorem dX10_init_32 : decode prog_1_method_1_code 32 = .ok (.aload_n 0, 1) := by decide +kernel
set_option maxRecDepth 100000 in
theorem dX10_init_33 : decode prog_1_method_1_code 33 = .ok (.new 28, 3) := by decide +kernel
set_option maxRecDepth 100000 in
theorem dX10_init_36 : decode prog_1_method_1_code 36 = .ok (.dup, 1) := by decide +kernel
set_option maxRecDepth 100000 in
theorem dX10_init_37 : decode prog_1_method_1_code 37 = .ok (.invokespecial 30, 3) := by decide +kernel
set_option maxRecDepth 100000 in
theorem dX10_init_40 : decode prog_1_method_1_code 40 = .ok (.putfield 31, 3) := by decide +kernel
set_option maxRecDepth 100000 in
theorem dX10_init_43 : decode prog_1_method_1_code 43 = .ok (.aload_n 0, 1) := by decide +kernel
set_option maxRecDepth 100000 in
theorem dX10_init_44 : decode prog_1_method_1_code 44 = .ok (.new 35, 3) := by decide +kernel
set_option maxRecDepth 100000 in
theorem dX10_init_47 : decode prog_1_method_1_code 47 = .ok (.dup, 1) := by decide +kernel
set_option maxRecDepth 100000 in
theorem dX10_init_48 : decode prog_1_method_1_code 48 = .ok (.invokespecial 37, 3) := by decide +kernel
set_option maxRecDepth 100000 in
theorem dX10_init_51 : decode prog_1_method_1_code 51 = .ok (.putfield 38, 3) := by decide +kernel
set_option maxRecDepth 100000 in
theorem dX10_init_54 : decode prog_1_method_1_code 54 = .ok (.aload_n 0, 1) := by decide +kernel
set_option maxRecDepth 100000 in
theorem dX10_init_55 : decode prog_1_method_1_code 55 = .ok (.new 42, 3) := by decide +kernel
set_option maxRecDepth 100000 in
theorem dX10_init_58 : decode prog_1_method_1_code 58 = .ok (.dup, 1) := by decide +kernel
set_option maxRecDepth 100000 in
theorem dX10_init_59 : decode prog_1_method_1_code 59 = .ok (.aload_n 0, 1) := by decide +kernel
set_option maxRecDepth 100000 in
theorem dX10_init_60 : decode prog_1_method_1_code 60 = .ok (.getfield 31, 3) := by decide +kernel
set_option maxRecDepth 100000 in
theorem dX10_init_63 : decode prog_1_method_1_code 63 = .ok (.invokespecial 44, 3) := by decide +kernel
set_option maxRecDepth 100000 in
theorem dX10_init_66 : decode prog_1_method_1_code 66 = .ok (.putfield 47, 3) := by decide +kernel
set_option maxRecDepth 100000 in
theorem dX10_init_69 : decode prog_1_method_1_code 69 = .ok (.aload_n 0, 1) := by decide +kernel
set_option maxRecDepth 100000 in
theorem dX10_init_70 : decode prog_1_method_1_code 70 = .ok (.iconst 3, 1) := by decide +kernel
set_option maxRecDepth 100000 in
theorem dX10_init_71 : decode prog_1_method_1_code 71 = .ok (.putfield 51, 3) := by decide +kernel
set_option maxRecDepth 100000 in
theorem dX10_init_74 : decode prog_1_method_1_code 74 = .ok (.aload_n 0, 1) := by decide +kernel
set_option maxRecDepth 100000 in
theorem dX10_init_75 : decode prog_1_method_1_code 75 = .ok (.lconst 0, 1) := by decide +kernel
set_option maxRecDepth 100000 in
theorem dX10_init_76 : decode prog_1_method_1_code 76 = .ok (.putfield 54, 3) := by decide +kernel
set_option maxRecDepth 100000 in
theorem dX10_init_79 : decode prog_1_method_1_code 79 = .ok (.aload_n 0, 1) := by decide +kernel
set_option maxRecDepth 100000 in
theorem dX10_init_80 : decode prog_1_method_1_code 80 = .ok (.iconst 0, 1) := by decide +kernel
set_option maxRecDepth 100000 in
theorem dX10_init_81 : decode prog_1_method_1_code 81 = .ok (.putfield 58, 3) := by decide +kernel
set_option maxRecDepth 100000 in
theorem dX10_init_84 : decode prog_1_method_1_code 84 = .ok (.return_, 1) := by decide +kernel
set_option maxRecDepth 100000 in
theorem fl10_11 : ∀ c ∈ ([8] : List Nat), FL "HandleModels" 11 c 0 := fun c hc => by
  cases List.mem_singleton.mp hc
  exact ⟨_, "HandleModels", rfl, by decide, (gd_of 164 rfl rfl), Or.inl rfl⟩
set_option maxRecDepth 100000 in
theorem pl10_11_i {mi : aM} {x : Option Nat} (ho : "HandleModels" = mi.1.cls) (hn : mi.1.name = "<init>") (hc : "HandleModels" = mi.1.cls) : ∀ c ∈ ([8] : List Nat), FL mi.1.cls 11 c 0 ∧ FT c 0 (.inr (.inr x)) ∧ FW mi c 0 := fun c h9 => by
  have h8 := fl10_11 c h9
  rw [← ho]
  refine ⟨h8, ?_⟩
  simp only [List.mem_cons, List.not_mem_nil, or_false] at h9
  rcases h9 with rfl
  · exact ⟨ft_arr (n := (.object "HandleModels$Handle")) rfl (by decide +kernel), ⟨_, rfl, Or.inr ⟨rfl, hn, hc⟩⟩⟩
set_option maxRecDepth 100000 in
theorem fl10_15 : ∀ c ∈ ([8] : List Nat), FL "HandleModels" 15 c 1 := fun c hc => by
  cases List.mem_singleton.mp hc
  exact ⟨_, "HandleModels", rfl, by decide, (gd_of 165 rfl rfl), Or.inl rfl⟩
set_option maxRecDepth 100000 in
theorem pl10_15_i {mi : aM} {x : Int32} (ho : "HandleModels" = mi.1.cls) : ∀ c ∈ ([8] : List Nat), FL mi.1.cls 15 c 1 ∧ FT c 1 (.inl x) ∧ FW mi c 1 := fun c h9 => by
  have h8 := fl10_15 c h9
  rw [← ho]
  refine ⟨h8, ?_⟩
  simp only [List.mem_cons, List.not_mem_nil, or_false] at h9
  rcases h9 with rfl
  · exact ⟨ft_int rfl (by decide +kernel), ⟨_, rfl, Or.inl rfl⟩⟩
set_option maxRecDepth 100000 in
theorem fl10_21 : ∀ c ∈ ([8] : List Nat), FL "HandleModels" 21 c 2 := fun c hc => by
  cases List.mem_singleton.mp hc
  exact ⟨_, "HandleModels", rfl, by decide, (gd_of 166 rfl rfl), Or.inl rfl⟩
set_option maxRecDepth 100000 in
theorem pl10_21_i {mi : aM} {x : Option Nat} (ho : "HandleModels" = mi.1.cls) (hn : mi.1.name = "<init>") (hc : "HandleModels" = mi.1.cls) : ∀ c ∈ ([8] : List Nat), FL mi.1.cls 21 c 2 ∧ FT c 2 (.inr (.inr x)) ∧ FW mi c 2 := fun c h9 => by
  have h8 := fl10_21 c h9
  rw [← ho]
  refine ⟨h8, ?_⟩
  simp only [List.mem_cons, List.not_mem_nil, or_false] at h9
  rcases h9 with rfl
  · exact ⟨ft_arr (n := (.object "HandleModels$Site")) rfl (by decide +kernel), ⟨_, rfl, Or.inr ⟨rfl, hn, hc⟩⟩⟩
set_option maxRecDepth 100000 in
theorem fl10_25 : ∀ c ∈ ([8] : List Nat), FL "HandleModels" 25 c 3 := fun c hc => by
  cases List.mem_singleton.mp hc
  exact ⟨_, "HandleModels", rfl, by decide, (gd_of 167 rfl rfl), Or.inl rfl⟩
set_option maxRecDepth 100000 in
theorem pl10_25_i {mi : aM} {x : Int32} (ho : "HandleModels" = mi.1.cls) : ∀ c ∈ ([8] : List Nat), FL mi.1.cls 25 c 3 ∧ FT c 3 (.inl x) ∧ FW mi c 3 := fun c h9 => by
  have h8 := fl10_25 c h9
  rw [← ho]
  refine ⟨h8, ?_⟩
  simp only [List.mem_cons, List.not_mem_nil, or_false] at h9
  rcases h9 with rfl
  · exact ⟨ft_int rfl (by decide +kernel), ⟨_, rfl, Or.inl rfl⟩⟩
abbrev dz3 : List aV := [.inr (.inr none), .inr (.inr none), .inl 0]
set_option maxRecDepth 100000 in
theorem dz3_ok : ∀ j, j < 3 → defaultValue (tyX4 j) = vp_V (dz3.map tv) j := by decide +kernel
set_option maxRecDepth 100000 in
theorem okX4_init : mOk miX4_init 0 := ⟨(gd_of 102 rfl rfl), (gd_of 73 rfl rfl), by decide +kernel, ⟨by decide +kernel, by decide +kernel, by decide +kernel⟩, by decide⟩
set_option maxRecDepth 100000 in
theorem fl10_31 : ∀ c ∈ ([8] : List Nat), FL "HandleModels" 31 c 4 := fun c hc => by
  cases List.mem_singleton.mp hc
  exact ⟨_, "HandleModels", rfl, by decide, (gd_of 168 rfl rfl), Or.inl rfl⟩
set_option maxRecDepth 100000 in
theorem pl10_31_i {mi : aM} {x : Option Nat} (ho : "HandleModels" = mi.1.cls) (hn : mi.1.name = "<init>") (hc : "HandleModels" = mi.1.cls) : ∀ c ∈ ([8] : List Nat), FL mi.1.cls 31 c 4 ∧ FT c 4 (.inr (.inr x)) ∧ FW mi c 4 := fun c h9 => by
  have h8 := fl10_31 c h9
  rw [← ho]
  refine ⟨h8, ?_⟩
  simp only [List.mem_cons, List.not_mem_nil, or_false] at h9
  rcases h9 with rfl
  · exact ⟨ft_obj (n := "HandleModels$Rows") rfl (by decide +kernel), ⟨_, rfl, Or.inr ⟨rfl, hn, hc⟩⟩⟩
set_option maxRecDepth 100000 in
theorem fl10_38 : ∀ c ∈ ([8] : List Nat), FL "HandleModels" 38 c 5 := fun c hc => by
  cases List.mem_singleton.mp hc
  exact ⟨_, "HandleModels", rfl, by decide, (gd_of 169 rfl rfl), Or.inl rfl⟩
set_option maxRecDepth 100000 in
theorem pl10_38_i {mi : aM} {x : Option Nat} (ho : "HandleModels" = mi.1.cls) (hn : mi.1.name = "<init>") (hc : "HandleModels" = mi.1.cls) : ∀ c ∈ ([8] : List Nat), FL mi.1.cls 38 c 5 ∧ FT c 5 (.inr (.inr x)) ∧ FW mi c 5 := fun c h9 => by
  have h8 := fl10_38 c h9
  rw [← ho]
  refine ⟨h8, ?_⟩
  simp only [List.mem_cons, List.not_mem_nil, or_false] at h9
  rcases h9 with rfl
  · exact ⟨ft_obj (n := "HandleModels$Values") rfl (by decide +kernel), ⟨_, rfl, Or.inr ⟨rfl, hn, hc⟩⟩⟩
abbrev dz4 : List aV := [.inr (.inr none), .inr (.inr none), .inl 0, .inl 0, .inl 0, .inr (.inl 0)]
set_option maxRecDepth 100000 in
theorem dz4_ok : ∀ j, j < 6 → defaultValue (tyX5 j) = vp_V (dz4.map tv) j := by decide +kernel
set_option maxRecDepth 100000 in
theorem okX5_init : mOk miX5_init 1 := ⟨(gd_of 136 rfl rfl), (gd_of 75 rfl rfl), by decide +kernel, ⟨by decide +kernel, by decide +kernel, by decide +kernel⟩, by decide⟩
set_option maxRecDepth 100000 in
theorem fl10_47 : ∀ c ∈ ([8] : List Nat), FL "HandleModels" 47 c 6 := fun c hc => by
  cases List.mem_singleton.mp hc
  exact ⟨_, "HandleModels", rfl, by decide, (gd_of 170 rfl rfl), Or.inl rfl⟩
set_option maxRecDepth 100000 in
theorem pl10_47_i {mi : aM} {x : Option Nat} (ho : "HandleModels" = mi.1.cls) (hn : mi.1.name = "<init>") (hc : "HandleModels" = mi.1.cls) : ∀ c ∈ ([8] : List Nat), FL mi.1.cls 47 c 6 ∧ FT c 6 (.inr (.inr x)) ∧ FW mi c 6 := fun c h9 => by
  have h8 := fl10_47 c h9
  rw [← ho]
  refine ⟨h8, ?_⟩
  simp only [List.mem_cons, List.not_mem_nil, or_false] at h9
  rcases h9 with rfl
  · exact ⟨ft_obj (n := "HandleModels$Runner") rfl (by decide +kernel), ⟨_, rfl, Or.inr ⟨rfl, hn, hc⟩⟩⟩
set_option maxRecDepth 100000 in
theorem fl10_51 : ∀ c ∈ ([8] : List Nat), FL "HandleModels" 51 c 7 := fun c hc => by
  cases List.mem_singleton.mp hc
  exact ⟨_, "HandleModels", rfl, by decide, (gd_of 171 rfl rfl), Or.inl rfl⟩
set_option maxRecDepth 100000 in
theorem pl10_51_i {mi : aM} {x : Int32} (ho : "HandleModels" = mi.1.cls) : ∀ c ∈ ([8] : List Nat), FL mi.1.cls 51 c 7 ∧ FT c 7 (.inl x) ∧ FW mi c 7 := fun c h9 => by
  have h8 := fl10_51 c h9
  rw [← ho]
  refine ⟨h8, ?_⟩
  simp only [List.mem_cons, List.not_mem_nil, or_false] at h9
  rcases h9 with rfl
  · exact ⟨ft_int rfl (by decide +kernel), ⟨_, rfl, Or.inl rfl⟩⟩
set_option maxRecDepth 100000 in
theorem fl10_54 : ∀ c ∈ ([8] : List Nat), FL "HandleModels" 54 c 8 := fun c hc => by
  cases List.mem_singleton.mp hc
  exact ⟨_, "HandleModels", rfl, by decide, (gd_of 172 rfl rfl), Or.inl rfl⟩
set_option maxRecDepth 100000 in
theorem pl10_54_i {mi : aM} {x : Int64} (ho : "HandleModels" = mi.1.cls) : ∀ c ∈ ([8] : List Nat), FL mi.1.cls 54 c 8 ∧ FT c 8 (.inr (.inl x)) ∧ FW mi c 8 := fun c h9 => by
  have h8 := fl10_54 c h9
  rw [← ho]
  refine ⟨h8, ?_⟩
  simp only [List.mem_cons, List.not_mem_nil, or_false] at h9
  rcases h9 with rfl
  · exact ⟨ft_long rfl (by decide +kernel), ⟨_, rfl, Or.inl rfl⟩⟩
set_option maxRecDepth 100000 in
theorem fl10_58 : ∀ c ∈ ([8] : List Nat), FL "HandleModels" 58 c 9 := fun c hc => by
  cases List.mem_singleton.mp hc
  exact ⟨_, "HandleModels", rfl, by decide, (gd_of 173 rfl rfl), Or.inl rfl⟩
set_option maxRecDepth 100000 in
theorem pl10_58_i {mi : aM} {x : Int32} (ho : "HandleModels" = mi.1.cls) : ∀ c ∈ ([8] : List Nat), FL mi.1.cls 58 c 9 ∧ FT c 9 (.inl x) ∧ FW mi c 9 := fun c h9 => by
  have h8 := fl10_58 c h9
  rw [← ho]
  refine ⟨h8, ?_⟩
  simp only [List.mem_cons, List.not_mem_nil, or_false] at h9
  rcases h9 with rfl
  · exact ⟨ft_int rfl (by decide +kernel), ⟨_, rfl, Or.inl rfl⟩⟩
def fX10_init (z : Nat → Nat) (a0 : Nat) (h : aH) : Option aH :=
  (nwR h 0 60).bind fun h101 =>
  (wrF h101 a0 [8] 0 (.inr (.inr (some h.1)))).bind fun h102 =>
  (wrF h102 a0 [8] 1 (.inl 0)).bind fun h103 =>
  (nwR h103 1 10).bind fun h104 =>
  (wrF h104 a0 [8] 2 (.inr (.inr (some h103.1)))).bind fun h105 =>
  (wrF h105 a0 [8] 3 (.inl 0)).bind fun h106 =>
  (fX4_init z h106.1 (hnew h106 3 (.inr (3, dz3)))).bind fun q107 =>
  (wrF q107 a0 [8] 4 (.inr (.inr (some h106.1)))).bind fun h108 =>
  (fX9_init z h108.1 (hnew h108 3 (.inr (7, dz7)))).bind fun q109 =>
  (wrF q109 a0 [8] 5 (.inr (.inr (some h108.1)))).bind fun h110 =>
  (rdR (hnew h110 6 (.inr (4, dz4))) a0 [8] 4).bind fun r111 =>
  (fX5_init z h110.1 r111 (hnew h110 6 (.inr (4, dz4)))).bind fun q112 =>
  (wrF q112 a0 [8] 6 (.inr (.inr (some h110.1)))).bind fun h113 =>
  (wrF h113 a0 [8] 7 (.inl 3)).bind fun h114 =>
  (wrF h114 a0 [8] 8 (.inr (.inl 0))).bind fun h115 =>
  (wrF h115 a0 [8] 9 (.inl 0)).bind fun h116 =>
  some h116
set_option maxHeartbeats 4000000 in
set_option maxRecDepth 100000 in
theorem xX10_init {l : Launch} {g : aG} {d : Nat} (hK : 3 ≤ d) {a0 : Nat} {h : aH} {q : aH} (hf : fX10_init g.2.2 a0 h = some q) : Ev l g miX10_init d [.inr (.inr (some a0))] h (none, q) := by
  obtain ⟨d, rfl⟩ : ∃ e, d = e + 1 := ⟨d - 1, by omega⟩
  refine ⟨?_, rfl, Nat.le_of_ble_eq_true rfl⟩
  unfold fX10_init at hf
  show Y l g miX10_init (d + 1) 0 [some (.inr (.inr (some a0)))] [] h _
  refine y_aload_n (i := 0) dX10_init_0 rfl rfl ?_
  refine y_obj dX10_init_1 (gd_of 91 rfl rfl) (gd_of 92 rfl rfl) (gd_of 93 rfl rfl) (by simp) (Nat.le_of_ble_eq_true rfl) ?_
  refine y_aload_n (i := 0) dX10_init_4 rfl rfl ?_
  refine y_bipush (v := 60) dX10_init_5 (by decide) ?_
  replace hf := bnd hf
  obtain ⟨h101, eh101, hf⟩ := hf
  refine y_newR (t := 0) eh101 (gd_of 94 rfl rfl) (by simp [arC, aoCs]) dX10_init_7 ?_
  replace hf := bnd hf
  obtain ⟨h102, eh102, hf⟩ := hf
  refine y_put eh102 (pl10_11_i rfl rfl rfl) dX10_init_10 ?_
  refine y_aload_n (i := 0) dX10_init_13 rfl rfl ?_
  refine y_iconst (v := 0) dX10_init_14 (by decide) ?_
  replace hf := bnd hf
  obtain ⟨h103, eh103, hf⟩ := hf
  refine y_put eh103 (pl10_15_i rfl) dX10_init_15 ?_
  refine y_aload_n (i := 0) dX10_init_18 rfl rfl ?_
  refine y_bipush (v := 10) dX10_init_19 (by decide) ?_
  replace hf := bnd hf
  obtain ⟨h104, eh104, hf⟩ := hf
  refine y_newR (t := 1) eh104 (gd_of 96 rfl rfl) (by simp [arC, aoCs]) dX10_init_21 ?_
  replace hf := bnd hf
  obtain ⟨h105, eh105, hf⟩ := hf
  refine y_put eh105 (pl10_21_i rfl rfl rfl) dX10_init_24 ?_
  refine y_aload_n (i := 0) dX10_init_27 rfl rfl ?_
  refine y_iconst (v := 0) dX10_init_28 (by decide) ?_
  replace hf := bnd hf
  obtain ⟨h106, eh106, hf⟩ := hf
  refine y_put eh106 (pl10_25_i rfl) dX10_init_29 ?_
  refine y_aload_n (i := 0) dX10_init_32 rfl rfl ?_
  refine y_new (c := 3) (fs := dz3) rfl tyX4 tyX4_ok rfl dz3_ok (gd_of 98 rfl rfl) (gd_of 99 rfl rfl) (gd_of 73 rfl rfl) dX10_init_33 ?_
  refine y_dup dX10_init_36 rfl ?_
  replace hf := bnd hf
  obtain ⟨q107, eq107, hf⟩ := hf
  refine y_callI (mj := miX4_init) (args := []) (st := [.inr (.inr (some h106.1)), .inr (.inr (some a0))]) dX10_init_37 (Or.inr ⟨"HandleModels", by simp [nWs]⟩) (gd_of 101 rfl rfl) rfl rfl okX4_init (xX4_init (by omega) eq107) (Nat.le_of_ble_eq_true rfl) rfl ?_
  show Y l g miX10_init (d + 1) 40 [some (.inr (.inr (some a0)))] [.inr (.inr (some h106.1)), .inr (.inr (some a0))] q107 _
  replace hf := bnd hf
  obtain ⟨h108, eh108, hf⟩ := hf
  refine y_put eh108 (pl10_31_i rfl rfl rfl) dX10_init_40 ?_
  refine y_aload_n (i := 0) dX10_init_43 rfl rfl ?_
  refine y_new (c := 7) (fs := dz7) rfl tyX9 tyX9_ok rfl dz7_ok (gd_of 115 rfl rfl) (gd_of 116 rfl rfl) (gd_of 74 rfl rfl) dX10_init_44 ?_
  refine y_dup dX10_init_47 rfl ?_
  replace hf := bnd hf
  obtain ⟨q109, eq109, hf⟩ := hf
  refine y_callI (mj := miX9_init) (args := []) (st := [.inr (.inr (some h108.1)), .inr (.inr (some a0))]) dX10_init_48 (Or.inr ⟨"HandleModels", by simp [nWs]⟩) (gd_of 118 rfl rfl) rfl rfl okX9_init (xX9_init (by omega) eq109) (Nat.le_of_ble_eq_true rfl) rfl ?_
  show Y l g miX10_init (d + 1) 51 [some (.inr (.inr (some a0)))] [.inr (.inr (some h108.1)), .inr (.inr (some a0))] q109 _
  replace hf := bnd hf
  obtain ⟨h110, eh110, hf⟩ := hf
  refine y_put eh110 (pl10_38_i rfl rfl rfl) dX10_init_51 ?_
  refine y_aload_n (i := 0) dX10_init_54 rfl rfl ?_
  refine y_new (c := 4) (fs := dz4) rfl tyX5 tyX5_ok rfl dz4_ok (gd_of 132 rfl rfl) (gd_of 133 rfl rfl) (gd_of 75 rfl rfl) dX10_init_55 ?_
  refine y_dup dX10_init_58 rfl ?_
  refine y_aload_n (i := 0) dX10_init_59 rfl rfl ?_
  replace hf := bnd hf
  obtain ⟨r111, er111, hf⟩ := hf
  refine y_getR er111 fl10_31 dX10_init_60 ?_
  replace hf := bnd hf
  obtain ⟨q112, eq112, hf⟩ := hf
  refine y_callI (mj := miX5_init) (args := [.inr (.inr r111)]) (st := [.inr (.inr (some h110.1)), .inr (.inr (some a0))]) dX10_init_63 (Or.inl (gd_of 134 rfl rfl)) (gd_of 135 rfl rfl) rfl rfl okX5_init (xX5_init (by omega) eq112) (Nat.le_of_ble_eq_true rfl) rfl ?_
  show Y l g miX10_init (d + 1) 66 [some (.inr (.inr (some a0)))] [.inr (.inr (some h110.1)), .inr (.inr (some a0))] q112 _
  replace hf := bnd hf
  obtain ⟨h113, eh113, hf⟩ := hf
  refine y_put eh113 (pl10_47_i rfl rfl rfl) dX10_init_66 ?_
  refine y_aload_n (i := 0) dX10_init_69 rfl rfl ?_
  refine y_iconst (v := 3) dX10_init_70 (by decide) ?_
  replace hf := bnd hf
  obtain ⟨h114, eh114, hf⟩ := hf
  refine y_put eh114 (pl10_51_i rfl) dX10_init_71 ?_
  refine y_aload_n (i := 0) dX10_init_74 rfl rfl ?_
  refine y_lconst (v := 0) dX10_init_75 (by decide) ?_
  replace hf := bnd hf
  obtain ⟨h115, eh115, hf⟩ := hf
  refine y_put eh115 (pl10_54_i rfl) dX10_init_76 ?_
  refine y_aload_n (i := 0) dX10_init_79 rfl rfl ?_
  refine y_iconst (v := 0) dX10_init_80 (by decide) ?_
  replace hf := bnd hf
  obtain ⟨h116, eh116, hf⟩ := hf
  refine y_put eh116 (pl10_58_i rfl) dX10_init_81 ?_
  obtain rfl := Option.some.inj hf
  exact y_ret (v := none) dX10_init_84 rfl
set_option maxRecDepth 100000 in
theorem dX10_handleAt_0 : decode prog_1_method_18_code 0 = .ok (.iload_n 1, 1) := by decide +kernel
set_option maxRecDepth 100000 in
theorem dX10_handleAt_1 : decode prog_1_method_18_code 1 = .ok (.ifCond .lt 20, 3) := by decide +kernel
set_option maxRecDepth 100000 in
theorem dX10_handleAt_4 : decode prog_1_method_18_code 4 = .ok (.iload_n 1, 1) := by decide +kernel
set_option maxRecDepth 100000 in
theorem dX10_handleAt_5 : decode prog_1_method_18_code 5 = .ok (.aload_n 0, 1) := by decide +kernel
set_option maxRecDepth 100000 in
theorem dX10_handleAt_6 : decode prog_1_method_18_code 6 = .ok (.getfield 15, 3) := by decide +kernel
set_option maxRecDepth 100000 in
theorem dX10_handleAt_9 : decode prog_1_method_18_code 9 = .ok (.if_icmp .ge 12, 3) := by decide +kernel
set_option maxRecDepth 100000 in
theorem dX10_handleAt_12 : decode prog_1_method_18_code 12 = .ok (.aload_n 0, 1) := by decide +kernel
set_option maxRecDepth 100000 in
theorem dX10_handleAt_13 : decode prog_1_method_18_code 13 = .ok (.getfield 11, 3) := by decide +kernel
set_option maxRecDepth 100000 in
theorem dX10_handleAt_16 : decode prog_1_method_18_code 16 = .ok (.iload_n 1, 1) := by decide +kernel
set_option maxRecDepth 100000 in
theorem dX10_handleAt_17 : decode prog_1_method_18_code 17 = .ok (.aaload, 1) := by decide +kernel
set_option maxRecDepth 100000 in
theorem dX10_handleAt_18 : decode prog_1_method_18_code 18 = .ok (.goto 4, 3) := by decide +kernel
set_option maxRecDepth 100000 in
theorem dX10_handleAt_21 : decode prog_1_method_18_code 21 = .ok (.aconst_null, 1) := by decide +kernel
set_option maxRecDepth 100000 in
theorem dX10_handleAt_22 : decode prog_1_method_18_code 22 = .ok (.areturn, 1) := by decide +kernel

def fX10_handleAt (z : Nat → Nat) (a0 : Nat) (x1 : Int32) (h : aH) : Option (Option Nat × aH) :=
  (if x1 < 0 then
  some (none, h)
  else
  (rdI h a0 [8] 1).bind fun x101 =>
  (if x101 ≤ x1 then
  some (none, h)
  else
  (rdR h a0 [8] 0).bind fun r102 =>
  (r102).bind fun a103 =>
  (arR h a103 x1).bind fun r104 =>
  some (r104, h)))
set_option maxHeartbeats 4000000 in
set_option maxRecDepth 100000 in
theorem xX10_handleAt {l : Launch} {g : aG} {d : Nat} (hK : 0 ≤ d) {a0 : Nat} {x1 : Int32} {h : aH} {q : Option Nat × aH} (hf : fX10_handleAt g.2.2 a0 x1 h = some q) : Ev l g miX10_handleAt d [.inr (.inr (some a0)), .inl x1] h (some (.inr (.inr q.1)), q.2) := by
  refine ⟨?_, Or.inl ⟨_, rfl⟩, Nat.le_of_ble_eq_true rfl⟩
  unfold fX10_handleAt at hf
  show Y l g miX10_handleAt d 0 [some (.inr (.inr (some a0))), some (.inl x1)] [] h _
  refine y_iload_n (i := 1) dX10_handleAt_0 rfl rfl ?_
  refine y_if_lt (tgt := 21) dX10_handleAt_1 (by decide) (fun hc => ?_) (fun hc => ?_)
  · rw [if_pos hc] at hf
    refine y_null dX10_handleAt_21 ?_
    obtain rfl := Option.some.inj hf
    exact y_ret (v := some (.inr (.inr none))) dX10_handleAt_22 rfl
  · rw [if_neg hc] at hf
    refine y_iload_n (i := 1) dX10_handleAt_4 rfl rfl ?_
    refine y_aload_n (i := 0) dX10_handleAt_5 rfl rfl ?_
    replace hf := bnd hf
    obtain ⟨x101, ex101, hf⟩ := hf
    refine y_getI ex101 fl10_15 dX10_handleAt_6 ?_
    refine y_icmp_ge (tgt := 21) dX10_handleAt_9 (by decide) (fun hc => ?_) (fun hc => ?_)
    · rw [if_pos hc] at hf
      refine y_null dX10_handleAt_21 ?_
      obtain rfl := Option.some.inj hf
      exact y_ret (v := some (.inr (.inr none))) dX10_handleAt_22 rfl
    · rw [if_neg hc] at hf
      refine y_aload_n (i := 0) dX10_handleAt_12 rfl rfl ?_
      replace hf := bnd hf
      obtain ⟨r102, er102, hf⟩ := hf
      refine y_getR er102 fl10_11 dX10_handleAt_13 ?_
      refine y_iload_n (i := 1) dX10_handleAt_16 rfl rfl ?_
      replace hf := bnd hf
      obtain ⟨a103, rfl, hf⟩ := hf
      replace hf := bnd hf
      obtain ⟨r104, er104, hf⟩ := hf
      refine y_aaload er104 dX10_handleAt_17 ?_
      refine y_goto (tgt := 22) dX10_handleAt_18 (by decide) ?_
      obtain rfl := Option.some.inj hf
      exact y_ret (v := some (.inr (.inr r104))) dX10_handleAt_22 rfl
set_option maxRecDepth 100000 in
theorem dX8_at_0 : decode prog_10_method_3_code 0 = .ok (.iload_n 1, 1) := by decide +kernel
set_option maxRecDepth 100000 in
theorem dX8_at_1 : decode prog_10_method_3_code 1 = .ok (.ifCond .lt 21, 3) := by decide +kernel
set_option maxRecDepth 100000 in
theorem dX8_at_4 : decode prog_10_method_3_code 4 = .ok (.iload_n 1, 1) := by decide +kernel
set_option maxRecDepth 100000 in
theorem dX8_at_5 : decode prog_10_method_3_code 5 = .ok (.aload_n 0, 1) := by decide +kernel
set_option maxRecDepth 100000 in
theorem dX8_at_6 : decode prog_10_method_3_code 6 = .ok (.getfield 9, 3) := by decide +kernel
set_option maxRecDepth 100000 in
theorem dX8_at_9 : decode prog_10_method_3_code 9 = .ok (.arraylength, 1) := by decide +kernel
set_option maxRecDepth 100000 in
theorem dX8_at_10 : decode prog_10_method_3_code 10 = .ok (.if_icmp .ge 12, 3) := by decide +kernel
set_option maxRecDepth 100000 in
theorem dX8_at_13 : decode prog_10_method_3_code 13 = .ok (.aload_n 0, 1) := by decide +kernel
set_option maxRecDepth 100000 in
theorem dX8_at_14 : decode prog_10_method_3_code 14 = .ok (.getfield 9, 3) := by decide +kernel
set_option maxRecDepth 100000 in
theorem dX8_at_17 : decode prog_10_method_3_code 17 = .ok (.iload_n 1, 1) := by decide +kernel
set_option maxRecDepth 100000 in
theorem dX8_at_18 : decode prog_10_method_3_code 18 = .ok (.iaload, 1) := by decide +kernel
set_option maxRecDepth 100000 in
theorem dX8_at_19 : decode prog_10_method_3_code 19 = .ok (.goto 4, 3) := by decide +kernel
set_option maxRecDepth 100000 in
theorem dX8_at_22 : decode prog_10_method_3_code 22 = .ok (.iconst (-1), 1) := by decide +kernel
set_option maxRecDepth 100000 in
theorem dX8_at_23 : decode prog_10_method_3_code 23 = .ok (.ireturn, 1) := by decide +kernel
set_option maxRecDepth 100000 in
theorem fl8_9 : ∀ c ∈ ([6] : List Nat), FL "HandleModels$Types" 9 c 0 := fun c hc => by
  cases List.mem_singleton.mp hc
  exact ⟨_, "HandleModels$Types", rfl, by decide, (gd_of 221 rfl rfl), Or.inl rfl⟩
def fX8_at (z : Nat → Nat) (a0 : Nat) (x1 : Int32) (h : aH) : Option (Int32 × aH) :=
  (if x1 < 0 then
  some ((-1), h)
  else
  (rdR h a0 [6] 0).bind fun r101 =>
  (r101).bind fun a102 =>
  (arN h a102).bind fun x103 =>
  (if x103 ≤ x1 then
  some ((-1), h)
  else
  (rdR h a0 [6] 0).bind fun r104 =>
  (r104).bind fun a105 =>
  (arI h a105 x1).bind fun x106 =>
  some (x106, h)))
set_option maxHeartbeats 4000000 in
set_option maxRecDepth 100000 in
theorem xX8_at {l : Launch} {g : aG} {d : Nat} (hK : 0 ≤ d) {a0 : Nat} {x1 : Int32} {h : aH} {q : Int32 × aH} (hf : fX8_at g.2.2 a0 x1 h = some q) : Ev l g miX8_at d [.inr (.inr (some a0)), .inl x1] h (some (.inl q.1), q.2) := by
  refine ⟨?_, Or.inl rfl, Nat.le_of_ble_eq_true rfl⟩
  unfold fX8_at at hf
  show Y l g miX8_at d 0 [some (.inr (.inr (some a0))), some (.inl x1)] [] h _
  refine y_iload_n (i := 1) dX8_at_0 rfl rfl ?_
  refine y_if_lt (tgt := 22) dX8_at_1 (by decide) (fun hc => ?_) (fun hc => ?_)
  · rw [if_pos hc] at hf
    refine y_iconst (v := (-1)) dX8_at_22 (by decide) ?_
    obtain rfl := Option.some.inj hf
    exact y_ret (v := some (.inl (-1))) dX8_at_23 rfl
  · rw [if_neg hc] at hf
    refine y_iload_n (i := 1) dX8_at_4 rfl rfl ?_
    refine y_aload_n (i := 0) dX8_at_5 rfl rfl ?_
    replace hf := bnd hf
    obtain ⟨r101, er101, hf⟩ := hf
    refine y_getR er101 fl8_9 dX8_at_6 ?_
    replace hf := bnd hf
    obtain ⟨a102, rfl, hf⟩ := hf
    replace hf := bnd hf
    obtain ⟨x103, ex103, hf⟩ := hf
    refine y_alen ex103 dX8_at_9 ?_
    refine y_icmp_ge (tgt := 22) dX8_at_10 (by decide) (fun hc => ?_) (fun hc => ?_)
    · rw [if_pos hc] at hf
      refine y_iconst (v := (-1)) dX8_at_22 (by decide) ?_
      obtain rfl := Option.some.inj hf
      exact y_ret (v := some (.inl (-1))) dX8_at_23 rfl
    · rw [if_neg hc] at hf
      refine y_aload_n (i := 0) dX8_at_13 rfl rfl ?_
      replace hf := bnd hf
      obtain ⟨r104, er104, hf⟩ := hf
      refine y_getR er104 fl8_9 dX8_at_14 ?_
      refine y_iload_n (i := 1) dX8_at_17 rfl rfl ?_
      replace hf := bnd hf
      obtain ⟨a105, rfl, hf⟩ := hf
      replace hf := bnd hf
      obtain ⟨x106, ex106, hf⟩ := hf
      refine y_iaload ex106 dX8_at_18 ?_
      refine y_goto (tgt := 23) dX8_at_19 (by decide) ?_
      obtain rfl := Option.some.inj hf
      exact y_ret (v := some (.inl x106)) dX8_at_23 rfl
set_option maxRecDepth 100000 in
theorem dX8_count_0 : decode prog_10_method_2_code 0 = .ok (.aload_n 0, 1) := by decide +kernel
set_option maxRecDepth 100000 in
theorem dX8_count_1 : decode prog_10_method_2_code 1 = .ok (.getfield 9, 3) := by decide +kernel
set_option maxRecDepth 100000 in
theorem dX8_count_4 : decode prog_10_method_2_code 4 = .ok (.arraylength, 1) := by decide +kernel
set_option maxRecDepth 100000 in
theorem dX8_count_5 : decode prog_10_method_2_code 5 = .ok (.ireturn, 1) := by decide +kernel

def fX8_count (z : Nat → Nat) (a0 : Nat) (h : aH) : Option (Int32 × aH) :=
  (rdR h a0 [6] 0).bind fun r101 =>
  (r101).bind fun a102 =>
  (arN h a102).bind fun x103 =>
  some (x103, h)
set_option maxHeartbeats 4000000 in
set_option maxRecDepth 100000 in
theorem xX8_count {l : Launch} {g : aG} {d : Nat} (hK : 0 ≤ d) {a0 : Nat} {h : aH} {q : Int32 × aH} (hf : fX8_count g.2.2 a0 h = some q) : Ev l g miX8_count d [.inr (.inr (some a0))] h (some (.inl q.1), q.2) := by
  refine ⟨?_, Or.inl rfl, Nat.le_of_ble_eq_true rfl⟩
  unfold fX8_count at hf
  show Y l g miX8_count d 0 [some (.inr (.inr (some a0)))] [] h _
  refine y_aload_n (i := 0) dX8_count_0 rfl rfl ?_
  replace hf := bnd hf
  obtain ⟨r101, er101, hf⟩ := hf
  refine y_getR er101 fl8_9 dX8_count_1 ?_
  replace hf := bnd hf
  obtain ⟨a102, rfl, hf⟩ := hf
  replace hf := bnd hf
  obtain ⟨x103, ex103, hf⟩ := hf
  refine y_alen ex103 dX8_count_4 ?_
  obtain rfl := Option.some.inj hf
  exact y_ret (v := some (.inl x103)) dX8_count_5 rfl
set_option maxRecDepth 100000 in
theorem dX10_about_0 : decode prog_1_method_14_code 0 = .ok (.aload_n 0, 1) := by decide +kernel
set_option maxRecDepth 100000 in
theorem dX10_about_1 : decode prog_1_method_14_code 1 = .ok (.iload_n 1, 1) := by decide +kernel
set_option maxRecDepth 100000 in
theorem dX10_about_2 : decode prog_1_method_14_code 2 = .ok (.invokevirtual 82, 3) := by decide +kernel
set_option maxRecDepth 100000 in
theorem dX10_about_5 : decode prog_1_method_14_code 5 = .ok (.astore_n 3, 1) := by decide +kernel
set_option maxRecDepth 100000 in
theorem dX10_about_6 : decode prog_1_method_14_code 6 = .ok (.aload_n 3, 1) := by decide +kernel
set_option maxRecDepth 100000 in
theorem dX10_about_7 : decode prog_1_method_14_code 7 = .ok (.ifnonnull 6, 3) := by decide +kernel
set_option maxRecDepth 100000 in
theorem dX10_about_10 : decode prog_1_method_14_code 10 = .ok (.bipush (-2), 2) := by decide +kernel
set_option maxRecDepth 100000 in
theorem dX10_about_12 : decode prog_1_method_14_code 12 = .ok (.ireturn, 1) := by decide +kernel
set_option maxRecDepth 100000 in
theorem dX10_about_13 : decode prog_1_method_14_code 13 = .ok (.aload_n 3, 1) := by decide +kernel
set_option maxRecDepth 100000 in
theorem dX10_about_14 : decode prog_1_method_14_code 14 = .ok (.getfield 106, 3) := by decide +kernel
set_option maxRecDepth 100000 in
theorem dX10_about_17 : decode prog_1_method_14_code 17 = .ok (.astore 4, 2) := by decide +kernel
set_option maxRecDepth 100000 in
theorem dX10_about_19 : decode prog_1_method_14_code 19 = .ok (.iload_n 2, 1) := by decide +kernel
set_option maxRecDepth 100000 in
theorem dX10_about_20 : decode prog_1_method_14_code 20 = .ok (.ifCond .ne 9, 3) := by decide +kernel
set_option maxRecDepth 100000 in
theorem dX10_about_23 : decode prog_1_method_14_code 23 = .ok (.aload 4, 2) := by decide +kernel
set_option maxRecDepth 100000 in
theorem dX10_about_25 : decode prog_1_method_14_code 25 = .ok (.invokevirtual 169, 3) := by decide +kernel
set_option maxRecDepth 100000 in
theorem dX10_about_28 : decode prog_1_method_14_code 28 = .ok (.ireturn, 1) := by decide +kernel
set_option maxRecDepth 100000 in
theorem dX10_about_29 : decode prog_1_method_14_code 29 = .ok (.iload_n 2, 1) := by decide +kernel
set_option maxRecDepth 100000 in
theorem dX10_about_30 : decode prog_1_method_14_code 30 = .ok (.bipush 7, 2) := by decide +kernel
set_option maxRecDepth 100000 in
theorem dX10_about_32 : decode prog_1_method_14_code 32 = .ok (.if_icmp .ne 9, 3) := by decide +kernel
set_option maxRecDepth 100000 in
theorem dX10_about_35 : decode prog_1_method_14_code 35 = .ok (.aload 4, 2) := by decide +kernel
set_option maxRecDepth 100000 in
theorem dX10_about_37 : decode prog_1_method_14_code 37 = .ok (.getfield 170, 3) := by decide +kernel
set_option maxRecDepth 100000 in
theorem dX10_about_40 : decode prog_1_method_14_code 40 = .ok (.ireturn, 1) := by decide +kernel
set_option maxRecDepth 100000 in
theorem dX10_about_41 : decode prog_1_method_14_code 41 = .ok (.iload_n 2, 1) := by decide +kernel
set_option maxRecDepth 100000 in
theorem dX10_about_42 : decode prog_1_method_14_code 42 = .ok (.iconst 1, 1) := by decide +kernel
set_option maxRecDepth 100000 in
theorem dX10_about_43 : decode prog_1_method_14_code 43 = .ok (.if_icmp .lt 23, 3) := by decide +kernel
set_option maxRecDepth 100000 in
theorem dX10_about_46 : decode prog_1_method_14_code 46 = .ok (.iload_n 2, 1) := by decide +kernel
set_option maxRecDepth 100000 in
theorem dX10_about_47 : decode prog_1_method_14_code 47 = .ok (.aload 4, 2) := by decide +kernel
set_option maxRecDepth 100000 in
theorem dX10_about_49 : decode prog_1_method_14_code 49 = .ok (.invokevirtual 169, 3) := by decide +kernel
set_option maxRecDepth 100000 in
theorem dX10_about_52 : decode prog_1_method_14_code 52 = .ok (.if_icmp .gt 14, 3) := by decide +kernel
set_option maxRecDepth 100000 in
theorem dX10_about_55 : decode prog_1_method_14_code 55 = .ok (.aload 4, 2) := by decide +kernel
set_option maxRecDepth 100000 in
theorem dX10_about_57 : decode prog_1_method_14_code 57 = .ok (.iload_n 2, 1) := by decide +kernel
set_option maxRecDepth 100000 in
theorem dX10_about_58 : decode prog_1_method_14_code 58 = .ok (.iconst 1, 1) := by decide +kernel
set_option maxRecDepth 100000 in
theorem dX10_about_59 : decode prog_1_method_14_code 59 = .ok (.isub, 1) := by decide +kernel
set_option maxRecDepth 100000 in
theorem dX10_about_60 : decode prog_1_method_14_code 60 = .ok (.invokevirtual 110, 3) := by decide +kernel
set_option maxRecDepth 100000 in
theorem dX10_about_63 : decode prog_1_method_14_code 63 = .ok (.goto 5, 3) := by decide +kernel
set_option maxRecDepth 100000 in
theorem dX10_about_66 : decode prog_1_method_14_code 66 = .ok (.bipush (-3), 2) := by decide +kernel
set_option maxRecDepth 100000 in
theorem dX10_about_68 : decode prog_1_method_14_code 68 = .ok (.ireturn, 1) := by decide +kernel
set_option maxRecDepth 100000 in
theorem okX10_handleAt : mOk miX10_handleAt 1 := ⟨(gd_of 266 rfl rfl), (gd_of 72 rfl rfl), by decide +kernel, ⟨by decide +kernel, by decide +kernel, by decide +kernel⟩, by decide⟩
set_option maxRecDepth 100000 in
theorem fl10_106 : ∀ c ∈ ([0, 1] : List Nat), FL "HandleModels" 106 c 1 := fun c hc => by
  simp only [List.mem_cons, List.not_mem_nil, or_false] at hc
  rcases hc with rfl | rfl
  · exact ⟨_, "HandleModels$Handle", rfl, by decide, (gd_of 241 rfl rfl), Or.inl rfl⟩
  · exact ⟨_, "HandleModels$Handle", rfl, by decide, (gd_of 241 rfl rfl), Or.inl rfl⟩
set_option maxRecDepth 100000 in
theorem okX8_count : mOk miX8_count 0 := ⟨(gd_of 316 rfl rfl), (gd_of 79 rfl rfl), by decide +kernel, ⟨by decide +kernel, by decide +kernel, by decide +kernel⟩, by decide⟩
set_option maxRecDepth 100000 in
theorem okX8_at : mOk miX8_at 1 := ⟨(gd_of 342 rfl rfl), (gd_of 79 rfl rfl), by decide +kernel, ⟨by decide +kernel, by decide +kernel, by decide +kernel⟩, by decide⟩
set_option maxRecDepth 100000 in
theorem fl10_170 : ∀ c ∈ ([6] : List Nat), FL "HandleModels" 170 c 1 := fun c hc => by
  cases List.mem_singleton.mp hc
  exact ⟨_, "HandleModels$Types", rfl, by decide, (gd_of 226 rfl rfl), Or.inl rfl⟩
def fX10_about (z : Nat → Nat) (a0 : Nat) (x1 : Int32) (x2 : Int32) (h : aH) : Option (Int32 × aH) :=
  (obO h a0 8).bind fun fs102 =>
  (fX10_handleAt z a0 x1 h).bind fun q101 =>
  (Option.elim q101.1
  (some ((-2), q101.2))
  fun a103 =>
  (rdR q101.2 a103 [0, 1] 1).bind fun r104 =>
  (if x2 = 0 then
  (r104).bind fun a113 =>
  (obO q101.2 a113 6).bind fun fs114 =>
  (fX8_count z a113 q101.2).bind fun q112 =>
  some (q112.1, q112.2)
  else
  (if x2 = 7 then
  (r104).bind fun a110 =>
  (rdI q101.2 a110 [6] 1).bind fun x111 =>
  some (x111, q101.2)
  else
  (if x2 < 1 then
  some ((-3), q101.2)
  else
  (r104).bind fun a106 =>
  (obO q101.2 a106 6).bind fun fs107 =>
  (fX8_count z a106 q101.2).bind fun q105 =>
  (if q105.1 < x2 then
  some ((-3), q105.2)
  else
  (obO q105.2 a106 6).bind fun fs109 =>
  (fX8_at z a106 (x2 - 1) q105.2).bind fun q108 =>
  some (q108.1, q108.2))))))
set_option maxHeartbeats 4000000 in
set_option maxRecDepth 100000 in
theorem xX10_about {l : Launch} {g : aG} {d : Nat} (hK : 1 ≤ d) {a0 : Nat} {x1 : Int32} {x2 : Int32} {h : aH} {q : Int32 × aH} (hf : fX10_about g.2.2 a0 x1 x2 h = some q) : Ev l g miX10_about d [.inr (.inr (some a0)), .inl x1, .inl x2] h (some (.inl q.1), q.2) := by
  obtain ⟨d, rfl⟩ : ∃ e, d = e + 1 := ⟨d - 1, by omega⟩
  refine ⟨?_, Or.inl rfl, Nat.le_of_ble_eq_true rfl⟩
  unfold fX10_about at hf
  show Y l g miX10_about (d + 1) 0 [some (.inr (.inr (some a0))), some (.inl x1), some (.inl x2), none, none] [] h _
  refine y_aload_n (i := 0) dX10_about_0 rfl rfl ?_
  refine y_iload_n (i := 1) dX10_about_1 rfl rfl ?_
  replace hf := bnd hf
  obtain ⟨fs102, efs102, hf⟩ := hf
  replace hf := bnd hf
  obtain ⟨q101, eq101, hf⟩ := hf
  refine y_callV (mj := miX10_handleAt) (args := [.inl x1]) (st := []) dX10_about_2 (gd_of 263 rfl rfl) (gd_of 265 rfl rfl) (gd_of 1 rfl rfl) okX10_handleAt (obO_spec efs102) rfl rfl (xX10_handleAt (by omega) eq101) (Nat.le_of_ble_eq_true rfl) rfl ?_
  show Y l g miX10_about (d + 1) 5 [some (.inr (.inr (some a0))), some (.inl x1), some (.inl x2), none, none] [.inr (.inr q101.1)] q101.2 _
  refine y_astore_n (i := 3) (lv2 := [some (.inr (.inr (some a0))), some (.inl x1), some (.inl x2), some (.inr (.inr q101.1)), none]) dX10_about_5 rfl (by decide) rfl ?_
  refine y_aload_n (i := 3) dX10_about_6 rfl rfl ?_
  refine y_ifnonnull (tgt := 13) dX10_about_7 (by decide) (fun hc => ?_) (fun a103 hc => ?_)
  · rw [hc] at hf; rw [hc]; rw [Option.elim_none] at hf
    refine y_bipush (v := (-2)) dX10_about_10 (by decide) ?_
    obtain rfl := Option.some.inj hf
    exact y_ret (v := some (.inl (-2))) dX10_about_12 rfl
  · rw [hc] at hf; rw [hc]; rw [Option.elim_some] at hf
    refine y_aload_n (i := 3) dX10_about_13 rfl rfl ?_
    replace hf := bnd hf
    obtain ⟨r104, er104, hf⟩ := hf
    refine y_getR er104 fl10_106 dX10_about_14 ?_
    refine y_astore (i := 4) (lv2 := [some (.inr (.inr (some a0))), some (.inl x1), some (.inl x2), some (.inr (.inr (some a103))), some (.inr (.inr r104))]) dX10_about_17 (by decide) rfl ?_
    refine y_iload_n (i := 2) dX10_about_19 rfl rfl ?_
    refine y_if_ne (tgt := 29) dX10_about_20 (by decide) (fun hc => ?_) (fun hc => ?_)
    · rw [if_neg hc] at hf
      refine y_iload_n (i := 2) dX10_about_29 rfl rfl ?_
      refine y_bipush (v := 7) dX10_about_30 (by decide) ?_
      refine y_icmp_ne (tgt := 41) dX10_about_32 (by decide) (fun hc => ?_) (fun hc => ?_)
      · rw [if_neg hc] at hf
        refine y_iload_n (i := 2) dX10_about_41 rfl rfl ?_
        refine y_iconst (v := 1) dX10_about_42 (by decide) ?_
        refine y_icmp_lt (tgt := 66) dX10_about_43 (by decide) (fun hc => ?_) (fun hc => ?_)
        · rw [if_pos hc] at hf
          refine y_bipush (v := (-3)) dX10_about_66 (by decide) ?_
          obtain rfl := Option.some.inj hf
          exact y_ret (v := some (.inl (-3))) dX10_about_68 rfl
        · rw [if_neg hc] at hf
          refine y_iload_n (i := 2) dX10_about_46 rfl rfl ?_
          refine y_aload (i := 4) dX10_about_47 rfl ?_
          replace hf := bnd hf
          obtain ⟨a106, rfl, hf⟩ := hf
          replace hf := bnd hf
          obtain ⟨fs107, efs107, hf⟩ := hf
          replace hf := bnd hf
          obtain ⟨q105, eq105, hf⟩ := hf
          refine y_callV (mj := miX8_count) (args := []) (st := [.inl x2]) dX10_about_49 (gd_of 658 rfl rfl) (gd_of 314 rfl rfl) (gd_of 315 rfl rfl) okX8_count (obO_spec efs107) rfl rfl (xX8_count (by omega) eq105) (Nat.le_of_ble_eq_true rfl) rfl ?_
          show Y l g miX10_about (d + 1) 52 [some (.inr (.inr (some a0))), some (.inl x1), some (.inl x2), some (.inr (.inr (some a103))), some (.inr (.inr (some a106)))] [.inl q105.1, .inl x2] q105.2 _
          refine y_icmp_gt (tgt := 66) dX10_about_52 (by decide) (fun hc => ?_) (fun hc => ?_)
          · rw [if_pos hc] at hf
            refine y_bipush (v := (-3)) dX10_about_66 (by decide) ?_
            obtain rfl := Option.some.inj hf
            exact y_ret (v := some (.inl (-3))) dX10_about_68 rfl
          · rw [if_neg hc] at hf
            refine y_aload (i := 4) dX10_about_55 rfl ?_
            refine y_iload_n (i := 2) dX10_about_57 rfl rfl ?_
            refine y_iconst (v := 1) dX10_about_58 (by decide) ?_
            refine y_isub dX10_about_59 ?_
            replace hf := bnd hf
            obtain ⟨fs109, efs109, hf⟩ := hf
            replace hf := bnd hf
            obtain ⟨q108, eq108, hf⟩ := hf
            refine y_callV (mj := miX8_at) (args := [.inl (x2 - 1)]) (st := []) dX10_about_60 (gd_of 377 rfl rfl) (gd_of 340 rfl rfl) (gd_of 341 rfl rfl) okX8_at (obO_spec efs109) rfl rfl (xX8_at (by omega) eq108) (Nat.le_of_ble_eq_true rfl) rfl ?_
            show Y l g miX10_about (d + 1) 63 [some (.inr (.inr (some a0))), some (.inl x1), some (.inl x2), some (.inr (.inr (some a103))), some (.inr (.inr (some a106)))] [.inl q108.1] q108.2 _
            refine y_goto (tgt := 68) dX10_about_63 (by decide) ?_
            obtain rfl := Option.some.inj hf
            exact y_ret (v := some (.inl q108.1)) dX10_about_68 rfl
      · rw [if_pos hc] at hf
        refine y_aload (i := 4) dX10_about_35 rfl ?_
        replace hf := bnd hf
        obtain ⟨a110, rfl, hf⟩ := hf
        replace hf := bnd hf
        obtain ⟨x111, ex111, hf⟩ := hf
        refine y_getI ex111 fl10_170 dX10_about_37 ?_
        obtain rfl := Option.some.inj hf
        exact y_ret (v := some (.inl x111)) dX10_about_40 rfl
    · rw [if_pos hc] at hf
      refine y_aload (i := 4) dX10_about_23 rfl ?_
      replace hf := bnd hf
      obtain ⟨a113, rfl, hf⟩ := hf
      replace hf := bnd hf
      obtain ⟨fs114, efs114, hf⟩ := hf
      replace hf := bnd hf
      obtain ⟨q112, eq112, hf⟩ := hf
      refine y_callV (mj := miX8_count) (args := []) (st := []) dX10_about_25 (gd_of 658 rfl rfl) (gd_of 314 rfl rfl) (gd_of 315 rfl rfl) okX8_count (obO_spec efs114) rfl rfl (xX8_count (by omega) eq112) (Nat.le_of_ble_eq_true rfl) rfl ?_
      show Y l g miX10_about (d + 1) 28 [some (.inr (.inr (some a0))), some (.inl x1), some (.inl x2), some (.inr (.inr (some a103))), some (.inr (.inr (some a113)))] [.inl q112.1] q112.2 _
      obtain rfl := Option.some.inj hf
      exact y_ret (v := some (.inl q112.1)) dX10_about_28 rfl
set_option maxRecDepth 100000 in
theorem dX0_kindAfter_0 : decode prog_2_method_4_code 0 = .ok (.iload_n 2, 1) := by decide +kernel
set_option maxRecDepth 100000 in
theorem dX0_kindAfter_1 : decode prog_2_method_4_code 1 = .ok (.iconst 4, 1) := by decide +kernel
set_option maxRecDepth 100000 in
theorem dX0_kindAfter_2 : decode prog_2_method_4_code 2 = .ok (.if_icmp .ne 5, 3) := by decide +kernel
set_option maxRecDepth 100000 in
theorem dX0_kindAfter_5 : decode prog_2_method_4_code 5 = .ok (.iconst 3, 1) := by decide +kernel
set_option maxRecDepth 100000 in
theorem dX0_kindAfter_6 : decode prog_2_method_4_code 6 = .ok (.ireturn, 1) := by decide +kernel
set_option maxRecDepth 100000 in
theorem dX0_kindAfter_7 : decode prog_2_method_4_code 7 = .ok (.iload_n 2, 1) := by decide +kernel
set_option maxRecDepth 100000 in
theorem dX0_kindAfter_8 : decode prog_2_method_4_code 8 = .ok (.iconst 1, 1) := by decide +kernel
set_option maxRecDepth 100000 in
theorem dX0_kindAfter_9 : decode prog_2_method_4_code 9 = .ok (.if_icmp .ne 5, 3) := by decide +kernel
set_option maxRecDepth 100000 in
theorem dX0_kindAfter_12 : decode prog_2_method_4_code 12 = .ok (.iconst 1, 1) := by decide +kernel
set_option maxRecDepth 100000 in
theorem dX0_kindAfter_13 : decode prog_2_method_4_code 13 = .ok (.ireturn, 1) := by decide +kernel
set_option maxRecDepth 100000 in
theorem dX0_kindAfter_14 : decode prog_2_method_4_code 14 = .ok (.iload_n 1, 1) := by decide +kernel
set_option maxRecDepth 100000 in
theorem dX0_kindAfter_15 : decode prog_2_method_4_code 15 = .ok (.iconst 4, 1) := by decide +kernel
set_option maxRecDepth 100000 in
theorem dX0_kindAfter_16 : decode prog_2_method_4_code 16 = .ok (.if_icmp .ne 11, 3) := by decide +kernel
set_option maxRecDepth 100000 in
theorem dX0_kindAfter_19 : decode prog_2_method_4_code 19 = .ok (.iload_n 2, 1) := by decide +kernel
set_option maxRecDepth 100000 in
theorem dX0_kindAfter_20 : decode prog_2_method_4_code 20 = .ok (.ifCond .ne 7, 3) := by decide +kernel
set_option maxRecDepth 100000 in
theorem dX0_kindAfter_23 : decode prog_2_method_4_code 23 = .ok (.iconst 0, 1) := by decide +kernel
set_option maxRecDepth 100000 in
theorem dX0_kindAfter_24 : decode prog_2_method_4_code 24 = .ok (.goto 4, 3) := by decide +kernel
set_option maxRecDepth 100000 in
theorem dX0_kindAfter_27 : decode prog_2_method_4_code 27 = .ok (.iload_n 0, 1) := by decide +kernel
set_option maxRecDepth 100000 in
theorem dX0_kindAfter_28 : decode prog_2_method_4_code 28 = .ok (.ireturn, 1) := by decide +kernel

def fX0_kindAfter (z : Nat → Nat) (x0 : Int32) (x1 : Int32) (x2 : Int32) (h : aH) : Option (Int32 × aH) :=
  (if x2 = 4 then
  some (3, h)
  else
  (if x2 = 1 then
  some (1, h)
  else
  (if x1 = 4 then
  (if x2 = 0 then
  some (0, h)
  else
  some (x0, h))
  else
  some (x0, h))))
set_option maxHeartbeats 4000000 in
set_option maxRecDepth 100000 in
theorem xX0_kindAfter {l : Launch} {g : aG} {d : Nat} (hK : 0 ≤ d) {x0 : Int32} {x1 : Int32} {x2 : Int32} {h : aH} {q : Int32 × aH} (hf : fX0_kindAfter g.2.2 x0 x1 x2 h = some q) : Ev l g miX0_kindAfter d [.inl x0, .inl x1, .inl x2] h (some (.inl q.1), q.2) := by
  refine ⟨?_, Or.inl rfl, Nat.le_of_ble_eq_true rfl⟩
  unfold fX0_kindAfter at hf
  show Y l g miX0_kindAfter d 0 [some (.inl x0), some (.inl x1), some (.inl x2)] [] h _
  refine y_iload_n (i := 2) dX0_kindAfter_0 rfl rfl ?_
  refine y_iconst (v := 4) dX0_kindAfter_1 (by decide) ?_
  refine y_icmp_ne (tgt := 7) dX0_kindAfter_2 (by decide) (fun hc => ?_) (fun hc => ?_)
  · rw [if_neg hc] at hf
    refine y_iload_n (i := 2) dX0_kindAfter_7 rfl rfl ?_
    refine y_iconst (v := 1) dX0_kindAfter_8 (by decide) ?_
    refine y_icmp_ne (tgt := 14) dX0_kindAfter_9 (by decide) (fun hc => ?_) (fun hc => ?_)
    · rw [if_neg hc] at hf
      refine y_iload_n (i := 1) dX0_kindAfter_14 rfl rfl ?_
      refine y_iconst (v := 4) dX0_kindAfter_15 (by decide) ?_
      refine y_icmp_ne (tgt := 27) dX0_kindAfter_16 (by decide) (fun hc => ?_) (fun hc => ?_)
      · rw [if_neg hc] at hf
        refine y_iload_n (i := 0) dX0_kindAfter_27 rfl rfl ?_
        obtain rfl := Option.some.inj hf
        exact y_ret (v := some (.inl x0)) dX0_kindAfter_28 rfl
      · rw [if_pos hc] at hf
        refine y_iload_n (i := 2) dX0_kindAfter_19 rfl rfl ?_
        refine y_if_ne (tgt := 27) dX0_kindAfter_20 (by decide) (fun hc => ?_) (fun hc => ?_)
        · rw [if_neg hc] at hf
          refine y_iload_n (i := 0) dX0_kindAfter_27 rfl rfl ?_
          obtain rfl := Option.some.inj hf
          exact y_ret (v := some (.inl x0)) dX0_kindAfter_28 rfl
        · rw [if_pos hc] at hf
          refine y_iconst (v := 0) dX0_kindAfter_23 (by decide) ?_
          refine y_goto (tgt := 28) dX0_kindAfter_24 (by decide) ?_
          obtain rfl := Option.some.inj hf
          exact y_ret (v := some (.inl 0)) dX0_kindAfter_28 rfl
    · rw [if_pos hc] at hf
      refine y_iconst (v := 1) dX0_kindAfter_12 (by decide) ?_
      obtain rfl := Option.some.inj hf
      exact y_ret (v := some (.inl 1)) dX0_kindAfter_13 rfl
  · rw [if_pos hc] at hf
    refine y_iconst (v := 3) dX0_kindAfter_5 (by decide) ?_
    obtain rfl := Option.some.inj hf
    exact y_ret (v := some (.inl 3)) dX0_kindAfter_6 rfl
set_option maxRecDepth 100000 in
theorem dX0_numberAfter_0 : decode prog_2_method_5_code 0 = .ok (.iload_n 2, 1) := by decide +kernel
set_option maxRecDepth 100000 in
theorem dX0_numberAfter_1 : decode prog_2_method_5_code 1 = .ok (.iconst 4, 1) := by decide +kernel
set_option maxRecDepth 100000 in
theorem dX0_numberAfter_2 : decode prog_2_method_5_code 2 = .ok (.if_icmp .ne 7, 3) := by decide +kernel
set_option maxRecDepth 100000 in
theorem dX0_numberAfter_5 : decode prog_2_method_5_code 5 = .ok (.lconst 0, 1) := by decide +kernel
set_option maxRecDepth 100000 in
theorem dX0_numberAfter_6 : decode prog_2_method_5_code 6 = .ok (.goto 4, 3) := by decide +kernel
set_option maxRecDepth 100000 in
theorem dX0_numberAfter_9 : decode prog_2_method_5_code 9 = .ok (.lload_n 0, 1) := by decide +kernel
set_option maxRecDepth 100000 in
theorem dX0_numberAfter_10 : decode prog_2_method_5_code 10 = .ok (.lreturn, 1) := by decide +kernel

def fX0_numberAfter (z : Nat → Nat) (j0 : Int64) (x2 : Int32) (h : aH) : Option (Int64 × aH) :=
  (if x2 = 4 then
  some (0, h)
  else
  some (j0, h))
set_option maxHeartbeats 4000000 in
set_option maxRecDepth 100000 in
theorem xX0_numberAfter {l : Launch} {g : aG} {d : Nat} (hK : 0 ≤ d) {j0 : Int64} {x2 : Int32} {h : aH} {q : Int64 × aH} (hf : fX0_numberAfter g.2.2 j0 x2 h = some q) : Ev l g miX0_numberAfter d [.inr (.inl j0), .inl x2] h (some (.inr (.inl q.1)), q.2) := by
  refine ⟨?_, rfl, Nat.le_of_ble_eq_true rfl⟩
  unfold fX0_numberAfter at hf
  show Y l g miX0_numberAfter d 0 [some (.inr (.inl j0)), none, some (.inl x2)] [] h _
  refine y_iload_n (i := 2) dX0_numberAfter_0 rfl rfl ?_
  refine y_iconst (v := 4) dX0_numberAfter_1 (by decide) ?_
  refine y_icmp_ne (tgt := 9) dX0_numberAfter_2 (by decide) (fun hc => ?_) (fun hc => ?_)
  · rw [if_neg hc] at hf
    refine y_lload_n (i := 0) dX0_numberAfter_9 rfl rfl ?_
    obtain rfl := Option.some.inj hf
    exact y_ret (v := some (.inr (.inl j0))) dX0_numberAfter_10 rfl
  · rw [if_pos hc] at hf
    refine y_lconst (v := 0) dX0_numberAfter_5 (by decide) ?_
    refine y_goto (tgt := 10) dX0_numberAfter_6 (by decide) ?_
    obtain rfl := Option.some.inj hf
    exact y_ret (v := some (.inr (.inl 0))) dX0_numberAfter_10 rfl
set_option maxRecDepth 100000 in
theorem dX0_typeOf_0 : decode prog_2_method_6_code 0 = .ok (.iload_n 0, 1) := by decide +kernel
set_option maxRecDepth 100000 in
theorem dX0_typeOf_1 : decode prog_2_method_6_code 1 = .ok (.tableswitch 33 0 2 #[27, 29, 31], 27) := by decide +kernel
set_option maxRecDepth 100000 in
theorem dX0_typeOf_28 : decode prog_2_method_6_code 28 = .ok (.iconst 0, 1) := by decide +kernel
set_option maxRecDepth 100000 in
theorem dX0_typeOf_29 : decode prog_2_method_6_code 29 = .ok (.ireturn, 1) := by decide +kernel
set_option maxRecDepth 100000 in
theorem dX0_typeOf_30 : decode prog_2_method_6_code 30 = .ok (.iconst 1, 1) := by decide +kernel
set_option maxRecDepth 100000 in
theorem dX0_typeOf_31 : decode prog_2_method_6_code 31 = .ok (.ireturn, 1) := by decide +kernel
set_option maxRecDepth 100000 in
theorem dX0_typeOf_32 : decode prog_2_method_6_code 32 = .ok (.iconst 3, 1) := by decide +kernel
set_option maxRecDepth 100000 in
theorem dX0_typeOf_33 : decode prog_2_method_6_code 33 = .ok (.ireturn, 1) := by decide +kernel
set_option maxRecDepth 100000 in
theorem dX0_typeOf_34 : decode prog_2_method_6_code 34 = .ok (.iload_n 1, 1) := by decide +kernel
set_option maxRecDepth 100000 in
theorem dX0_typeOf_35 : decode prog_2_method_6_code 35 = .ok (.iconst 3, 1) := by decide +kernel
set_option maxRecDepth 100000 in
theorem dX0_typeOf_36 : decode prog_2_method_6_code 36 = .ok (.if_icmp .ne 7, 3) := by decide +kernel
set_option maxRecDepth 100000 in
theorem dX0_typeOf_39 : decode prog_2_method_6_code 39 = .ok (.iconst 3, 1) := by decide +kernel
set_option maxRecDepth 100000 in
theorem dX0_typeOf_40 : decode prog_2_method_6_code 40 = .ok (.goto 4, 3) := by decide +kernel
set_option maxRecDepth 100000 in
theorem dX0_typeOf_43 : decode prog_2_method_6_code 43 = .ok (.iconst 2, 1) := by decide +kernel
set_option maxRecDepth 100000 in
theorem dX0_typeOf_44 : decode prog_2_method_6_code 44 = .ok (.ireturn, 1) := by decide +kernel

def fX0_typeOf (z : Nat → Nat) (x0 : Int32) (x1 : Int32) (h : aH) : Option (Int32 × aH) :=
  (if x0 = 0 then
  some (0, h)
  else
  (if x0 = 1 then
  some (1, h)
  else
  (if x0 = 2 then
  some (3, h)
  else
  (if x1 = 3 then
  some (3, h)
  else
  some (2, h)))))
set_option maxHeartbeats 4000000 in
set_option maxRecDepth 100000 in
theorem xX0_typeOf {l : Launch} {g : aG} {d : Nat} (hK : 0 ≤ d) {x0 : Int32} {x1 : Int32} {h : aH} {q : Int32 × aH} (hf : fX0_typeOf g.2.2 x0 x1 h = some q) : Ev l g miX0_typeOf d [.inl x0, .inl x1] h (some (.inl q.1), q.2) := by
  refine ⟨?_, Or.inl rfl, Nat.le_of_ble_eq_true rfl⟩
  unfold fX0_typeOf at hf
  show Y l g miX0_typeOf d 0 [some (.inl x0), some (.inl x1)] [] h _
  refine y_iload_n (i := 0) dX0_typeOf_0 rfl rfl ?_
  refine y_table dX0_typeOf_1 [(0, 28), (1, 30), (2, 32)] 34 (by decide) (by decide) (by decide) (by decide) ?_
  refine y_swc (fun hc => ?_) (fun hc => ?_)
  · rw [if_pos hc] at hf
    refine y_iconst (v := 0) dX0_typeOf_28 (by decide) ?_
    obtain rfl := Option.some.inj hf
    exact y_ret (v := some (.inl 0)) dX0_typeOf_29 rfl
  rw [if_neg hc] at hf
  refine y_swc (fun hc => ?_) (fun hc => ?_)
  · rw [if_pos hc] at hf
    refine y_iconst (v := 1) dX0_typeOf_30 (by decide) ?_
    obtain rfl := Option.some.inj hf
    exact y_ret (v := some (.inl 1)) dX0_typeOf_31 rfl
  rw [if_neg hc] at hf
  refine y_swc (fun hc => ?_) (fun hc => ?_)
  · rw [if_pos hc] at hf
    refine y_iconst (v := 3) dX0_typeOf_32 (by decide) ?_
    obtain rfl := Option.some.inj hf
    exact y_ret (v := some (.inl 3)) dX0_typeOf_33 rfl
  rw [if_neg hc] at hf
  refine y_swn ?_
  refine y_iload_n (i := 1) dX0_typeOf_34 rfl rfl ?_
  refine y_iconst (v := 3) dX0_typeOf_35 (by decide) ?_
  refine y_icmp_ne (tgt := 43) dX0_typeOf_36 (by decide) (fun hc => ?_) (fun hc => ?_)
  · rw [if_neg hc] at hf
    refine y_iconst (v := 2) dX0_typeOf_43 (by decide) ?_
    obtain rfl := Option.some.inj hf
    exact y_ret (v := some (.inl 2)) dX0_typeOf_44 rfl
  · rw [if_pos hc] at hf
    refine y_iconst (v := 3) dX0_typeOf_39 (by decide) ?_
    refine y_goto (tgt := 44) dX0_typeOf_40 (by decide) ?_
    obtain rfl := Option.some.inj hf
    exact y_ret (v := some (.inl 3)) dX0_typeOf_44 rfl
set_option maxRecDepth 100000 in
theorem dX2_hold_0 : decode prog_4_method_2_code 0 = .ok (.aload_n 0, 1) := by decide +kernel
set_option maxRecDepth 100000 in
theorem dX2_hold_1 : decode prog_4_method_2_code 1 = .ok (.iload_n 1, 1) := by decide +kernel
set_option maxRecDepth 100000 in
theorem dX2_hold_2 : decode prog_4_method_2_code 2 = .ok (.putfield 18, 3) := by decide +kernel
set_option maxRecDepth 100000 in
theorem dX2_hold_5 : decode prog_4_method_2_code 5 = .ok (.aload_n 0, 1) := by decide +kernel
set_option maxRecDepth 100000 in
theorem dX2_hold_6 : decode prog_4_method_2_code 6 = .ok (.lload_n 2, 1) := by decide +kernel
set_option maxRecDepth 100000 in
theorem dX2_hold_7 : decode prog_4_method_2_code 7 = .ok (.putfield 23, 3) := by decide +kernel
set_option maxRecDepth 100000 in
theorem dX2_hold_10 : decode prog_4_method_2_code 10 = .ok (.return_, 1) := by decide +kernel
set_option maxRecDepth 100000 in
theorem fl2_18 : ∀ c ∈ ([1] : List Nat), FL "HandleModels$Other" 18 c 4 := fun c hc => by
  cases List.mem_singleton.mp hc
  exact ⟨_, "HandleModels$Other", rfl, by decide, (gd_of 405 rfl rfl), Or.inl rfl⟩
set_option maxRecDepth 100000 in
theorem pl2_18_m {mi : aM} {x : Int32} (ho : "HandleModels$Other" = mi.1.cls) : ∀ c ∈ ([1] : List Nat), FL mi.1.cls 18 c 4 ∧ FT c 4 (.inl x) ∧ FW mi c 4 := fun c h9 => by
  have h8 := fl2_18 c h9
  rw [← ho]
  refine ⟨h8, ?_⟩
  simp only [List.mem_cons, List.not_mem_nil, or_false] at h9
  rcases h9 with rfl
  · exact ⟨ft_int rfl (by decide +kernel), ⟨_, rfl, Or.inl rfl⟩⟩
set_option maxRecDepth 100000 in
theorem fl2_23 : ∀ c ∈ ([1] : List Nat), FL "HandleModels$Other" 23 c 5 := fun c hc => by
  cases List.mem_singleton.mp hc
  exact ⟨_, "HandleModels$Other", rfl, by decide, (gd_of 407 rfl rfl), Or.inl rfl⟩
set_option maxRecDepth 100000 in
theorem pl2_23_m {mi : aM} {x : Int64} (ho : "HandleModels$Other" = mi.1.cls) : ∀ c ∈ ([1] : List Nat), FL mi.1.cls 23 c 5 ∧ FT c 5 (.inr (.inl x)) ∧ FW mi c 5 := fun c h9 => by
  have h8 := fl2_23 c h9
  rw [← ho]
  refine ⟨h8, ?_⟩
  simp only [List.mem_cons, List.not_mem_nil, or_false] at h9
  rcases h9 with rfl
  · exact ⟨ft_long rfl (by decide +kernel), ⟨_, rfl, Or.inl rfl⟩⟩
def fX2_hold (z : Nat → Nat) (a0 : Nat) (x1 : Int32) (j2 : Int64) (h : aH) : Option aH :=
  (wrF h a0 [1] 4 (.inl x1)).bind fun h101 =>
  (wrF h101 a0 [1] 5 (.inr (.inl j2))).bind fun h102 =>
  some h102
set_option maxHeartbeats 4000000 in
set_option maxRecDepth 100000 in
theorem xX2_hold {l : Launch} {g : aG} {d : Nat} (hK : 0 ≤ d) {a0 : Nat} {x1 : Int32} {j2 : Int64} {h : aH} {q : aH} (hf : fX2_hold g.2.2 a0 x1 j2 h = some q) : Ev l g miX2_hold d [.inr (.inr (some a0)), .inl x1, .inr (.inl j2)] h (none, q) := by
  refine ⟨?_, rfl, Nat.le_of_ble_eq_true rfl⟩
  unfold fX2_hold at hf
  show Y l g miX2_hold d 0 [some (.inr (.inr (some a0))), some (.inl x1), some (.inr (.inl j2)), none] [] h _
  refine y_aload_n (i := 0) dX2_hold_0 rfl rfl ?_
  refine y_iload_n (i := 1) dX2_hold_1 rfl rfl ?_
  replace hf := bnd hf
  obtain ⟨h101, eh101, hf⟩ := hf
  refine y_put eh101 (pl2_18_m rfl) dX2_hold_2 ?_
  refine y_aload_n (i := 0) dX2_hold_5 rfl rfl ?_
  refine y_lload_n (i := 2) dX2_hold_6 rfl rfl ?_
  replace hf := bnd hf
  obtain ⟨h102, eh102, hf⟩ := hf
  refine y_put eh102 (pl2_23_m rfl) dX2_hold_7 ?_
  obtain rfl := Option.some.inj hf
  exact y_ret (v := none) dX2_hold_10 rfl
set_option maxRecDepth 100000 in
theorem dX9_kindAt_0 : decode prog_11_method_3_code 0 = .ok (.iload_n 1, 1) := by decide +kernel
set_option maxRecDepth 100000 in
theorem dX9_kindAt_1 : decode prog_11_method_3_code 1 = .ok (.ifCond .lt 20, 3) := by decide +kernel
set_option maxRecDepth 100000 in
theorem dX9_kindAt_4 : decode prog_11_method_3_code 4 = .ok (.iload_n 1, 1) := by decide +kernel
set_option maxRecDepth 100000 in
theorem dX9_kindAt_5 : decode prog_11_method_3_code 5 = .ok (.aload_n 0, 1) := by decide +kernel
set_option maxRecDepth 100000 in
theorem dX9_kindAt_6 : decode prog_11_method_3_code 6 = .ok (.getfield 19, 3) := by decide +kernel
set_option maxRecDepth 100000 in
theorem dX9_kindAt_9 : decode prog_11_method_3_code 9 = .ok (.if_icmp .ge 12, 3) := by decide +kernel
set_option maxRecDepth 100000 in
theorem dX9_kindAt_12 : decode prog_11_method_3_code 12 = .ok (.aload_n 0, 1) := by decide +kernel
set_option maxRecDepth 100000 in
theorem dX9_kindAt_13 : decode prog_11_method_3_code 13 = .ok (.getfield 9, 3) := by decide +kernel
set_option maxRecDepth 100000 in
theorem dX9_kindAt_16 : decode prog_11_method_3_code 16 = .ok (.iload_n 1, 1) := by decide +kernel
set_option maxRecDepth 100000 in
theorem dX9_kindAt_17 : decode prog_11_method_3_code 17 = .ok (.iaload, 1) := by decide +kernel
set_option maxRecDepth 100000 in
theorem dX9_kindAt_18 : decode prog_11_method_3_code 18 = .ok (.goto 4, 3) := by decide +kernel
set_option maxRecDepth 100000 in
theorem dX9_kindAt_21 : decode prog_11_method_3_code 21 = .ok (.iconst 3, 1) := by decide +kernel
set_option maxRecDepth 100000 in
theorem dX9_kindAt_22 : decode prog_11_method_3_code 22 = .ok (.ireturn, 1) := by decide +kernel

def fX9_kindAt (z : Nat → Nat) (a0 : Nat) (x1 : Int32) (h : aH) : Option (Int32 × aH) :=
  (if x1 < 0 then
  some (3, h)
  else
  (rdI h a0 [7] 2).bind fun x101 =>
  (if x101 ≤ x1 then
  some (3, h)
  else
  (rdR h a0 [7] 0).bind fun r102 =>
  (r102).bind fun a103 =>
  (arI h a103 x1).bind fun x104 =>
  some (x104, h)))
set_option maxHeartbeats 4000000 in
set_option maxRecDepth 100000 in
theorem xX9_kindAt {l : Launch} {g : aG} {d : Nat} (hK : 0 ≤ d) {a0 : Nat} {x1 : Int32} {h : aH} {q : Int32 × aH} (hf : fX9_kindAt g.2.2 a0 x1 h = some q) : Ev l g miX9_kindAt d [.inr (.inr (some a0)), .inl x1] h (some (.inl q.1), q.2) := by
  refine ⟨?_, Or.inl rfl, Nat.le_of_ble_eq_true rfl⟩
  unfold fX9_kindAt at hf
  show Y l g miX9_kindAt d 0 [some (.inr (.inr (some a0))), some (.inl x1)] [] h _
  refine y_iload_n (i := 1) dX9_kindAt_0 rfl rfl ?_
  refine y_if_lt (tgt := 21) dX9_kindAt_1 (by decide) (fun hc => ?_) (fun hc => ?_)
  · rw [if_pos hc] at hf
    refine y_iconst (v := 3) dX9_kindAt_21 (by decide) ?_
    obtain rfl := Option.some.inj hf
    exact y_ret (v := some (.inl 3)) dX9_kindAt_22 rfl
  · rw [if_neg hc] at hf
    refine y_iload_n (i := 1) dX9_kindAt_4 rfl rfl ?_
    refine y_aload_n (i := 0) dX9_kindAt_5 rfl rfl ?_
    replace hf := bnd hf
    obtain ⟨x101, ex101, hf⟩ := hf
    refine y_getI ex101 fl9_19 dX9_kindAt_6 ?_
    refine y_icmp_ge (tgt := 21) dX9_kindAt_9 (by decide) (fun hc => ?_) (fun hc => ?_)
    · rw [if_pos hc] at hf
      refine y_iconst (v := 3) dX9_kindAt_21 (by decide) ?_
      obtain rfl := Option.some.inj hf
      exact y_ret (v := some (.inl 3)) dX9_kindAt_22 rfl
    · rw [if_neg hc] at hf
      refine y_aload_n (i := 0) dX9_kindAt_12 rfl rfl ?_
      replace hf := bnd hf
      obtain ⟨r102, er102, hf⟩ := hf
      refine y_getR er102 fl9_9 dX9_kindAt_13 ?_
      refine y_iload_n (i := 1) dX9_kindAt_16 rfl rfl ?_
      replace hf := bnd hf
      obtain ⟨a103, rfl, hf⟩ := hf
      replace hf := bnd hf
      obtain ⟨x104, ex104, hf⟩ := hf
      refine y_iaload ex104 dX9_kindAt_17 ?_
      refine y_goto (tgt := 22) dX9_kindAt_18 (by decide) ?_
      obtain rfl := Option.some.inj hf
      exact y_ret (v := some (.inl x104)) dX9_kindAt_22 rfl
set_option maxRecDepth 100000 in
theorem dX9_numberAt_0 : decode prog_11_method_4_code 0 = .ok (.iload_n 1, 1) := by decide +kernel
set_option maxRecDepth 100000 in
theorem dX9_numberAt_1 : decode prog_11_method_4_code 1 = .ok (.ifCond .lt 20, 3) := by decide +kernel
set_option maxRecDepth 100000 in
theorem dX9_numberAt_4 : decode prog_11_method_4_code 4 = .ok (.iload_n 1, 1) := by decide +kernel
set_option maxRecDepth 100000 in
theorem dX9_numberAt_5 : decode prog_11_method_4_code 5 = .ok (.aload_n 0, 1) := by decide +kernel
set_option maxRecDepth 100000 in
theorem dX9_numberAt_6 : decode prog_11_method_4_code 6 = .ok (.getfield 19, 3) := by decide +kernel
set_option maxRecDepth 100000 in
theorem dX9_numberAt_9 : decode prog_11_method_4_code 9 = .ok (.if_icmp .ge 12, 3) := by decide +kernel
set_option maxRecDepth 100000 in
theorem dX9_numberAt_12 : decode prog_11_method_4_code 12 = .ok (.aload_n 0, 1) := by decide +kernel
set_option maxRecDepth 100000 in
theorem dX9_numberAt_13 : decode prog_11_method_4_code 13 = .ok (.getfield 15, 3) := by decide +kernel
set_option maxRecDepth 100000 in
theorem dX9_numberAt_16 : decode prog_11_method_4_code 16 = .ok (.iload_n 1, 1) := by decide +kernel
set_option maxRecDepth 100000 in
theorem dX9_numberAt_17 : decode prog_11_method_4_code 17 = .ok (.laload, 1) := by decide +kernel
set_option maxRecDepth 100000 in
theorem dX9_numberAt_18 : decode prog_11_method_4_code 18 = .ok (.goto 4, 3) := by decide +kernel
set_option maxRecDepth 100000 in
theorem dX9_numberAt_21 : decode prog_11_method_4_code 21 = .ok (.lconst 0, 1) := by decide +kernel
set_option maxRecDepth 100000 in
theorem dX9_numberAt_22 : decode prog_11_method_4_code 22 = .ok (.lreturn, 1) := by decide +kernel

def fX9_numberAt (z : Nat → Nat) (a0 : Nat) (x1 : Int32) (h : aH) : Option (Int64 × aH) :=
  (if x1 < 0 then
  some (0, h)
  else
  (rdI h a0 [7] 2).bind fun x101 =>
  (if x101 ≤ x1 then
  some (0, h)
  else
  (rdR h a0 [7] 1).bind fun r102 =>
  (r102).bind fun a103 =>
  (arJ h a103 x1).bind fun j104 =>
  some (j104, h)))
set_option maxHeartbeats 4000000 in
set_option maxRecDepth 100000 in
theorem xX9_numberAt {l : Launch} {g : aG} {d : Nat} (hK : 0 ≤ d) {a0 : Nat} {x1 : Int32} {h : aH} {q : Int64 × aH} (hf : fX9_numberAt g.2.2 a0 x1 h = some q) : Ev l g miX9_numberAt d [.inr (.inr (some a0)), .inl x1] h (some (.inr (.inl q.1)), q.2) := by
  refine ⟨?_, rfl, Nat.le_of_ble_eq_true rfl⟩
  unfold fX9_numberAt at hf
  show Y l g miX9_numberAt d 0 [some (.inr (.inr (some a0))), some (.inl x1)] [] h _
  refine y_iload_n (i := 1) dX9_numberAt_0 rfl rfl ?_
  refine y_if_lt (tgt := 21) dX9_numberAt_1 (by decide) (fun hc => ?_) (fun hc => ?_)
  · rw [if_pos hc] at hf
    refine y_lconst (v := 0) dX9_numberAt_21 (by decide) ?_
    obtain rfl := Option.some.inj hf
    exact y_ret (v := some (.inr (.inl 0))) dX9_numberAt_22 rfl
  · rw [if_neg hc] at hf
    refine y_iload_n (i := 1) dX9_numberAt_4 rfl rfl ?_
    refine y_aload_n (i := 0) dX9_numberAt_5 rfl rfl ?_
    replace hf := bnd hf
    obtain ⟨x101, ex101, hf⟩ := hf
    refine y_getI ex101 fl9_19 dX9_numberAt_6 ?_
    refine y_icmp_ge (tgt := 21) dX9_numberAt_9 (by decide) (fun hc => ?_) (fun hc => ?_)
    · rw [if_pos hc] at hf
      refine y_lconst (v := 0) dX9_numberAt_21 (by decide) ?_
      obtain rfl := Option.some.inj hf
      exact y_ret (v := some (.inr (.inl 0))) dX9_numberAt_22 rfl
    · rw [if_neg hc] at hf
      refine y_aload_n (i := 0) dX9_numberAt_12 rfl rfl ?_
      replace hf := bnd hf
      obtain ⟨r102, er102, hf⟩ := hf
      refine y_getR er102 fl9_15 dX9_numberAt_13 ?_
      refine y_iload_n (i := 1) dX9_numberAt_16 rfl rfl ?_
      replace hf := bnd hf
      obtain ⟨a103, rfl, hf⟩ := hf
      replace hf := bnd hf
      obtain ⟨j104, ej104, hf⟩ := hf
      refine y_laload ej104 dX9_numberAt_17 ?_
      refine y_goto (tgt := 22) dX9_numberAt_18 (by decide) ?_
      obtain rfl := Option.some.inj hf
      exact y_ret (v := some (.inr (.inl j104))) dX9_numberAt_22 rfl
set_option maxRecDepth 100000 in
theorem dX10_bind_0 : decode prog_1_method_23_code 0 = .ok (.aload_n 0, 1) := by decide +kernel
set_option maxRecDepth 100000 in
theorem dX10_bind_1 : decode prog_1_method_23_code 1 = .ok (.getfield 38, 3) := by decide +kernel
set_option maxRecDepth 100000 in
theorem dX10_bind_4 : decode prog_1_method_23_code 4 = .ok (.iconst 0, 1) := by decide +kernel
set_option maxRecDepth 100000 in
theorem dX10_bind_5 : decode prog_1_method_23_code 5 = .ok (.invokevirtual 199, 3) := by decide +kernel
set_option maxRecDepth 100000 in
theorem dX10_bind_8 : decode prog_1_method_23_code 8 = .ok (.istore_n 3, 1) := by decide +kernel
set_option maxRecDepth 100000 in
theorem dX10_bind_9 : decode prog_1_method_23_code 9 = .ok (.iload_n 3, 1) := by decide +kernel
set_option maxRecDepth 100000 in
theorem dX10_bind_10 : decode prog_1_method_23_code 10 = .ok (.iload_n 2, 1) := by decide +kernel
set_option maxRecDepth 100000 in
theorem dX10_bind_11 : decode prog_1_method_23_code 11 = .ok (.invokestatic 202, 3) := by decide +kernel
set_option maxRecDepth 100000 in
theorem dX10_bind_14 : decode prog_1_method_23_code 14 = .ok (.istore 4, 2) := by decide +kernel
set_option maxRecDepth 100000 in
theorem dX10_bind_16 : decode prog_1_method_23_code 16 = .ok (.aload_n 1, 1) := by decide +kernel
set_option maxRecDepth 100000 in
theorem dX10_bind_17 : decode prog_1_method_23_code 17 = .ok (.iload_n 3, 1) := by decide +kernel
set_option maxRecDepth 100000 in
theorem dX10_bind_18 : decode prog_1_method_23_code 18 = .ok (.iload 4, 2) := by decide +kernel
set_option maxRecDepth 100000 in
theorem dX10_bind_20 : decode prog_1_method_23_code 20 = .ok (.iload_n 2, 1) := by decide +kernel
set_option maxRecDepth 100000 in
theorem dX10_bind_21 : decode prog_1_method_23_code 21 = .ok (.invokestatic 214, 3) := by decide +kernel
set_option maxRecDepth 100000 in
theorem dX10_bind_24 : decode prog_1_method_23_code 24 = .ok (.aload_n 0, 1) := by decide +kernel
set_option maxRecDepth 100000 in
theorem dX10_bind_25 : decode prog_1_method_23_code 25 = .ok (.getfield 38, 3) := by decide +kernel
set_option maxRecDepth 100000 in
theorem dX10_bind_28 : decode prog_1_method_23_code 28 = .ok (.iconst 0, 1) := by decide +kernel
set_option maxRecDepth 100000 in
theorem dX10_bind_29 : decode prog_1_method_23_code 29 = .ok (.invokevirtual 217, 3) := by decide +kernel
set_option maxRecDepth 100000 in
theorem dX10_bind_32 : decode prog_1_method_23_code 32 = .ok (.iload_n 2, 1) := by decide +kernel
set_option maxRecDepth 100000 in
theorem dX10_bind_33 : decode prog_1_method_23_code 33 = .ok (.invokestatic 221, 3) := by decide +kernel
set_option maxRecDepth 100000 in
theorem dX10_bind_36 : decode prog_1_method_23_code 36 = .ok (.invokevirtual 225, 3) := by decide +kernel
set_option maxRecDepth 100000 in
theorem dX10_bind_39 : decode prog_1_method_23_code 39 = .ok (.return_, 1) := by decide +kernel
set_option maxRecDepth 100000 in
theorem okX9_kindAt : mOk miX9_kindAt 1 := ⟨(gd_of 389 rfl rfl), (gd_of 74 rfl rfl), by decide +kernel, ⟨by decide +kernel, by decide +kernel, by decide +kernel⟩, by decide⟩
set_option maxRecDepth 100000 in
theorem okX0_typeOf : mOk miX0_typeOf 2 := ⟨(gd_of 392 rfl rfl), (gd_of 82 rfl rfl), by decide +kernel, ⟨by decide +kernel, by decide +kernel, by decide +kernel⟩, by decide⟩
set_option maxRecDepth 100000 in
theorem okX0_kindAfter : mOk miX0_kindAfter 3 := ⟨(gd_of 425 rfl rfl), (gd_of 82 rfl rfl), by decide +kernel, ⟨by decide +kernel, by decide +kernel, by decide +kernel⟩, by decide⟩
set_option maxRecDepth 100000 in
theorem okX9_numberAt : mOk miX9_numberAt 1 := ⟨(gd_of 429 rfl rfl), (gd_of 74 rfl rfl), by decide +kernel, ⟨by decide +kernel, by decide +kernel, by decide +kernel⟩, by decide⟩
set_option maxRecDepth 100000 in
theorem okX0_numberAfter : mOk miX0_numberAfter 2 := ⟨(gd_of 432 rfl rfl), (gd_of 82 rfl rfl), by decide +kernel, ⟨by decide +kernel, by decide +kernel, by decide +kernel⟩, by decide⟩
set_option maxRecDepth 100000 in
theorem okX2_hold : mOk miX2_hold 2 := ⟨(gd_of 436 rfl rfl), (gd_of 83 rfl rfl), by decide +kernel, ⟨by decide +kernel, by decide +kernel, by decide +kernel⟩, by decide⟩
def fX10_bind (z : Nat → Nat) (a0 : Nat) (r1 : Option Nat) (x2 : Int32) (h : aH) : Option aH :=
  (rdR h a0 [8] 5).bind fun r101 =>
  (r101).bind fun a103 =>
  (obO h a103 7).bind fun fs104 =>
  (fX9_kindAt z a103 0 h).bind fun q102 =>
  (fX0_typeOf z q102.1 x2 q102.2).bind fun q105 =>
  (fX0_kindAfter z q102.1 q105.1 x2 q105.2).bind fun q106 =>
  (rdR q106.2 a0 [8] 5).bind fun r107 =>
  (r107).bind fun a109 =>
  (obO q106.2 a109 7).bind fun fs110 =>
  (fX9_numberAt z a109 0 q106.2).bind fun q108 =>
  (fX0_numberAfter z q108.1 x2 q108.2).bind fun q111 =>
  (r1).bind fun a113 =>
  (obO q111.2 a113 1).bind fun fs114 =>
  (fX2_hold z a113 q106.1 q111.1 q111.2).bind fun q112 =>
  some q112
set_option maxHeartbeats 4000000 in
set_option maxRecDepth 100000 in
theorem xX10_bind {l : Launch} {g : aG} {d : Nat} (hK : 1 ≤ d) {a0 : Nat} {r1 : Option Nat} {x2 : Int32} {h : aH} {q : aH} (hf : fX10_bind g.2.2 a0 r1 x2 h = some q) : Ev l g miX10_bind d [.inr (.inr (some a0)), .inr (.inr r1), .inl x2] h (none, q) := by
  obtain ⟨d, rfl⟩ : ∃ e, d = e + 1 := ⟨d - 1, by omega⟩
  refine ⟨?_, rfl, Nat.le_of_ble_eq_true rfl⟩
  unfold fX10_bind at hf
  show Y l g miX10_bind (d + 1) 0 [some (.inr (.inr (some a0))), some (.inr (.inr r1)), some (.inl x2), none, none] [] h _
  refine y_aload_n (i := 0) dX10_bind_0 rfl rfl ?_
  replace hf := bnd hf
  obtain ⟨r101, er101, hf⟩ := hf
  refine y_getR er101 fl10_38 dX10_bind_1 ?_
  refine y_iconst (v := 0) dX10_bind_4 (by decide) ?_
  replace hf := bnd hf
  obtain ⟨a103, rfl, hf⟩ := hf
  replace hf := bnd hf
  obtain ⟨fs104, efs104, hf⟩ := hf
  replace hf := bnd hf
  obtain ⟨q102, eq102, hf⟩ := hf
  refine y_callV (mj := miX9_kindAt) (args := [.inl 0]) (st := []) dX10_bind_5 (gd_of 386 rfl rfl) (gd_of 387 rfl rfl) (gd_of 388 rfl rfl) okX9_kindAt (obO_spec efs104) rfl rfl (xX9_kindAt (by omega) eq102) (Nat.le_of_ble_eq_true rfl) rfl ?_
  show Y l g miX10_bind (d + 1) 8 [some (.inr (.inr (some a0))), some (.inr (.inr r1)), some (.inl x2), none, none] [.inl q102.1] q102.2 _
  refine y_istore_n (i := 3) (lv2 := [some (.inr (.inr (some a0))), some (.inr (.inr r1)), some (.inl x2), some (.inl q102.1), none]) dX10_bind_8 rfl (by decide) rfl ?_
  refine y_iload_n (i := 3) dX10_bind_9 rfl rfl ?_
  refine y_iload_n (i := 2) dX10_bind_10 rfl rfl ?_
  replace hf := bnd hf
  obtain ⟨q105, eq105, hf⟩ := hf
  refine y_callS (mj := miX0_typeOf) (args := [.inl q102.1, .inl x2]) (st := []) dX10_bind_11 (gd_of 390 rfl rfl) (gd_of 391 rfl rfl) okX0_typeOf (xX0_typeOf (by omega) eq105) (Nat.le_of_ble_eq_true rfl) rfl ?_
  show Y l g miX10_bind (d + 1) 14 [some (.inr (.inr (some a0))), some (.inr (.inr r1)), some (.inl x2), some (.inl q102.1), none] [.inl q105.1] q105.2 _
  refine y_istore (i := 4) (lv2 := [some (.inr (.inr (some a0))), some (.inr (.inr r1)), some (.inl x2), some (.inl q102.1), some (.inl q105.1)]) dX10_bind_14 (by decide) rfl ?_
  refine y_aload_n (i := 1) dX10_bind_16 rfl rfl ?_
  refine y_iload_n (i := 3) dX10_bind_17 rfl rfl ?_
  refine y_iload (i := 4) dX10_bind_18 rfl ?_
  refine y_iload_n (i := 2) dX10_bind_20 rfl rfl ?_
  replace hf := bnd hf
  obtain ⟨q106, eq106, hf⟩ := hf
  refine y_callS (mj := miX0_kindAfter) (args := [.inl q102.1, .inl q105.1, .inl x2]) (st := [.inr (.inr r1)]) dX10_bind_21 (gd_of 423 rfl rfl) (gd_of 424 rfl rfl) okX0_kindAfter (xX0_kindAfter (by omega) eq106) (Nat.le_of_ble_eq_true rfl) rfl ?_
  show Y l g miX10_bind (d + 1) 24 [some (.inr (.inr (some a0))), some (.inr (.inr r1)), some (.inl x2), some (.inl q102.1), some (.inl q105.1)] [.inl q106.1, .inr (.inr r1)] q106.2 _
  refine y_aload_n (i := 0) dX10_bind_24 rfl rfl ?_
  replace hf := bnd hf
  obtain ⟨r107, er107, hf⟩ := hf
  refine y_getR er107 fl10_38 dX10_bind_25 ?_
  refine y_iconst (v := 0) dX10_bind_28 (by decide) ?_
  replace hf := bnd hf
  obtain ⟨a109, rfl, hf⟩ := hf
  replace hf := bnd hf
  obtain ⟨fs110, efs110, hf⟩ := hf
  replace hf := bnd hf
  obtain ⟨q108, eq108, hf⟩ := hf
  refine y_callV (mj := miX9_numberAt) (args := [.inl 0]) (st := [.inl q106.1, .inr (.inr r1)]) dX10_bind_29 (gd_of 426 rfl rfl) (gd_of 427 rfl rfl) (gd_of 428 rfl rfl) okX9_numberAt (obO_spec efs110) rfl rfl (xX9_numberAt (by omega) eq108) (Nat.le_of_ble_eq_true rfl) rfl ?_
  show Y l g miX10_bind (d + 1) 32 [some (.inr (.inr (some a0))), some (.inr (.inr r1)), some (.inl x2), some (.inl q102.1), some (.inl q105.1)] [.inr (.inl q108.1), .inl q106.1, .inr (.inr r1)] q108.2 _
  refine y_iload_n (i := 2) dX10_bind_32 rfl rfl ?_
  replace hf := bnd hf
  obtain ⟨q111, eq111, hf⟩ := hf
  refine y_callS (mj := miX0_numberAfter) (args := [.inr (.inl q108.1), .inl x2]) (st := [.inl q106.1, .inr (.inr r1)]) dX10_bind_33 (gd_of 430 rfl rfl) (gd_of 431 rfl rfl) okX0_numberAfter (xX0_numberAfter (by omega) eq111) (Nat.le_of_ble_eq_true rfl) rfl ?_
  show Y l g miX10_bind (d + 1) 36 [some (.inr (.inr (some a0))), some (.inr (.inr r1)), some (.inl x2), some (.inl q102.1), some (.inl q105.1)] [.inr (.inl q111.1), .inl q106.1, .inr (.inr r1)] q111.2 _
  replace hf := bnd hf
  obtain ⟨a113, rfl, hf⟩ := hf
  replace hf := bnd hf
  obtain ⟨fs114, efs114, hf⟩ := hf
  replace hf := bnd hf
  obtain ⟨q112, eq112, hf⟩ := hf
  refine y_callV (mj := miX2_hold) (args := [.inl q106.1, .inr (.inl q111.1)]) (st := []) dX10_bind_36 (gd_of 433 rfl rfl) (gd_of 434 rfl rfl) (gd_of 435 rfl rfl) okX2_hold (obO_spec efs114) rfl rfl (xX2_hold (by omega) eq112) (Nat.le_of_ble_eq_true rfl) rfl ?_
  show Y l g miX10_bind (d + 1) 39 [some (.inr (.inr (some a0))), some (.inr (.inr (some a113))), some (.inl x2), some (.inl q102.1), some (.inl q105.1)] [] q112 _
  obtain rfl := Option.some.inj hf
  exact y_ret (v := none) dX10_bind_39 rfl
set_option maxRecDepth 100000 in
theorem dX0_failure_0 : decode prog_2_method_3_code 0 = .ok (.iload_n 1, 1) := by decide +kernel
set_option maxRecDepth 100000 in
theorem dX0_failure_1 : decode prog_2_method_3_code 1 = .ok (.iconst 2, 1) := by decide +kernel
set_option maxRecDepth 100000 in
theorem dX0_failure_2 : decode prog_2_method_3_code 2 = .ok (.if_icmp .ne 12, 3) := by decide +kernel
set_option maxRecDepth 100000 in
theorem dX0_failure_5 : decode prog_2_method_3_code 5 = .ok (.iload_n 2, 1) := by decide +kernel
set_option maxRecDepth 100000 in
theorem dX0_failure_6 : decode prog_2_method_3_code 6 = .ok (.ifCond .eq 10, 3) := by decide +kernel
set_option maxRecDepth 100000 in
theorem dX0_failure_9 : decode prog_2_method_3_code 9 = .ok (.iload_n 2, 1) := by decide +kernel
set_option maxRecDepth 100000 in
theorem dX0_failure_10 : decode prog_2_method_3_code 10 = .ok (.iconst 1, 1) := by decide +kernel
set_option maxRecDepth 100000 in
theorem dX0_failure_11 : decode prog_2_method_3_code 11 = .ok (.if_icmp .eq 5, 3) := by decide +kernel
set_option maxRecDepth 100000 in
theorem dX0_failure_14 : decode prog_2_method_3_code 14 = .ok (.iconst 0, 1) := by decide +kernel
set_option maxRecDepth 100000 in
theorem dX0_failure_15 : decode prog_2_method_3_code 15 = .ok (.ireturn, 1) := by decide +kernel
set_option maxRecDepth 100000 in
theorem dX0_failure_16 : decode prog_2_method_3_code 16 = .ok (.iload_n 0, 1) := by decide +kernel
set_option maxRecDepth 100000 in
theorem dX0_failure_17 : decode prog_2_method_3_code 17 = .ok (.iconst 3, 1) := by decide +kernel
set_option maxRecDepth 100000 in
theorem dX0_failure_18 : decode prog_2_method_3_code 18 = .ok (.if_icmp .ne 5, 3) := by decide +kernel
set_option maxRecDepth 100000 in
theorem dX0_failure_21 : decode prog_2_method_3_code 21 = .ok (.iconst 3, 1) := by decide +kernel
set_option maxRecDepth 100000 in
theorem dX0_failure_22 : decode prog_2_method_3_code 22 = .ok (.ireturn, 1) := by decide +kernel
set_option maxRecDepth 100000 in
theorem dX0_failure_23 : decode prog_2_method_3_code 23 = .ok (.iload_n 2, 1) := by decide +kernel
set_option maxRecDepth 100000 in
theorem dX0_failure_24 : decode prog_2_method_3_code 24 = .ok (.ifCond .ne 11, 3) := by decide +kernel
set_option maxRecDepth 100000 in
theorem dX0_failure_27 : decode prog_2_method_3_code 27 = .ok (.iload_n 0, 1) := by decide +kernel
set_option maxRecDepth 100000 in
theorem dX0_failure_28 : decode prog_2_method_3_code 28 = .ok (.ifCond .eq 7, 3) := by decide +kernel
set_option maxRecDepth 100000 in
theorem dX0_failure_31 : decode prog_2_method_3_code 31 = .ok (.iconst 2, 1) := by decide +kernel
set_option maxRecDepth 100000 in
theorem dX0_failure_32 : decode prog_2_method_3_code 32 = .ok (.goto 4, 3) := by decide +kernel
set_option maxRecDepth 100000 in
theorem dX0_failure_35 : decode prog_2_method_3_code 35 = .ok (.iconst 0, 1) := by decide +kernel
set_option maxRecDepth 100000 in
theorem dX0_failure_36 : decode prog_2_method_3_code 36 = .ok (.ireturn, 1) := by decide +kernel

def fX0_failure_16 (z : Nat → Nat) (x0 : Int32) (x2 : Int32) (h : aH) : Option (Int32 × aH) :=
  (if x0 = 3 then
  some (3, h)
  else
  (if x2 = 0 then
  (if x0 = 0 then
  some (0, h)
  else
  some (2, h))
  else
  some (0, h)))
set_option maxHeartbeats 4000000 in
set_option maxRecDepth 100000 in
theorem xX0_failure_16 {l : Launch} {g : aG} {d : Nat} (hK : 0 ≤ d) {x0 : Int32} {x2 : Int32} {h : aH} {q : Int32 × aH} (hf : fX0_failure_16 g.2.2 x0 x2 h = some q) : Y l g miX0_failure d 16 [some (.inl x0), none, some (.inl x2)] [] h (some (.inl q.1), q.2) := by
  unfold fX0_failure_16 at hf
  refine y_iload_n (i := 0) dX0_failure_16 rfl rfl ?_
  refine y_iconst (v := 3) dX0_failure_17 (by decide) ?_
  refine y_icmp_ne (tgt := 23) dX0_failure_18 (by decide) (fun hc => ?_) (fun hc => ?_)
  · rw [if_neg hc] at hf
    refine y_iload_n (i := 2) dX0_failure_23 rfl rfl ?_
    refine y_if_ne (tgt := 35) dX0_failure_24 (by decide) (fun hc => ?_) (fun hc => ?_)
    · rw [if_neg hc] at hf
      refine y_iconst (v := 0) dX0_failure_35 (by decide) ?_
      obtain rfl := Option.some.inj hf
      exact y_ret (v := some (.inl 0)) dX0_failure_36 rfl
    · rw [if_pos hc] at hf
      refine y_iload_n (i := 0) dX0_failure_27 rfl rfl ?_
      refine y_if_eq (tgt := 35) dX0_failure_28 (by decide) (fun hc => ?_) (fun hc => ?_)
      · rw [if_pos hc] at hf
        refine y_iconst (v := 0) dX0_failure_35 (by decide) ?_
        obtain rfl := Option.some.inj hf
        exact y_ret (v := some (.inl 0)) dX0_failure_36 rfl
      · rw [if_neg hc] at hf
        refine y_iconst (v := 2) dX0_failure_31 (by decide) ?_
        refine y_goto (tgt := 36) dX0_failure_32 (by decide) ?_
        obtain rfl := Option.some.inj hf
        exact y_ret (v := some (.inl 2)) dX0_failure_36 rfl
  · rw [if_pos hc] at hf
    refine y_iconst (v := 3) dX0_failure_21 (by decide) ?_
    obtain rfl := Option.some.inj hf
    exact y_ret (v := some (.inl 3)) dX0_failure_22 rfl
def fX0_failure (z : Nat → Nat) (x0 : Int32) (x1 : Int32) (x2 : Int32) (h : aH) : Option (Int32 × aH) :=
  (if x1 = 2 then
  (if x2 = 0 then
  fX0_failure_16 z x0 x2 h
  else
  (if x2 = 1 then
  fX0_failure_16 z x0 x2 h
  else
  some (0, h)))
  else
  some (0, h))
set_option maxHeartbeats 4000000 in
set_option maxRecDepth 100000 in
theorem xX0_failure {l : Launch} {g : aG} {d : Nat} (hK : 0 ≤ d) {x0 : Int32} {x1 : Int32} {x2 : Int32} {h : aH} {q : Int32 × aH} (hf : fX0_failure g.2.2 x0 x1 x2 h = some q) : Ev l g miX0_failure d [.inl x0, .inl x1, .inl x2] h (some (.inl q.1), q.2) := by
  refine ⟨?_, Or.inl rfl, Nat.le_of_ble_eq_true rfl⟩
  unfold fX0_failure at hf
  show Y l g miX0_failure d 0 [some (.inl x0), some (.inl x1), some (.inl x2)] [] h _
  refine y_iload_n (i := 1) dX0_failure_0 rfl rfl ?_
  refine y_iconst (v := 2) dX0_failure_1 (by decide) ?_
  refine y_icmp_ne (tgt := 14) dX0_failure_2 (by decide) (fun hc => ?_) (fun hc => ?_)
  · rw [if_neg hc] at hf
    refine y_iconst (v := 0) dX0_failure_14 (by decide) ?_
    obtain rfl := Option.some.inj hf
    exact y_ret (v := some (.inl 0)) dX0_failure_15 rfl
  · rw [if_pos hc] at hf
    refine y_iload_n (i := 2) dX0_failure_5 rfl rfl ?_
    refine y_if_eq (tgt := 16) dX0_failure_6 (by decide) (fun hc => ?_) (fun hc => ?_)
    · rw [if_pos hc] at hf
      refine Y.weak (lv2 := [some (.inl x0), none, some (.inl x2)]) [true, false, true] rfl ?_
      exact xX0_failure_16 hK hf
    · rw [if_neg hc] at hf
      refine y_iload_n (i := 2) dX0_failure_9 rfl rfl ?_
      refine y_iconst (v := 1) dX0_failure_10 (by decide) ?_
      refine y_icmp_eq (tgt := 16) dX0_failure_11 (by decide) (fun hc => ?_) (fun hc => ?_)
      · rw [if_pos hc] at hf
        refine Y.weak (lv2 := [some (.inl x0), none, some (.inl x2)]) [true, false, true] rfl ?_
        exact xX0_failure_16 hK hf
      · rw [if_neg hc] at hf
        refine y_iconst (v := 0) dX0_failure_14 (by decide) ?_
        obtain rfl := Option.some.inj hf
        exact y_ret (v := some (.inl 0)) dX0_failure_15 rfl
set_option maxRecDepth 100000 in
theorem dX0_isAllowed_0 : decode prog_2_method_2_code 0 = .ok (.iload_n 0, 1) := by decide +kernel
set_option maxRecDepth 100000 in
theorem dX0_isAllowed_1 : decode prog_2_method_2_code 1 = .ok (.iload_n 1, 1) := by decide +kernel
set_option maxRecDepth 100000 in
theorem dX0_isAllowed_2 : decode prog_2_method_2_code 2 = .ok (.if_icmp .eq 13, 3) := by decide +kernel
set_option maxRecDepth 100000 in
theorem dX0_isAllowed_5 : decode prog_2_method_2_code 5 = .ok (.iload_n 1, 1) := by decide +kernel
set_option maxRecDepth 100000 in
theorem dX0_isAllowed_6 : decode prog_2_method_2_code 6 = .ok (.iconst 4, 1) := by decide +kernel
set_option maxRecDepth 100000 in
theorem dX0_isAllowed_7 : decode prog_2_method_2_code 7 = .ok (.if_icmp .eq 8, 3) := by decide +kernel
set_option maxRecDepth 100000 in
theorem dX0_isAllowed_10 : decode prog_2_method_2_code 10 = .ok (.iload_n 0, 1) := by decide +kernel
set_option maxRecDepth 100000 in
theorem dX0_isAllowed_11 : decode prog_2_method_2_code 11 = .ok (.iconst 4, 1) := by decide +kernel
set_option maxRecDepth 100000 in
theorem dX0_isAllowed_12 : decode prog_2_method_2_code 12 = .ok (.if_icmp .ne 5, 3) := by decide +kernel
set_option maxRecDepth 100000 in
theorem dX0_isAllowed_15 : decode prog_2_method_2_code 15 = .ok (.iconst 1, 1) := by decide +kernel
set_option maxRecDepth 100000 in
theorem dX0_isAllowed_16 : decode prog_2_method_2_code 16 = .ok (.ireturn, 1) := by decide +kernel
set_option maxRecDepth 100000 in
theorem dX0_isAllowed_17 : decode prog_2_method_2_code 17 = .ok (.iload_n 0, 1) := by decide +kernel
set_option maxRecDepth 100000 in
theorem dX0_isAllowed_18 : decode prog_2_method_2_code 18 = .ok (.tableswitch 68 0 2 #[26, 42, 53], 26) := by decide +kernel
set_option maxRecDepth 100000 in
theorem dX0_isAllowed_44 : decode prog_2_method_2_code 44 = .ok (.iload_n 1, 1) := by decide +kernel
set_option maxRecDepth 100000 in
theorem dX0_isAllowed_45 : decode prog_2_method_2_code 45 = .ok (.iconst 1, 1) := by decide +kernel
set_option maxRecDepth 100000 in
theorem dX0_isAllowed_46 : decode prog_2_method_2_code 46 = .ok (.if_icmp .eq 8, 3) := by decide +kernel
set_option maxRecDepth 100000 in
theorem dX0_isAllowed_49 : decode prog_2_method_2_code 49 = .ok (.iload_n 1, 1) := by decide +kernel
set_option maxRecDepth 100000 in
theorem dX0_isAllowed_50 : decode prog_2_method_2_code 50 = .ok (.iconst 2, 1) := by decide +kernel
set_option maxRecDepth 100000 in
theorem dX0_isAllowed_51 : decode prog_2_method_2_code 51 = .ok (.if_icmp .ne 7, 3) := by decide +kernel
set_option maxRecDepth 100000 in
theorem dX0_isAllowed_54 : decode prog_2_method_2_code 54 = .ok (.iconst 1, 1) := by decide +kernel
set_option maxRecDepth 100000 in
theorem dX0_isAllowed_55 : decode prog_2_method_2_code 55 = .ok (.goto 4, 3) := by decide +kernel
set_option maxRecDepth 100000 in
theorem dX0_isAllowed_58 : decode prog_2_method_2_code 58 = .ok (.iconst 0, 1) := by decide +kernel
set_option maxRecDepth 100000 in
theorem dX0_isAllowed_59 : decode prog_2_method_2_code 59 = .ok (.ireturn, 1) := by decide +kernel
set_option maxRecDepth 100000 in
theorem dX0_isAllowed_60 : decode prog_2_method_2_code 60 = .ok (.iload_n 1, 1) := by decide +kernel
set_option maxRecDepth 100000 in
theorem dX0_isAllowed_61 : decode prog_2_method_2_code 61 = .ok (.iconst 2, 1) := by decide +kernel
set_option maxRecDepth 100000 in
theorem dX0_isAllowed_62 : decode prog_2_method_2_code 62 = .ok (.if_icmp .ne 7, 3) := by decide +kernel
set_option maxRecDepth 100000 in
theorem dX0_isAllowed_65 : decode prog_2_method_2_code 65 = .ok (.iconst 1, 1) := by decide +kernel
set_option maxRecDepth 100000 in
theorem dX0_isAllowed_66 : decode prog_2_method_2_code 66 = .ok (.goto 4, 3) := by decide +kernel
set_option maxRecDepth 100000 in
theorem dX0_isAllowed_69 : decode prog_2_method_2_code 69 = .ok (.iconst 0, 1) := by decide +kernel
set_option maxRecDepth 100000 in
theorem dX0_isAllowed_70 : decode prog_2_method_2_code 70 = .ok (.ireturn, 1) := by decide +kernel
set_option maxRecDepth 100000 in
theorem dX0_isAllowed_71 : decode prog_2_method_2_code 71 = .ok (.iload_n 1, 1) := by decide +kernel
set_option maxRecDepth 100000 in
theorem dX0_isAllowed_72 : decode prog_2_method_2_code 72 = .ok (.ifCond .eq 8, 3) := by decide +kernel
set_option maxRecDepth 100000 in
theorem dX0_isAllowed_75 : decode prog_2_method_2_code 75 = .ok (.iload_n 1, 1) := by decide +kernel
set_option maxRecDepth 100000 in
theorem dX0_isAllowed_76 : decode prog_2_method_2_code 76 = .ok (.iconst 1, 1) := by decide +kernel
set_option maxRecDepth 100000 in
theorem dX0_isAllowed_77 : decode prog_2_method_2_code 77 = .ok (.if_icmp .ne 7, 3) := by decide +kernel
set_option maxRecDepth 100000 in
theorem dX0_isAllowed_80 : decode prog_2_method_2_code 80 = .ok (.iconst 1, 1) := by decide +kernel
set_option maxRecDepth 100000 in
theorem dX0_isAllowed_81 : decode prog_2_method_2_code 81 = .ok (.goto 4, 3) := by decide +kernel
set_option maxRecDepth 100000 in
theorem dX0_isAllowed_84 : decode prog_2_method_2_code 84 = .ok (.iconst 0, 1) := by decide +kernel
set_option maxRecDepth 100000 in
theorem dX0_isAllowed_85 : decode prog_2_method_2_code 85 = .ok (.ireturn, 1) := by decide +kernel
set_option maxRecDepth 100000 in
theorem dX0_isAllowed_86 : decode prog_2_method_2_code 86 = .ok (.iconst 0, 1) := by decide +kernel
set_option maxRecDepth 100000 in
theorem dX0_isAllowed_87 : decode prog_2_method_2_code 87 = .ok (.ireturn, 1) := by decide +kernel

def fX0_isAllowed_e (z : Nat → Nat) (x0 : Int32) (x1 : Int32) (h : aH) : Option (Int32 × aH) :=
  (if x0 = x1 then
  some (1, h)
  else
  (if x1 = 4 then
  some (1, h)
  else
  (if x0 = 4 then
  some (1, h)
  else
  (if x0 = 0 then
  (if x1 = 1 then
  some (1, h)
  else
  (if x1 = 2 then
  some (1, h)
  else
  some (0, h)))
  else
  (if x0 = 1 then
  (if x1 = 2 then
  some (1, h)
  else
  some (0, h))
  else
  (if x0 = 2 then
  (if x1 = 0 then
  some (1, h)
  else
  (if x1 = 1 then
  some (1, h)
  else
  some (0, h)))
  else
  some (0, h)))))))
def fX0_isAllowed (z : Nat → Nat) (x0 : Int32) (x1 : Int32) (h : aH) : Option (Int32 × aH) := chkB (fX0_isAllowed_e z x0 x1 h)
set_option maxHeartbeats 4000000 in
set_option maxRecDepth 100000 in
theorem xX0_isAllowed {l : Launch} {g : aG} {d : Nat} (hK : 0 ≤ d) {x0 : Int32} {x1 : Int32} {h : aH} {q : Int32 × aH} (hf : fX0_isAllowed g.2.2 x0 x1 h = some q) : Ev l g miX0_isAllowed d [.inl x0, .inl x1] h (some (.inl q.1), q.2) := by
  replace hf := chkB_spec hf
  obtain ⟨hf, hb⟩ := hf
  refine ⟨?_, Or.inr ⟨rfl, hb⟩, Nat.le_of_ble_eq_true rfl⟩
  unfold fX0_isAllowed_e at hf
  show Y l g miX0_isAllowed d 0 [some (.inl x0), some (.inl x1)] [] h _
  refine y_iload_n (i := 0) dX0_isAllowed_0 rfl rfl ?_
  refine y_iload_n (i := 1) dX0_isAllowed_1 rfl rfl ?_
  refine y_icmp_eq (tgt := 15) dX0_isAllowed_2 (by decide) (fun hc => ?_) (fun hc => ?_)
  · rw [if_pos hc] at hf
    refine y_iconst (v := 1) dX0_isAllowed_15 (by decide) ?_
    obtain rfl := Option.some.inj hf
    exact y_ret (v := some (.inl 1)) dX0_isAllowed_16 rfl
  · rw [if_neg hc] at hf
    refine y_iload_n (i := 1) dX0_isAllowed_5 rfl rfl ?_
    refine y_iconst (v := 4) dX0_isAllowed_6 (by decide) ?_
    refine y_icmp_eq (tgt := 15) dX0_isAllowed_7 (by decide) (fun hc => ?_) (fun hc => ?_)
    · rw [if_pos hc] at hf
      refine y_iconst (v := 1) dX0_isAllowed_15 (by decide) ?_
      obtain rfl := Option.some.inj hf
      exact y_ret (v := some (.inl 1)) dX0_isAllowed_16 rfl
    · rw [if_neg hc] at hf
      refine y_iload_n (i := 0) dX0_isAllowed_10 rfl rfl ?_
      refine y_iconst (v := 4) dX0_isAllowed_11 (by decide) ?_
      refine y_icmp_ne (tgt := 17) dX0_isAllowed_12 (by decide) (fun hc => ?_) (fun hc => ?_)
      · rw [if_neg hc] at hf
        refine y_iload_n (i := 0) dX0_isAllowed_17 rfl rfl ?_
        refine y_table dX0_isAllowed_18 [(0, 44), (1, 60), (2, 71)] 86 (by decide) (by decide) (by decide) (by decide) ?_
        refine y_swc (fun hc => ?_) (fun hc => ?_)
        · rw [if_pos hc] at hf
          refine y_iload_n (i := 1) dX0_isAllowed_44 rfl rfl ?_
          refine y_iconst (v := 1) dX0_isAllowed_45 (by decide) ?_
          refine y_icmp_eq (tgt := 54) dX0_isAllowed_46 (by decide) (fun hc => ?_) (fun hc => ?_)
          · rw [if_pos hc] at hf
            refine y_iconst (v := 1) dX0_isAllowed_54 (by decide) ?_
            refine y_goto (tgt := 59) dX0_isAllowed_55 (by decide) ?_
            obtain rfl := Option.some.inj hf
            exact y_ret (v := some (.inl 1)) dX0_isAllowed_59 rfl
          · rw [if_neg hc] at hf
            refine y_iload_n (i := 1) dX0_isAllowed_49 rfl rfl ?_
            refine y_iconst (v := 2) dX0_isAllowed_50 (by decide) ?_
            refine y_icmp_ne (tgt := 58) dX0_isAllowed_51 (by decide) (fun hc => ?_) (fun hc => ?_)
            · rw [if_neg hc] at hf
              refine y_iconst (v := 0) dX0_isAllowed_58 (by decide) ?_
              obtain rfl := Option.some.inj hf
              exact y_ret (v := some (.inl 0)) dX0_isAllowed_59 rfl
            · rw [if_pos hc] at hf
              refine y_iconst (v := 1) dX0_isAllowed_54 (by decide) ?_
              refine y_goto (tgt := 59) dX0_isAllowed_55 (by decide) ?_
              obtain rfl := Option.some.inj hf
              exact y_ret (v := some (.inl 1)) dX0_isAllowed_59 rfl
        rw [if_neg hc] at hf
        refine y_swc (fun hc => ?_) (fun hc => ?_)
        · rw [if_pos hc] at hf
          refine y_iload_n (i := 1) dX0_isAllowed_60 rfl rfl ?_
          refine y_iconst (v := 2) dX0_isAllowed_61 (by decide) ?_
          refine y_icmp_ne (tgt := 69) dX0_isAllowed_62 (by decide) (fun hc => ?_) (fun hc => ?_)
          · rw [if_neg hc] at hf
            refine y_iconst (v := 0) dX0_isAllowed_69 (by decide) ?_
            obtain rfl := Option.some.inj hf
            exact y_ret (v := some (.inl 0)) dX0_isAllowed_70 rfl
          · rw [if_pos hc] at hf
            refine y_iconst (v := 1) dX0_isAllowed_65 (by decide) ?_
            refine y_goto (tgt := 70) dX0_isAllowed_66 (by decide) ?_
            obtain rfl := Option.some.inj hf
            exact y_ret (v := some (.inl 1)) dX0_isAllowed_70 rfl
        rw [if_neg hc] at hf
        refine y_swc (fun hc => ?_) (fun hc => ?_)
        · rw [if_pos hc] at hf
          refine y_iload_n (i := 1) dX0_isAllowed_71 rfl rfl ?_
          refine y_if_eq (tgt := 80) dX0_isAllowed_72 (by decide) (fun hc => ?_) (fun hc => ?_)
          · rw [if_pos hc] at hf
            refine y_iconst (v := 1) dX0_isAllowed_80 (by decide) ?_
            refine y_goto (tgt := 85) dX0_isAllowed_81 (by decide) ?_
            obtain rfl := Option.some.inj hf
            exact y_ret (v := some (.inl 1)) dX0_isAllowed_85 rfl
          · rw [if_neg hc] at hf
            refine y_iload_n (i := 1) dX0_isAllowed_75 rfl rfl ?_
            refine y_iconst (v := 1) dX0_isAllowed_76 (by decide) ?_
            refine y_icmp_ne (tgt := 84) dX0_isAllowed_77 (by decide) (fun hc => ?_) (fun hc => ?_)
            · rw [if_neg hc] at hf
              refine y_iconst (v := 0) dX0_isAllowed_84 (by decide) ?_
              obtain rfl := Option.some.inj hf
              exact y_ret (v := some (.inl 0)) dX0_isAllowed_85 rfl
            · rw [if_pos hc] at hf
              refine y_iconst (v := 1) dX0_isAllowed_80 (by decide) ?_
              refine y_goto (tgt := 85) dX0_isAllowed_81 (by decide) ?_
              obtain rfl := Option.some.inj hf
              exact y_ret (v := some (.inl 1)) dX0_isAllowed_85 rfl
        rw [if_neg hc] at hf
        refine y_swn ?_
        refine y_iconst (v := 0) dX0_isAllowed_86 (by decide) ?_
        obtain rfl := Option.some.inj hf
        exact y_ret (v := some (.inl 0)) dX0_isAllowed_87 rfl
      · rw [if_pos hc] at hf
        refine y_iconst (v := 1) dX0_isAllowed_15 (by decide) ?_
        obtain rfl := Option.some.inj hf
        exact y_ret (v := some (.inl 1)) dX0_isAllowed_16 rfl
set_option maxRecDepth 100000 in
theorem dX9_count_0 : decode prog_11_method_2_code 0 = .ok (.aload_n 0, 1) := by decide +kernel
set_option maxRecDepth 100000 in
theorem dX9_count_1 : decode prog_11_method_2_code 1 = .ok (.getfield 19, 3) := by decide +kernel
set_option maxRecDepth 100000 in
theorem dX9_count_4 : decode prog_11_method_2_code 4 = .ok (.ireturn, 1) := by decide +kernel

def fX9_count (z : Nat → Nat) (a0 : Nat) (h : aH) : Option (Int32 × aH) :=
  (rdI h a0 [7] 2).bind fun x101 =>
  some (x101, h)
set_option maxHeartbeats 4000000 in
set_option maxRecDepth 100000 in
theorem xX9_count {l : Launch} {g : aG} {d : Nat} (hK : 0 ≤ d) {a0 : Nat} {h : aH} {q : Int32 × aH} (hf : fX9_count g.2.2 a0 h = some q) : Ev l g miX9_count d [.inr (.inr (some a0))] h (some (.inl q.1), q.2) := by
  refine ⟨?_, Or.inl rfl, Nat.le_of_ble_eq_true rfl⟩
  unfold fX9_count at hf
  show Y l g miX9_count d 0 [some (.inr (.inr (some a0)))] [] h _
  refine y_aload_n (i := 0) dX9_count_0 rfl rfl ?_
  replace hf := bnd hf
  obtain ⟨x101, ex101, hf⟩ := hf
  refine y_getI ex101 fl9_19 dX9_count_1 ?_
  obtain rfl := Option.some.inj hf
  exact y_ret (v := some (.inl x101)) dX9_count_4 rfl
set_option maxRecDepth 100000 in
theorem dX10_canBind_0 : decode prog_1_method_22_code 0 = .ok (.aload_n 0, 1) := by decide +kernel
set_option maxRecDepth 100000 in
theorem dX10_canBind_1 : decode prog_1_method_22_code 1 = .ok (.getfield 38, 3) := by decide +kernel
set_option maxRecDepth 100000 in
theorem dX10_canBind_4 : decode prog_1_method_22_code 4 = .ok (.invokevirtual 147, 3) := by decide +kernel
set_option maxRecDepth 100000 in
theorem dX10_canBind_7 : decode prog_1_method_22_code 7 = .ok (.ifCond .ne 5, 3) := by decide +kernel
set_option maxRecDepth 100000 in
theorem dX10_canBind_10 : decode prog_1_method_22_code 10 = .ok (.iconst 0, 1) := by decide +kernel
set_option maxRecDepth 100000 in
theorem dX10_canBind_11 : decode prog_1_method_22_code 11 = .ok (.ireturn, 1) := by decide +kernel
set_option maxRecDepth 100000 in
theorem dX10_canBind_12 : decode prog_1_method_22_code 12 = .ok (.aload_n 0, 1) := by decide +kernel
set_option maxRecDepth 100000 in
theorem dX10_canBind_13 : decode prog_1_method_22_code 13 = .ok (.getfield 38, 3) := by decide +kernel
set_option maxRecDepth 100000 in
theorem dX10_canBind_16 : decode prog_1_method_22_code 16 = .ok (.iconst 0, 1) := by decide +kernel
set_option maxRecDepth 100000 in
theorem dX10_canBind_17 : decode prog_1_method_22_code 17 = .ok (.invokevirtual 199, 3) := by decide +kernel
set_option maxRecDepth 100000 in
theorem dX10_canBind_20 : decode prog_1_method_22_code 20 = .ok (.istore_n 2, 1) := by decide +kernel
set_option maxRecDepth 100000 in
theorem dX10_canBind_21 : decode prog_1_method_22_code 21 = .ok (.iload_n 2, 1) := by decide +kernel
set_option maxRecDepth 100000 in
theorem dX10_canBind_22 : decode prog_1_method_22_code 22 = .ok (.iload_n 1, 1) := by decide +kernel
set_option maxRecDepth 100000 in
theorem dX10_canBind_23 : decode prog_1_method_22_code 23 = .ok (.invokestatic 202, 3) := by decide +kernel
set_option maxRecDepth 100000 in
theorem dX10_canBind_26 : decode prog_1_method_22_code 26 = .ok (.istore_n 3, 1) := by decide +kernel
set_option maxRecDepth 100000 in
theorem dX10_canBind_27 : decode prog_1_method_22_code 27 = .ok (.iload_n 3, 1) := by decide +kernel
set_option maxRecDepth 100000 in
theorem dX10_canBind_28 : decode prog_1_method_22_code 28 = .ok (.iload_n 1, 1) := by decide +kernel
set_option maxRecDepth 100000 in
theorem dX10_canBind_29 : decode prog_1_method_22_code 29 = .ok (.invokestatic 207, 3) := by decide +kernel
set_option maxRecDepth 100000 in
theorem dX10_canBind_32 : decode prog_1_method_22_code 32 = .ok (.ifCond .eq 16, 3) := by decide +kernel
set_option maxRecDepth 100000 in
theorem dX10_canBind_35 : decode prog_1_method_22_code 35 = .ok (.iload_n 2, 1) := by decide +kernel
set_option maxRecDepth 100000 in
theorem dX10_canBind_36 : decode prog_1_method_22_code 36 = .ok (.iload_n 3, 1) := by decide +kernel
set_option maxRecDepth 100000 in
theorem dX10_canBind_37 : decode prog_1_method_22_code 37 = .ok (.iload_n 1, 1) := by decide +kernel
set_option maxRecDepth 100000 in
theorem dX10_canBind_38 : decode prog_1_method_22_code 38 = .ok (.invokestatic 210, 3) := by decide +kernel
set_option maxRecDepth 100000 in
theorem dX10_canBind_41 : decode prog_1_method_22_code 41 = .ok (.ifCond .ne 7, 3) := by decide +kernel
set_option maxRecDepth 100000 in
theorem dX10_canBind_44 : decode prog_1_method_22_code 44 = .ok (.iconst 1, 1) := by decide +kernel
set_option maxRecDepth 100000 in
theorem dX10_canBind_45 : decode prog_1_method_22_code 45 = .ok (.goto 4, 3) := by decide +kernel
set_option maxRecDepth 100000 in
theorem dX10_canBind_48 : decode prog_1_method_22_code 48 = .ok (.iconst 0, 1) := by decide +kernel
set_option maxRecDepth 100000 in
theorem dX10_canBind_49 : decode prog_1_method_22_code 49 = .ok (.ireturn, 1) := by decide +kernel
set_option maxRecDepth 100000 in
theorem okX9_count : mOk miX9_count 0 := ⟨(gd_of 385 rfl rfl), (gd_of 74 rfl rfl), by decide +kernel, ⟨by decide +kernel, by decide +kernel, by decide +kernel⟩, by decide⟩
set_option maxRecDepth 100000 in
theorem okX0_isAllowed : mOk miX0_isAllowed 2 := ⟨(gd_of 376 rfl rfl), (gd_of 82 rfl rfl), by decide +kernel, ⟨by decide +kernel, by decide +kernel, by decide +kernel⟩, by decide⟩
set_option maxRecDepth 100000 in
theorem okX0_failure : mOk miX0_failure 3 := ⟨(gd_of 396 rfl rfl), (gd_of 82 rfl rfl), by decide +kernel, ⟨by decide +kernel, by decide +kernel, by decide +kernel⟩, by decide⟩
def fX10_canBind_e (z : Nat → Nat) (a0 : Nat) (x1 : Int32) (h : aH) : Option (Int32 × aH) :=
  (rdR h a0 [8] 5).bind fun r101 =>
  (r101).bind fun a103 =>
  (obO h a103 7).bind fun fs104 =>
  (fX9_count z a103 h).bind fun q102 =>
  (if q102.1 = 0 then
  some (0, q102.2)
  else
  (rdR q102.2 a0 [8] 5).bind fun r105 =>
  (r105).bind fun a107 =>
  (obO q102.2 a107 7).bind fun fs108 =>
  (fX9_kindAt z a107 0 q102.2).bind fun q106 =>
  (fX0_typeOf z q106.1 x1 q106.2).bind fun q109 =>
  (fX0_isAllowed z q109.1 x1 q109.2).bind fun q110 =>
  (if q110.1 = 0 then
  some (0, q110.2)
  else
  (fX0_failure z q106.1 q109.1 x1 q110.2).bind fun q111 =>
  (if q111.1 = 0 then
  some (1, q111.2)
  else
  some (0, q111.2))))
def fX10_canBind (z : Nat → Nat) (a0 : Nat) (x1 : Int32) (h : aH) : Option (Int32 × aH) := chkB (fX10_canBind_e z a0 x1 h)
set_option maxHeartbeats 4000000 in
set_option maxRecDepth 100000 in
theorem xX10_canBind {l : Launch} {g : aG} {d : Nat} (hK : 1 ≤ d) {a0 : Nat} {x1 : Int32} {h : aH} {q : Int32 × aH} (hf : fX10_canBind g.2.2 a0 x1 h = some q) : Ev l g miX10_canBind d [.inr (.inr (some a0)), .inl x1] h (some (.inl q.1), q.2) := by
  obtain ⟨d, rfl⟩ : ∃ e, d = e + 1 := ⟨d - 1, by omega⟩
  replace hf := chkB_spec hf
  obtain ⟨hf, hb⟩ := hf
  refine ⟨?_, Or.inr ⟨rfl, hb⟩, Nat.le_of_ble_eq_true rfl⟩
  unfold fX10_canBind_e at hf
  show Y l g miX10_canBind (d + 1) 0 [some (.inr (.inr (some a0))), some (.inl x1), none, none] [] h _
  refine y_aload_n (i := 0) dX10_canBind_0 rfl rfl ?_
  replace hf := bnd hf
  obtain ⟨r101, er101, hf⟩ := hf
  refine y_getR er101 fl10_38 dX10_canBind_1 ?_
  replace hf := bnd hf
  obtain ⟨a103, rfl, hf⟩ := hf
  replace hf := bnd hf
  obtain ⟨fs104, efs104, hf⟩ := hf
  replace hf := bnd hf
  obtain ⟨q102, eq102, hf⟩ := hf
  refine y_callV (mj := miX9_count) (args := []) (st := []) dX10_canBind_4 (gd_of 382 rfl rfl) (gd_of 383 rfl rfl) (gd_of 384 rfl rfl) okX9_count (obO_spec efs104) rfl rfl (xX9_count (by omega) eq102) (Nat.le_of_ble_eq_true rfl) rfl ?_
  show Y l g miX10_canBind (d + 1) 7 [some (.inr (.inr (some a0))), some (.inl x1), none, none] [.inl q102.1] q102.2 _
  refine y_if_ne (tgt := 12) dX10_canBind_7 (by decide) (fun hc => ?_) (fun hc => ?_)
  · rw [if_neg hc] at hf
    refine y_aload_n (i := 0) dX10_canBind_12 rfl rfl ?_
    replace hf := bnd hf
    obtain ⟨r105, er105, hf⟩ := hf
    refine y_getR er105 fl10_38 dX10_canBind_13 ?_
    refine y_iconst (v := 0) dX10_canBind_16 (by decide) ?_
    replace hf := bnd hf
    obtain ⟨a107, rfl, hf⟩ := hf
    replace hf := bnd hf
    obtain ⟨fs108, efs108, hf⟩ := hf
    replace hf := bnd hf
    obtain ⟨q106, eq106, hf⟩ := hf
    refine y_callV (mj := miX9_kindAt) (args := [.inl 0]) (st := []) dX10_canBind_17 (gd_of 386 rfl rfl) (gd_of 387 rfl rfl) (gd_of 388 rfl rfl) okX9_kindAt (obO_spec efs108) rfl rfl (xX9_kindAt (by omega) eq106) (Nat.le_of_ble_eq_true rfl) rfl ?_
    show Y l g miX10_canBind (d + 1) 20 [some (.inr (.inr (some a0))), some (.inl x1), none, none] [.inl q106.1] q106.2 _
    refine y_istore_n (i := 2) (lv2 := [some (.inr (.inr (some a0))), some (.inl x1), some (.inl q106.1), none]) dX10_canBind_20 rfl (by decide) rfl ?_
    refine y_iload_n (i := 2) dX10_canBind_21 rfl rfl ?_
    refine y_iload_n (i := 1) dX10_canBind_22 rfl rfl ?_
    replace hf := bnd hf
    obtain ⟨q109, eq109, hf⟩ := hf
    refine y_callS (mj := miX0_typeOf) (args := [.inl q106.1, .inl x1]) (st := []) dX10_canBind_23 (gd_of 390 rfl rfl) (gd_of 391 rfl rfl) okX0_typeOf (xX0_typeOf (by omega) eq109) (Nat.le_of_ble_eq_true rfl) rfl ?_
    show Y l g miX10_canBind (d + 1) 26 [some (.inr (.inr (some a0))), some (.inl x1), some (.inl q106.1), none] [.inl q109.1] q109.2 _
    refine y_istore_n (i := 3) (lv2 := [some (.inr (.inr (some a0))), some (.inl x1), some (.inl q106.1), some (.inl q109.1)]) dX10_canBind_26 rfl (by decide) rfl ?_
    refine y_iload_n (i := 3) dX10_canBind_27 rfl rfl ?_
    refine y_iload_n (i := 1) dX10_canBind_28 rfl rfl ?_
    replace hf := bnd hf
    obtain ⟨q110, eq110, hf⟩ := hf
    refine y_callS (mj := miX0_isAllowed) (args := [.inl q109.1, .inl x1]) (st := []) dX10_canBind_29 (gd_of 393 rfl rfl) (gd_of 375 rfl rfl) okX0_isAllowed (xX0_isAllowed (by omega) eq110) (Nat.le_of_ble_eq_true rfl) rfl ?_
    show Y l g miX10_canBind (d + 1) 32 [some (.inr (.inr (some a0))), some (.inl x1), some (.inl q106.1), some (.inl q109.1)] [.inl q110.1] q110.2 _
    refine y_if_eq (tgt := 48) dX10_canBind_32 (by decide) (fun hc => ?_) (fun hc => ?_)
    · rw [if_pos hc] at hf
      refine y_iconst (v := 0) dX10_canBind_48 (by decide) ?_
      obtain rfl := Option.some.inj hf
      exact y_ret (v := some (.inl 0)) dX10_canBind_49 rfl
    · rw [if_neg hc] at hf
      refine y_iload_n (i := 2) dX10_canBind_35 rfl rfl ?_
      refine y_iload_n (i := 3) dX10_canBind_36 rfl rfl ?_
      refine y_iload_n (i := 1) dX10_canBind_37 rfl rfl ?_
      replace hf := bnd hf
      obtain ⟨q111, eq111, hf⟩ := hf
      refine y_callS (mj := miX0_failure) (args := [.inl q106.1, .inl q109.1, .inl x1]) (st := []) dX10_canBind_38 (gd_of 394 rfl rfl) (gd_of 395 rfl rfl) okX0_failure (xX0_failure (by omega) eq111) (Nat.le_of_ble_eq_true rfl) rfl ?_
      show Y l g miX10_canBind (d + 1) 41 [some (.inr (.inr (some a0))), some (.inl x1), some (.inl q106.1), some (.inl q109.1)] [.inl q111.1] q111.2 _
      refine y_if_ne (tgt := 48) dX10_canBind_41 (by decide) (fun hc => ?_) (fun hc => ?_)
      · rw [if_neg hc] at hf
        refine y_iconst (v := 0) dX10_canBind_48 (by decide) ?_
        obtain rfl := Option.some.inj hf
        exact y_ret (v := some (.inl 0)) dX10_canBind_49 rfl
      · rw [if_pos hc] at hf
        refine y_iconst (v := 1) dX10_canBind_44 (by decide) ?_
        refine y_goto (tgt := 49) dX10_canBind_45 (by decide) ?_
        obtain rfl := Option.some.inj hf
        exact y_ret (v := some (.inl 1)) dX10_canBind_49 rfl
  · rw [if_pos hc] at hf
    refine y_iconst (v := 0) dX10_canBind_10 (by decide) ?_
    obtain rfl := Option.some.inj hf
    exact y_ret (v := some (.inl 0)) dX10_canBind_11 rfl
set_option maxRecDepth 100000 in
theorem dX9_cutTo_0 : decode prog_11_method_6_code 0 = .ok (.iload_n 1, 1) := by decide +kernel
set_option maxRecDepth 100000 in
theorem dX9_cutTo_1 : decode prog_11_method_6_code 1 = .ok (.ifCond .lt 16, 3) := by decide +kernel
set_option maxRecDepth 100000 in
theorem dX9_cutTo_4 : decode prog_11_method_6_code 4 = .ok (.iload_n 1, 1) := by decide +kernel
set_option maxRecDepth 100000 in
theorem dX9_cutTo_5 : decode prog_11_method_6_code 5 = .ok (.aload_n 0, 1) := by decide +kernel
set_option maxRecDepth 100000 in
theorem dX9_cutTo_6 : decode prog_11_method_6_code 6 = .ok (.getfield 19, 3) := by decide +kernel
set_option maxRecDepth 100000 in
theorem dX9_cutTo_9 : decode prog_11_method_6_code 9 = .ok (.if_icmp .ge 8, 3) := by decide +kernel
set_option maxRecDepth 100000 in
theorem dX9_cutTo_12 : decode prog_11_method_6_code 12 = .ok (.aload_n 0, 1) := by decide +kernel
set_option maxRecDepth 100000 in
theorem dX9_cutTo_13 : decode prog_11_method_6_code 13 = .ok (.iload_n 1, 1) := by decide +kernel
set_option maxRecDepth 100000 in
theorem dX9_cutTo_14 : decode prog_11_method_6_code 14 = .ok (.putfield 19, 3) := by decide +kernel
set_option maxRecDepth 100000 in
theorem dX9_cutTo_17 : decode prog_11_method_6_code 17 = .ok (.return_, 1) := by decide +kernel
set_option maxRecDepth 100000 in
theorem pl9_19_m {mi : aM} {x : Int32} (ho : "HandleModels$Values" = mi.1.cls) : ∀ c ∈ ([7] : List Nat), FL mi.1.cls 19 c 2 ∧ FT c 2 (.inl x) ∧ FW mi c 2 := fun c h9 => by
  have h8 := fl9_19 c h9
  rw [← ho]
  refine ⟨h8, ?_⟩
  simp only [List.mem_cons, List.not_mem_nil, or_false] at h9
  rcases h9 with rfl
  · exact ⟨ft_int rfl (by decide +kernel), ⟨_, rfl, Or.inl rfl⟩⟩
def fX9_cutTo (z : Nat → Nat) (a0 : Nat) (x1 : Int32) (h : aH) : Option aH :=
  (if x1 < 0 then
  some h
  else
  (rdI h a0 [7] 2).bind fun x101 =>
  (if x101 ≤ x1 then
  some h
  else
  (wrF h a0 [7] 2 (.inl x1)).bind fun h102 =>
  some h102))
set_option maxHeartbeats 4000000 in
set_option maxRecDepth 100000 in
theorem xX9_cutTo {l : Launch} {g : aG} {d : Nat} (hK : 0 ≤ d) {a0 : Nat} {x1 : Int32} {h : aH} {q : aH} (hf : fX9_cutTo g.2.2 a0 x1 h = some q) : Ev l g miX9_cutTo d [.inr (.inr (some a0)), .inl x1] h (none, q) := by
  refine ⟨?_, rfl, Nat.le_of_ble_eq_true rfl⟩
  unfold fX9_cutTo at hf
  show Y l g miX9_cutTo d 0 [some (.inr (.inr (some a0))), some (.inl x1)] [] h _
  refine y_iload_n (i := 1) dX9_cutTo_0 rfl rfl ?_
  refine y_if_lt (tgt := 17) dX9_cutTo_1 (by decide) (fun hc => ?_) (fun hc => ?_)
  · rw [if_pos hc] at hf
    obtain rfl := Option.some.inj hf
    exact y_ret (v := none) dX9_cutTo_17 rfl
  · rw [if_neg hc] at hf
    refine y_iload_n (i := 1) dX9_cutTo_4 rfl rfl ?_
    refine y_aload_n (i := 0) dX9_cutTo_5 rfl rfl ?_
    replace hf := bnd hf
    obtain ⟨x101, ex101, hf⟩ := hf
    refine y_getI ex101 fl9_19 dX9_cutTo_6 ?_
    refine y_icmp_ge (tgt := 17) dX9_cutTo_9 (by decide) (fun hc => ?_) (fun hc => ?_)
    · rw [if_pos hc] at hf
      obtain rfl := Option.some.inj hf
      exact y_ret (v := none) dX9_cutTo_17 rfl
    · rw [if_neg hc] at hf
      refine y_aload_n (i := 0) dX9_cutTo_12 rfl rfl ?_
      refine y_iload_n (i := 1) dX9_cutTo_13 rfl rfl ?_
      replace hf := bnd hf
      obtain ⟨h102, eh102, hf⟩ := hf
      refine y_put eh102 (pl9_19_m rfl) dX9_cutTo_14 ?_
      obtain rfl := Option.some.inj hf
      exact y_ret (v := none) dX9_cutTo_17 rfl
set_option maxRecDepth 100000 in
theorem dX10_clear_0 : decode prog_1_method_8_code 0 = .ok (.aload_n 0, 1) := by decide +kernel
set_option maxRecDepth 100000 in
theorem dX10_clear_1 : decode prog_1_method_8_code 1 = .ok (.getfield 38, 3) := by decide +kernel
set_option maxRecDepth 100000 in
theorem dX10_clear_4 : decode prog_1_method_8_code 4 = .ok (.invokevirtual 147, 3) := by decide +kernel
set_option maxRecDepth 100000 in
theorem dX10_clear_7 : decode prog_1_method_8_code 7 = .ok (.istore_n 1, 1) := by decide +kernel
set_option maxRecDepth 100000 in
theorem dX10_clear_8 : decode prog_1_method_8_code 8 = .ok (.aload_n 0, 1) := by decide +kernel
set_option maxRecDepth 100000 in
theorem dX10_clear_9 : decode prog_1_method_8_code 9 = .ok (.getfield 38, 3) := by decide +kernel
set_option maxRecDepth 100000 in
theorem dX10_clear_12 : decode prog_1_method_8_code 12 = .ok (.iconst 0, 1) := by decide +kernel
set_option maxRecDepth 100000 in
theorem dX10_clear_13 : decode prog_1_method_8_code 13 = .ok (.invokevirtual 151, 3) := by decide +kernel
set_option maxRecDepth 100000 in
theorem dX10_clear_16 : decode prog_1_method_8_code 16 = .ok (.iload_n 1, 1) := by decide +kernel
set_option maxRecDepth 100000 in
theorem dX10_clear_17 : decode prog_1_method_8_code 17 = .ok (.ireturn, 1) := by decide +kernel
set_option maxRecDepth 100000 in
theorem okX9_cutTo : mOk miX9_cutTo 1 := ⟨(gd_of 478 rfl rfl), (gd_of 74 rfl rfl), by decide +kernel, ⟨by decide +kernel, by decide +kernel, by decide +kernel⟩, by decide⟩
def fX10_clear (z : Nat → Nat) (a0 : Nat) (h : aH) : Option (Int32 × aH) :=
  (rdR h a0 [8] 5).bind fun r101 =>
  (r101).bind fun a103 =>
  (obO h a103 7).bind fun fs104 =>
  (fX9_count z a103 h).bind fun q102 =>
  (rdR q102.2 a0 [8] 5).bind fun r105 =>
  (r105).bind fun a107 =>
  (obO q102.2 a107 7).bind fun fs108 =>
  (fX9_cutTo z a107 0 q102.2).bind fun q106 =>
  some (q102.1, q106)
set_option maxHeartbeats 4000000 in
set_option maxRecDepth 100000 in
theorem xX10_clear {l : Launch} {g : aG} {d : Nat} (hK : 1 ≤ d) {a0 : Nat} {h : aH} {q : Int32 × aH} (hf : fX10_clear g.2.2 a0 h = some q) : Ev l g miX10_clear d [.inr (.inr (some a0))] h (some (.inl q.1), q.2) := by
  obtain ⟨d, rfl⟩ : ∃ e, d = e + 1 := ⟨d - 1, by omega⟩
  refine ⟨?_, Or.inl rfl, Nat.le_of_ble_eq_true rfl⟩
  unfold fX10_clear at hf
  show Y l g miX10_clear (d + 1) 0 [some (.inr (.inr (some a0))), none] [] h _
  refine y_aload_n (i := 0) dX10_clear_0 rfl rfl ?_
  replace hf := bnd hf
  obtain ⟨r101, er101, hf⟩ := hf
  refine y_getR er101 fl10_38 dX10_clear_1 ?_
  replace hf := bnd hf
  obtain ⟨a103, rfl, hf⟩ := hf
  replace hf := bnd hf
  obtain ⟨fs104, efs104, hf⟩ := hf
  replace hf := bnd hf
  obtain ⟨q102, eq102, hf⟩ := hf
  refine y_callV (mj := miX9_count) (args := []) (st := []) dX10_clear_4 (gd_of 382 rfl rfl) (gd_of 383 rfl rfl) (gd_of 384 rfl rfl) okX9_count (obO_spec efs104) rfl rfl (xX9_count (by omega) eq102) (Nat.le_of_ble_eq_true rfl) rfl ?_
  show Y l g miX10_clear (d + 1) 7 [some (.inr (.inr (some a0))), none] [.inl q102.1] q102.2 _
  refine y_istore_n (i := 1) (lv2 := [some (.inr (.inr (some a0))), some (.inl q102.1)]) dX10_clear_7 rfl (by decide) rfl ?_
  refine y_aload_n (i := 0) dX10_clear_8 rfl rfl ?_
  replace hf := bnd hf
  obtain ⟨r105, er105, hf⟩ := hf
  refine y_getR er105 fl10_38 dX10_clear_9 ?_
  refine y_iconst (v := 0) dX10_clear_12 (by decide) ?_
  replace hf := bnd hf
  obtain ⟨a107, rfl, hf⟩ := hf
  replace hf := bnd hf
  obtain ⟨fs108, efs108, hf⟩ := hf
  replace hf := bnd hf
  obtain ⟨q106, eq106, hf⟩ := hf
  refine y_callV (mj := miX9_cutTo) (args := [.inl 0]) (st := []) dX10_clear_13 (gd_of 475 rfl rfl) (gd_of 476 rfl rfl) (gd_of 477 rfl rfl) okX9_cutTo (obO_spec efs108) rfl rfl (xX9_cutTo (by omega) eq106) (Nat.le_of_ble_eq_true rfl) rfl ?_
  show Y l g miX10_clear (d + 1) 16 [some (.inr (.inr (some a0))), some (.inl q102.1)] [] q106 _
  refine y_iload_n (i := 1) dX10_clear_16 rfl rfl ?_
  obtain rfl := Option.some.inj hf
  exact y_ret (v := some (.inl q102.1)) dX10_clear_17 rfl
set_option maxRecDepth 100000 in
theorem dX10_keepResult_0 : decode prog_1_method_21_code 0 = .ok (.aload_n 0, 1) := by decide +kernel
set_option maxRecDepth 100000 in
theorem dX10_keepResult_1 : decode prog_1_method_21_code 1 = .ok (.iload_n 1, 1) := by decide +kernel
set_option maxRecDepth 100000 in
theorem dX10_keepResult_2 : decode prog_1_method_21_code 2 = .ok (.putfield 51, 3) := by decide +kernel
set_option maxRecDepth 100000 in
theorem dX10_keepResult_5 : decode prog_1_method_21_code 5 = .ok (.aload_n 0, 1) := by decide +kernel
set_option maxRecDepth 100000 in
theorem dX10_keepResult_6 : decode prog_1_method_21_code 6 = .ok (.lload_n 2, 1) := by decide +kernel
set_option maxRecDepth 100000 in
theorem dX10_keepResult_7 : decode prog_1_method_21_code 7 = .ok (.putfield 54, 3) := by decide +kernel
set_option maxRecDepth 100000 in
theorem dX10_keepResult_10 : decode prog_1_method_21_code 10 = .ok (.return_, 1) := by decide +kernel
set_option maxRecDepth 100000 in
theorem pl10_51_m {mi : aM} {x : Int32} (ho : "HandleModels" = mi.1.cls) : ∀ c ∈ ([8] : List Nat), FL mi.1.cls 51 c 7 ∧ FT c 7 (.inl x) ∧ FW mi c 7 := fun c h9 => by
  have h8 := fl10_51 c h9
  rw [← ho]
  refine ⟨h8, ?_⟩
  simp only [List.mem_cons, List.not_mem_nil, or_false] at h9
  rcases h9 with rfl
  · exact ⟨ft_int rfl (by decide +kernel), ⟨_, rfl, Or.inl rfl⟩⟩
set_option maxRecDepth 100000 in
theorem pl10_54_m {mi : aM} {x : Int64} (ho : "HandleModels" = mi.1.cls) : ∀ c ∈ ([8] : List Nat), FL mi.1.cls 54 c 8 ∧ FT c 8 (.inr (.inl x)) ∧ FW mi c 8 := fun c h9 => by
  have h8 := fl10_54 c h9
  rw [← ho]
  refine ⟨h8, ?_⟩
  simp only [List.mem_cons, List.not_mem_nil, or_false] at h9
  rcases h9 with rfl
  · exact ⟨ft_long rfl (by decide +kernel), ⟨_, rfl, Or.inl rfl⟩⟩
def fX10_keepResult (z : Nat → Nat) (a0 : Nat) (x1 : Int32) (j2 : Int64) (h : aH) : Option aH :=
  (wrF h a0 [8] 7 (.inl x1)).bind fun h101 =>
  (wrF h101 a0 [8] 8 (.inr (.inl j2))).bind fun h102 =>
  some h102
set_option maxHeartbeats 4000000 in
set_option maxRecDepth 100000 in
theorem xX10_keepResult {l : Launch} {g : aG} {d : Nat} (hK : 0 ≤ d) {a0 : Nat} {x1 : Int32} {j2 : Int64} {h : aH} {q : aH} (hf : fX10_keepResult g.2.2 a0 x1 j2 h = some q) : Ev l g miX10_keepResult d [.inr (.inr (some a0)), .inl x1, .inr (.inl j2)] h (none, q) := by
  refine ⟨?_, rfl, Nat.le_of_ble_eq_true rfl⟩
  unfold fX10_keepResult at hf
  show Y l g miX10_keepResult d 0 [some (.inr (.inr (some a0))), some (.inl x1), some (.inr (.inl j2)), none] [] h _
  refine y_aload_n (i := 0) dX10_keepResult_0 rfl rfl ?_
  refine y_iload_n (i := 1) dX10_keepResult_1 rfl rfl ?_
  replace hf := bnd hf
  obtain ⟨h101, eh101, hf⟩ := hf
  refine y_put eh101 (pl10_51_m rfl) dX10_keepResult_2 ?_
  refine y_aload_n (i := 0) dX10_keepResult_5 rfl rfl ?_
  refine y_lload_n (i := 2) dX10_keepResult_6 rfl rfl ?_
  replace hf := bnd hf
  obtain ⟨h102, eh102, hf⟩ := hf
  refine y_put eh102 (pl10_54_m rfl) dX10_keepResult_7 ?_
  obtain rfl := Option.some.inj hf
  exact y_ret (v := none) dX10_keepResult_10 rfl
set_option maxRecDepth 100000 in
theorem dX10_endRun_0 : decode prog_1_method_25_code 0 = .ok (.aload_n 0, 1) := by decide +kernel
set_option maxRecDepth 100000 in
theorem dX10_endRun_1 : decode prog_1_method_25_code 1 = .ok (.iload_n 1, 1) := by decide +kernel
set_option maxRecDepth 100000 in
theorem dX10_endRun_2 : decode prog_1_method_25_code 2 = .ok (.putfield 58, 3) := by decide +kernel
set_option maxRecDepth 100000 in
theorem dX10_endRun_5 : decode prog_1_method_25_code 5 = .ok (.iload_n 1, 1) := by decide +kernel
set_option maxRecDepth 100000 in
theorem dX10_endRun_6 : decode prog_1_method_25_code 6 = .ok (.ifCond .eq 14, 3) := by decide +kernel
set_option maxRecDepth 100000 in
theorem dX10_endRun_9 : decode prog_1_method_25_code 9 = .ok (.aload_n 0, 1) := by decide +kernel
set_option maxRecDepth 100000 in
theorem dX10_endRun_10 : decode prog_1_method_25_code 10 = .ok (.iconst 3, 1) := by decide +kernel
set_option maxRecDepth 100000 in
theorem dX10_endRun_11 : decode prog_1_method_25_code 11 = .ok (.lconst 0, 1) := by decide +kernel
set_option maxRecDepth 100000 in
theorem dX10_endRun_12 : decode prog_1_method_25_code 12 = .ok (.invokevirtual 143, 3) := by decide +kernel
set_option maxRecDepth 100000 in
theorem dX10_endRun_15 : decode prog_1_method_25_code 15 = .ok (.bipush (-10), 2) := by decide +kernel
set_option maxRecDepth 100000 in
theorem dX10_endRun_17 : decode prog_1_method_25_code 17 = .ok (.iload_n 1, 1) := by decide +kernel
set_option maxRecDepth 100000 in
theorem dX10_endRun_18 : decode prog_1_method_25_code 18 = .ok (.isub, 1) := by decide +kernel
set_option maxRecDepth 100000 in
theorem dX10_endRun_19 : decode prog_1_method_25_code 19 = .ok (.ireturn, 1) := by decide +kernel
set_option maxRecDepth 100000 in
theorem dX10_endRun_20 : decode prog_1_method_25_code 20 = .ok (.aload_n 0, 1) := by decide +kernel
set_option maxRecDepth 100000 in
theorem dX10_endRun_21 : decode prog_1_method_25_code 21 = .ok (.aload_n 0, 1) := by decide +kernel
set_option maxRecDepth 100000 in
theorem dX10_endRun_22 : decode prog_1_method_25_code 22 = .ok (.getfield 47, 3) := by decide +kernel
set_option maxRecDepth 100000 in
theorem dX10_endRun_25 : decode prog_1_method_25_code 25 = .ok (.getfield 238, 3) := by decide +kernel
set_option maxRecDepth 100000 in
theorem dX10_endRun_28 : decode prog_1_method_25_code 28 = .ok (.aload_n 0, 1) := by decide +kernel
set_option maxRecDepth 100000 in
theorem dX10_endRun_29 : decode prog_1_method_25_code 29 = .ok (.getfield 47, 3) := by decide +kernel
set_option maxRecDepth 100000 in
theorem dX10_endRun_32 : decode prog_1_method_25_code 32 = .ok (.getfield 235, 3) := by decide +kernel
set_option maxRecDepth 100000 in
theorem dX10_endRun_35 : decode prog_1_method_25_code 35 = .ok (.invokevirtual 143, 3) := by decide +kernel
set_option maxRecDepth 100000 in
theorem dX10_endRun_38 : decode prog_1_method_25_code 38 = .ok (.iconst 1, 1) := by decide +kernel
set_option maxRecDepth 100000 in
theorem dX10_endRun_39 : decode prog_1_method_25_code 39 = .ok (.ireturn, 1) := by decide +kernel
set_option maxRecDepth 100000 in
theorem pl10_58_m {mi : aM} {x : Int32} (ho : "HandleModels" = mi.1.cls) : ∀ c ∈ ([8] : List Nat), FL mi.1.cls 58 c 9 ∧ FT c 9 (.inl x) ∧ FW mi c 9 := fun c h9 => by
  have h8 := fl10_58 c h9
  rw [← ho]
  refine ⟨h8, ?_⟩
  simp only [List.mem_cons, List.not_mem_nil, or_false] at h9
  rcases h9 with rfl
  · exact ⟨ft_int rfl (by decide +kernel), ⟨_, rfl, Or.inl rfl⟩⟩
set_option maxRecDepth 100000 in
theorem fl10_238 : ∀ c ∈ ([4] : List Nat), FL "HandleModels" 238 c 4 := fun c hc => by
  cases List.mem_singleton.mp hc
  exact ⟨_, "HandleModels$Runner", rfl, by decide, (gd_of 148 rfl rfl), Or.inl rfl⟩
set_option maxRecDepth 100000 in
theorem fl10_235 : ∀ c ∈ ([4] : List Nat), FL "HandleModels" 235 c 5 := fun c hc => by
  cases List.mem_singleton.mp hc
  exact ⟨_, "HandleModels$Runner", rfl, by decide, (gd_of 150 rfl rfl), Or.inl rfl⟩
set_option maxRecDepth 100000 in
theorem okX10_keepResult : mOk miX10_keepResult 2 := ⟨(gd_of 470 rfl rfl), (gd_of 72 rfl rfl), by decide +kernel, ⟨by decide +kernel, by decide +kernel, by decide +kernel⟩, by decide⟩
def fX10_endRun (z : Nat → Nat) (a0 : Nat) (x1 : Int32) (h : aH) : Option (Int32 × aH) :=
  (wrF h a0 [8] 9 (.inl x1)).bind fun h101 =>
  (if x1 = 0 then
  (rdR h101 a0 [8] 6).bind fun r102 =>
  (r102).bind fun a103 =>
  (rdI h101 a103 [4] 4).bind fun x104 =>
  (rdR h101 a0 [8] 6).bind fun r105 =>
  (r105).bind fun a106 =>
  (rdJ h101 a106 [4] 5).bind fun j107 =>
  (obO h101 a0 8).bind fun fs109 =>
  (fX10_keepResult z a0 x104 j107 h101).bind fun q108 =>
  some (1, q108)
  else
  (obO h101 a0 8).bind fun fs111 =>
  (fX10_keepResult z a0 3 0 h101).bind fun q110 =>
  some (((-10) - x1), q110))
set_option maxHeartbeats 4000000 in
set_option maxRecDepth 100000 in
theorem xX10_endRun {l : Launch} {g : aG} {d : Nat} (hK : 1 ≤ d) {a0 : Nat} {x1 : Int32} {h : aH} {q : Int32 × aH} (hf : fX10_endRun g.2.2 a0 x1 h = some q) : Ev l g miX10_endRun d [.inr (.inr (some a0)), .inl x1] h (some (.inl q.1), q.2) := by
  obtain ⟨d, rfl⟩ : ∃ e, d = e + 1 := ⟨d - 1, by omega⟩
  refine ⟨?_, Or.inl rfl, Nat.le_of_ble_eq_true rfl⟩
  unfold fX10_endRun at hf
  show Y l g miX10_endRun (d + 1) 0 [some (.inr (.inr (some a0))), some (.inl x1)] [] h _
  refine y_aload_n (i := 0) dX10_endRun_0 rfl rfl ?_
  refine y_iload_n (i := 1) dX10_endRun_1 rfl rfl ?_
  replace hf := bnd hf
  obtain ⟨h101, eh101, hf⟩ := hf
  refine y_put eh101 (pl10_58_m rfl) dX10_endRun_2 ?_
  refine y_iload_n (i := 1) dX10_endRun_5 rfl rfl ?_
  refine y_if_eq (tgt := 20) dX10_endRun_6 (by decide) (fun hc => ?_) (fun hc => ?_)
  · rw [if_pos hc] at hf
    refine y_aload_n (i := 0) dX10_endRun_20 rfl rfl ?_
    refine y_aload_n (i := 0) dX10_endRun_21 rfl rfl ?_
    replace hf := bnd hf
    obtain ⟨r102, er102, hf⟩ := hf
    refine y_getR er102 fl10_47 dX10_endRun_22 ?_
    replace hf := bnd hf
    obtain ⟨a103, rfl, hf⟩ := hf
    replace hf := bnd hf
    obtain ⟨x104, ex104, hf⟩ := hf
    refine y_getI ex104 fl10_238 dX10_endRun_25 ?_
    refine y_aload_n (i := 0) dX10_endRun_28 rfl rfl ?_
    replace hf := bnd hf
    obtain ⟨r105, er105, hf⟩ := hf
    refine y_getR er105 fl10_47 dX10_endRun_29 ?_
    replace hf := bnd hf
    obtain ⟨a106, rfl, hf⟩ := hf
    replace hf := bnd hf
    obtain ⟨j107, ej107, hf⟩ := hf
    refine y_getJ ej107 fl10_235 dX10_endRun_32 ?_
    replace hf := bnd hf
    obtain ⟨fs109, efs109, hf⟩ := hf
    replace hf := bnd hf
    obtain ⟨q108, eq108, hf⟩ := hf
    refine y_callV (mj := miX10_keepResult) (args := [.inl x104, .inr (.inl j107)]) (st := []) dX10_endRun_35 (gd_of 467 rfl rfl) (gd_of 469 rfl rfl) (gd_of 4 rfl rfl) okX10_keepResult (obO_spec efs109) rfl rfl (xX10_keepResult (by omega) eq108) (Nat.le_of_ble_eq_true rfl) rfl ?_
    show Y l g miX10_endRun (d + 1) 38 [some (.inr (.inr (some a0))), some (.inl x1)] [] q108 _
    refine y_iconst (v := 1) dX10_endRun_38 (by decide) ?_
    obtain rfl := Option.some.inj hf
    exact y_ret (v := some (.inl 1)) dX10_endRun_39 rfl
  · rw [if_neg hc] at hf
    refine y_aload_n (i := 0) dX10_endRun_9 rfl rfl ?_
    refine y_iconst (v := 3) dX10_endRun_10 (by decide) ?_
    refine y_lconst (v := 0) dX10_endRun_11 (by decide) ?_
    replace hf := bnd hf
    obtain ⟨fs111, efs111, hf⟩ := hf
    replace hf := bnd hf
    obtain ⟨q110, eq110, hf⟩ := hf
    refine y_callV (mj := miX10_keepResult) (args := [.inl 3, .inr (.inl 0)]) (st := []) dX10_endRun_12 (gd_of 467 rfl rfl) (gd_of 469 rfl rfl) (gd_of 4 rfl rfl) okX10_keepResult (obO_spec efs111) rfl rfl (xX10_keepResult (by omega) eq110) (Nat.le_of_ble_eq_true rfl) rfl ?_
    show Y l g miX10_endRun (d + 1) 15 [some (.inr (.inr (some a0))), some (.inl x1)] [] q110 _
    refine y_bipush (v := (-10)) dX10_endRun_15 (by decide) ?_
    refine y_iload_n (i := 1) dX10_endRun_17 rfl rfl ?_
    refine y_isub dX10_endRun_18 ?_
    obtain rfl := Option.some.inj hf
    exact y_ret (v := some (.inl ((-10) - x1))) dX10_endRun_19 rfl
