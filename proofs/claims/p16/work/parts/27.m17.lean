set_option maxRecDepth 100000 in
theorem dX11_runs_0 : decode prog_13_method_48_code 0 = .ok (.aload_n 0, 1) := by decide +kernel
set_option maxRecDepth 100000 in
theorem dX11_runs_1 : decode prog_13_method_48_code 1 = .ok (.iload_n 1, 1) := by decide +kernel
set_option maxRecDepth 100000 in
theorem dX11_runs_2 : decode prog_13_method_48_code 2 = .ok (.invokevirtual 298, 3) := by decide +kernel
set_option maxRecDepth 100000 in
theorem dX11_runs_5 : decode prog_13_method_48_code 5 = .ok (.aload_n 0, 1) := by decide +kernel
set_option maxRecDepth 100000 in
theorem dX11_runs_6 : decode prog_13_method_48_code 6 = .ok (.getfield 173, 3) := by decide +kernel
set_option maxRecDepth 100000 in
theorem dX11_runs_9 : decode prog_13_method_48_code 9 = .ok (.ifCond .ne 17, 3) := by decide +kernel
set_option maxRecDepth 100000 in
theorem dX11_runs_12 : decode prog_13_method_48_code 12 = .ok (.aload_n 0, 1) := by decide +kernel
set_option maxRecDepth 100000 in
theorem dX11_runs_13 : decode prog_13_method_48_code 13 = .ok (.iconst 0, 1) := by decide +kernel
set_option maxRecDepth 100000 in
theorem dX11_runs_14 : decode prog_13_method_48_code 14 = .ok (.putfield 240, 3) := by decide +kernel
set_option maxRecDepth 100000 in
theorem dX11_runs_17 : decode prog_13_method_48_code 17 = .ok (.aload_n 0, 1) := by decide +kernel
set_option maxRecDepth 100000 in
theorem dX11_runs_18 : decode prog_13_method_48_code 18 = .ok (.iload_n 1, 1) := by decide +kernel
set_option maxRecDepth 100000 in
theorem dX11_runs_19 : decode prog_13_method_48_code 19 = .ok (.invokevirtual 259, 3) := by decide +kernel
set_option maxRecDepth 100000 in
theorem dX11_runs_22 : decode prog_13_method_48_code 22 = .ok (.aload_n 0, 1) := by decide +kernel
set_option maxRecDepth 100000 in
theorem dX11_runs_23 : decode prog_13_method_48_code 23 = .ok (.invokevirtual 301, 3) := by decide +kernel
set_option maxRecDepth 100000 in
theorem dX11_runs_26 : decode prog_13_method_48_code 26 = .ok (.return_, 1) := by decide +kernel
set_option maxRecDepth 100000 in
theorem okX11_lay : mOk miX11_lay 1 := ⟨(gd_of 996 rfl rfl), (gd_of 76 rfl rfl), by decide +kernel, ⟨by decide +kernel, by decide +kernel, by decide +kernel⟩, by decide⟩
set_option maxRecDepth 100000 in
theorem okX11_goes : mOk miX11_goes 0 := ⟨(gd_of 1012 rfl rfl), (gd_of 76 rfl rfl), by decide +kernel, ⟨by decide +kernel, by decide +kernel, by decide +kernel⟩, by decide⟩
def fX11_runs (z : Nat → Nat) (a0 : Nat) (x1 : Int32) (h : aH) : Option aH :=
  (obO h a0 9).bind fun fs102 =>
  (fX11_lay z a0 x1 h).bind fun q101 =>
  (rdI q101 a0 [9] 29).bind fun x103 =>
  (if x103 = 0 then
  (wrF q101 a0 [9] 33 (.inl 0)).bind fun h104 =>
  (obO h104 a0 9).bind fun fs106 =>
  (fX11_calls z a0 x1 h104).bind fun q105 =>
  (obO q105 a0 9).bind fun fs108 =>
  (fX11_goes z a0 q105).bind fun q107 =>
  some q107
  else
  some q101)
set_option maxHeartbeats 4000000 in
set_option maxRecDepth 100000 in
theorem xX11_runs {l : Launch} {g : aG} {d : Nat} (hK : 5 ≤ d) {a0 : Nat} {x1 : Int32} {h : aH} {q : aH} (hf : fX11_runs g.2.2 a0 x1 h = some q) : Ev l g miX11_runs d [.inr (.inr (some a0)), .inl x1] h (none, q) := by
  obtain ⟨d, rfl⟩ : ∃ e, d = e + 1 := ⟨d - 1, by omega⟩
  refine ⟨?_, rfl, Nat.le_of_ble_eq_true rfl⟩
  unfold fX11_runs at hf
  show Y l g miX11_runs (d + 1) 0 [some (.inr (.inr (some a0))), some (.inl x1)] [] h _
  refine y_aload_n (i := 0) dX11_runs_0 rfl rfl ?_
  refine y_iload_n (i := 1) dX11_runs_1 rfl rfl ?_
  replace hf := bnd hf
  obtain ⟨fs102, efs102, hf⟩ := hf
  replace hf := bnd hf
  obtain ⟨q101, eq101, hf⟩ := hf
  refine y_callV (mj := miX11_lay) (args := [.inl x1]) (st := []) dX11_runs_2 (gd_of 993 rfl rfl) (gd_of 995 rfl rfl) (gd_of 52 rfl rfl) okX11_lay (obO_spec efs102) rfl rfl (xX11_lay (by omega) eq101) (Nat.le_of_ble_eq_true rfl) rfl ?_
  show Y l g miX11_runs (d + 1) 5 [some (.inr (.inr (some a0))), some (.inl x1)] [] q101 _
  refine y_aload_n (i := 0) dX11_runs_5 rfl rfl ?_
  replace hf := bnd hf
  obtain ⟨x103, ex103, hf⟩ := hf
  refine y_getI ex103 fl11_173 dX11_runs_6 ?_
  refine y_if_ne (tgt := 26) dX11_runs_9 (by decide) (fun hc => ?_) (fun hc => ?_)
  · rw [if_neg hc] at hf
    obtain rfl := Option.some.inj hf
    exact y_ret (v := none) dX11_runs_26 rfl
  · rw [if_pos hc] at hf
    refine y_aload_n (i := 0) dX11_runs_12 rfl rfl ?_
    refine y_iconst (v := 0) dX11_runs_13 (by decide) ?_
    replace hf := bnd hf
    obtain ⟨h104, eh104, hf⟩ := hf
    refine y_put eh104 (pl11_240_m rfl) dX11_runs_14 ?_
    refine y_aload_n (i := 0) dX11_runs_17 rfl rfl ?_
    refine y_iload_n (i := 1) dX11_runs_18 rfl rfl ?_
    replace hf := bnd hf
    obtain ⟨fs106, efs106, hf⟩ := hf
    replace hf := bnd hf
    obtain ⟨q105, eq105, hf⟩ := hf
    refine y_callV (mj := miX11_calls) (args := [.inl x1]) (st := []) dX11_runs_19 (gd_of 1005 rfl rfl) (gd_of 1007 rfl rfl) (gd_of 55 rfl rfl) okX11_calls (obO_spec efs106) rfl rfl (xX11_calls (by omega) eq105) (Nat.le_of_ble_eq_true rfl) rfl ?_
    show Y l g miX11_runs (d + 1) 22 [some (.inr (.inr (some a0))), some (.inl x1)] [] q105 _
    refine y_aload_n (i := 0) dX11_runs_22 rfl rfl ?_
    replace hf := bnd hf
    obtain ⟨fs108, efs108, hf⟩ := hf
    replace hf := bnd hf
    obtain ⟨q107, eq107, hf⟩ := hf
    refine y_callV (mj := miX11_goes) (args := []) (st := []) dX11_runs_23 (gd_of 1009 rfl rfl) (gd_of 1011 rfl rfl) (gd_of 56 rfl rfl) okX11_goes (obO_spec efs108) rfl rfl (xX11_goes (by omega) eq107) (Nat.le_of_ble_eq_true rfl) rfl ?_
    show Y l g miX11_runs (d + 1) 26 [some (.inr (.inr (some a0))), some (.inl x1)] [] q107 _
    obtain rfl := Option.some.inj hf
    exact y_ret (v := none) dX11_runs_26 rfl
set_option maxRecDepth 100000 in
theorem dX11_tells_0 : decode prog_13_method_47_code 0 = .ok (.aload_n 0, 1) := by decide +kernel
set_option maxRecDepth 100000 in
theorem dX11_tells_1 : decode prog_13_method_47_code 1 = .ok (.aload_n 0, 1) := by decide +kernel
set_option maxRecDepth 100000 in
theorem dX11_tells_2 : decode prog_13_method_47_code 2 = .ok (.getfield 173, 3) := by decide +kernel
set_option maxRecDepth 100000 in
theorem dX11_tells_5 : decode prog_13_method_47_code 5 = .ok (.putfield 295, 3) := by decide +kernel
set_option maxRecDepth 100000 in
theorem dX11_tells_8 : decode prog_13_method_47_code 8 = .ok (.aload_n 0, 1) := by decide +kernel
set_option maxRecDepth 100000 in
theorem dX11_tells_9 : decode prog_13_method_47_code 9 = .ok (.getfield 173, 3) := by decide +kernel
set_option maxRecDepth 100000 in
theorem dX11_tells_12 : decode prog_13_method_47_code 12 = .ok (.ifCond .le 21, 3) := by decide +kernel
set_option maxRecDepth 100000 in
theorem dX11_tells_15 : decode prog_13_method_47_code 15 = .ok (.aload_n 0, 1) := by decide +kernel
set_option maxRecDepth 100000 in
theorem dX11_tells_16 : decode prog_13_method_47_code 16 = .ok (.iconst 3, 1) := by decide +kernel
set_option maxRecDepth 100000 in
theorem dX11_tells_17 : decode prog_13_method_47_code 17 = .ok (.putfield 69, 3) := by decide +kernel
set_option maxRecDepth 100000 in
theorem dX11_tells_20 : decode prog_13_method_47_code 20 = .ok (.aload_n 0, 1) := by decide +kernel
set_option maxRecDepth 100000 in
theorem dX11_tells_21 : decode prog_13_method_47_code 21 = .ok (.lconst 0, 1) := by decide +kernel
set_option maxRecDepth 100000 in
theorem dX11_tells_22 : decode prog_13_method_47_code 22 = .ok (.putfield 220, 3) := by decide +kernel
set_option maxRecDepth 100000 in
theorem dX11_tells_25 : decode prog_13_method_47_code 25 = .ok (.bipush (-10), 2) := by decide +kernel
set_option maxRecDepth 100000 in
theorem dX11_tells_27 : decode prog_13_method_47_code 27 = .ok (.aload_n 0, 1) := by decide +kernel
set_option maxRecDepth 100000 in
theorem dX11_tells_28 : decode prog_13_method_47_code 28 = .ok (.getfield 173, 3) := by decide +kernel
set_option maxRecDepth 100000 in
theorem dX11_tells_31 : decode prog_13_method_47_code 31 = .ok (.isub, 1) := by decide +kernel
set_option maxRecDepth 100000 in
theorem dX11_tells_32 : decode prog_13_method_47_code 32 = .ok (.ireturn, 1) := by decide +kernel
set_option maxRecDepth 100000 in
theorem dX11_tells_33 : decode prog_13_method_47_code 33 = .ok (.aload_n 0, 1) := by decide +kernel
set_option maxRecDepth 100000 in
theorem dX11_tells_34 : decode prog_13_method_47_code 34 = .ok (.aload_n 0, 1) := by decide +kernel
set_option maxRecDepth 100000 in
theorem dX11_tells_35 : decode prog_13_method_47_code 35 = .ok (.getfield 23, 3) := by decide +kernel
set_option maxRecDepth 100000 in
theorem dX11_tells_38 : decode prog_13_method_47_code 38 = .ok (.iload_n 1, 1) := by decide +kernel
set_option maxRecDepth 100000 in
theorem dX11_tells_39 : decode prog_13_method_47_code 39 = .ok (.iaload, 1) := by decide +kernel
set_option maxRecDepth 100000 in
theorem dX11_tells_40 : decode prog_13_method_47_code 40 = .ok (.iconst 4, 1) := by decide +kernel
set_option maxRecDepth 100000 in
theorem dX11_tells_41 : decode prog_13_method_47_code 41 = .ok (.if_icmp .ne 7, 3) := by decide +kernel
set_option maxRecDepth 100000 in
theorem dX11_tells_44 : decode prog_13_method_47_code 44 = .ok (.iconst 3, 1) := by decide +kernel
set_option maxRecDepth 100000 in
theorem dX11_tells_45 : decode prog_13_method_47_code 45 = .ok (.goto 7, 3) := by decide +kernel
set_option maxRecDepth 100000 in
theorem dX11_tells_48 : decode prog_13_method_47_code 48 = .ok (.aload_n 0, 1) := by decide +kernel
set_option maxRecDepth 100000 in
theorem dX11_tells_49 : decode prog_13_method_47_code 49 = .ok (.getfield 207, 3) := by decide +kernel
set_option maxRecDepth 100000 in
theorem dX11_tells_52 : decode prog_13_method_47_code 52 = .ok (.putfield 69, 3) := by decide +kernel
set_option maxRecDepth 100000 in
theorem dX11_tells_55 : decode prog_13_method_47_code 55 = .ok (.aload_n 0, 1) := by decide +kernel
set_option maxRecDepth 100000 in
theorem dX11_tells_56 : decode prog_13_method_47_code 56 = .ok (.aload_n 0, 1) := by decide +kernel
set_option maxRecDepth 100000 in
theorem dX11_tells_57 : decode prog_13_method_47_code 57 = .ok (.getfield 69, 3) := by decide +kernel
set_option maxRecDepth 100000 in
theorem dX11_tells_60 : decode prog_13_method_47_code 60 = .ok (.iconst 3, 1) := by decide +kernel
set_option maxRecDepth 100000 in
theorem dX11_tells_61 : decode prog_13_method_47_code 61 = .ok (.if_icmp .ne 7, 3) := by decide +kernel
set_option maxRecDepth 100000 in
theorem dX11_tells_64 : decode prog_13_method_47_code 64 = .ok (.lconst 0, 1) := by decide +kernel
set_option maxRecDepth 100000 in
theorem dX11_tells_65 : decode prog_13_method_47_code 65 = .ok (.goto 7, 3) := by decide +kernel
set_option maxRecDepth 100000 in
theorem dX11_tells_68 : decode prog_13_method_47_code 68 = .ok (.aload_n 0, 1) := by decide +kernel
set_option maxRecDepth 100000 in
theorem dX11_tells_69 : decode prog_13_method_47_code 69 = .ok (.getfield 210, 3) := by decide +kernel
set_option maxRecDepth 100000 in
theorem dX11_tells_72 : decode prog_13_method_47_code 72 = .ok (.putfield 220, 3) := by decide +kernel
set_option maxRecDepth 100000 in
theorem dX11_tells_75 : decode prog_13_method_47_code 75 = .ok (.iconst 1, 1) := by decide +kernel
set_option maxRecDepth 100000 in
theorem dX11_tells_76 : decode prog_13_method_47_code 76 = .ok (.ireturn, 1) := by decide +kernel
set_option maxRecDepth 100000 in
theorem fl11_295 : ∀ c ∈ ([9] : List Nat), FL "HandleModelsModel" 295 c 26 := fun c hc => by
  cases List.mem_singleton.mp hc
  exact ⟨_, "HandleModelsModel", rfl, by decide, (gd_of 754 rfl rfl), Or.inl rfl⟩
set_option maxRecDepth 100000 in
theorem pl11_295_m {mi : aM} {x : Int32} (ho : "HandleModelsModel" = mi.1.cls) : ∀ c ∈ ([9] : List Nat), FL mi.1.cls 295 c 26 ∧ FT c 26 (.inl x) ∧ FW mi c 26 := fun c h9 => by
  have h8 := fl11_295 c h9
  rw [← ho]
  refine ⟨h8, ?_⟩
  simp only [List.mem_cons, List.not_mem_nil, or_false] at h9
  rcases h9 with rfl
  · exact ⟨ft_int rfl (by decide +kernel), ⟨_, rfl, Or.inl rfl⟩⟩
def fX11_tells_52 (z : Nat → Nat) (a0 : Nat) (sr0 : Option Nat) (sx1 : Int32) (h : aH) : Option (Int32 × aH) :=
  (sr0).bind fun a101 =>
  (wrF h a101 [9] 23 (.inl sx1)).bind fun h102 =>
  (rdI h102 a0 [9] 23).bind fun x103 =>
  (if x103 = 3 then
  (wrF h102 a0 [9] 24 (.inr (.inl 0))).bind fun h106 =>
  some (1, h106)
  else
  (rdJ h102 a0 [9] 31).bind fun j104 =>
  (wrF h102 a0 [9] 24 (.inr (.inl j104))).bind fun h105 =>
  some (1, h105))
set_option maxHeartbeats 4000000 in
set_option maxRecDepth 100000 in
theorem xX11_tells_52 {l : Launch} {g : aG} {d : Nat} (hK : 0 ≤ d) {a0 : Nat} {sr0 : Option Nat} {sx1 : Int32} {h : aH} {q : Int32 × aH} (hf : fX11_tells_52 g.2.2 a0 sr0 sx1 h = some q) : Y l g miX11_tells d 52 [some (.inr (.inr (some a0))), none] [.inl sx1, .inr (.inr sr0)] h (some (.inl q.1), q.2) := by
  unfold fX11_tells_52 at hf
  replace hf := bnd hf
  obtain ⟨a101, rfl, hf⟩ := hf
  replace hf := bnd hf
  obtain ⟨h102, eh102, hf⟩ := hf
  refine y_put eh102 (pl11_69_m rfl) dX11_tells_52 ?_
  refine y_aload_n (i := 0) dX11_tells_55 rfl rfl ?_
  refine y_aload_n (i := 0) dX11_tells_56 rfl rfl ?_
  replace hf := bnd hf
  obtain ⟨x103, ex103, hf⟩ := hf
  refine y_getI ex103 fl11_69 dX11_tells_57 ?_
  refine y_iconst (v := 3) dX11_tells_60 (by decide) ?_
  refine y_icmp_ne (tgt := 68) dX11_tells_61 (by decide) (fun hc => ?_) (fun hc => ?_)
  · rw [if_neg hc] at hf
    refine y_aload_n (i := 0) dX11_tells_68 rfl rfl ?_
    replace hf := bnd hf
    obtain ⟨j104, ej104, hf⟩ := hf
    refine y_getJ ej104 fl11_210 dX11_tells_69 ?_
    replace hf := bnd hf
    obtain ⟨h105, eh105, hf⟩ := hf
    refine y_put eh105 (pl11_220_m rfl) dX11_tells_72 ?_
    refine y_iconst (v := 1) dX11_tells_75 (by decide) ?_
    obtain rfl := Option.some.inj hf
    exact y_ret (v := some (.inl 1)) dX11_tells_76 rfl
  · rw [if_pos hc] at hf
    refine y_lconst (v := 0) dX11_tells_64 (by decide) ?_
    refine y_goto (tgt := 72) dX11_tells_65 (by decide) ?_
    replace hf := bnd hf
    obtain ⟨h106, eh106, hf⟩ := hf
    refine y_put eh106 (pl11_220_m rfl) dX11_tells_72 ?_
    refine y_iconst (v := 1) dX11_tells_75 (by decide) ?_
    obtain rfl := Option.some.inj hf
    exact y_ret (v := some (.inl 1)) dX11_tells_76 rfl
def fX11_tells (z : Nat → Nat) (a0 : Nat) (x1 : Int32) (h : aH) : Option (Int32 × aH) :=
  (rdI h a0 [9] 29).bind fun x101 =>
  (wrF h a0 [9] 26 (.inl x101)).bind fun h102 =>
  (rdI h102 a0 [9] 29).bind fun x103 =>
  (if x103 ≤ 0 then
  (rdR h102 a0 [9] 5).bind fun r104 =>
  (r104).bind fun a105 =>
  (arI h102 a105 x1).bind fun x106 =>
  (if x106 = 4 then
  fX11_tells_52 z a0 (some a0) 3 h102
  else
  (rdI h102 a0 [9] 30).bind fun x107 =>
  fX11_tells_52 z a0 (some a0) x107 h102)
  else
  (wrF h102 a0 [9] 23 (.inl 3)).bind fun h108 =>
  (wrF h108 a0 [9] 24 (.inr (.inl 0))).bind fun h109 =>
  (rdI h109 a0 [9] 29).bind fun x110 =>
  some (((-10) - x110), h109))
set_option maxHeartbeats 4000000 in
set_option maxRecDepth 100000 in
theorem xX11_tells {l : Launch} {g : aG} {d : Nat} (hK : 0 ≤ d) {a0 : Nat} {x1 : Int32} {h : aH} {q : Int32 × aH} (hf : fX11_tells g.2.2 a0 x1 h = some q) : Ev l g miX11_tells d [.inr (.inr (some a0)), .inl x1] h (some (.inl q.1), q.2) := by
  refine ⟨?_, Or.inl rfl, Nat.le_of_ble_eq_true rfl⟩
  unfold fX11_tells at hf
  show Y l g miX11_tells d 0 [some (.inr (.inr (some a0))), some (.inl x1)] [] h _
  refine y_aload_n (i := 0) dX11_tells_0 rfl rfl ?_
  refine y_aload_n (i := 0) dX11_tells_1 rfl rfl ?_
  replace hf := bnd hf
  obtain ⟨x101, ex101, hf⟩ := hf
  refine y_getI ex101 fl11_173 dX11_tells_2 ?_
  replace hf := bnd hf
  obtain ⟨h102, eh102, hf⟩ := hf
  refine y_put eh102 (pl11_295_m rfl) dX11_tells_5 ?_
  refine y_aload_n (i := 0) dX11_tells_8 rfl rfl ?_
  replace hf := bnd hf
  obtain ⟨x103, ex103, hf⟩ := hf
  refine y_getI ex103 fl11_173 dX11_tells_9 ?_
  refine y_if_le (tgt := 33) dX11_tells_12 (by decide) (fun hc => ?_) (fun hc => ?_)
  · rw [if_pos hc] at hf
    refine y_aload_n (i := 0) dX11_tells_33 rfl rfl ?_
    refine y_aload_n (i := 0) dX11_tells_34 rfl rfl ?_
    replace hf := bnd hf
    obtain ⟨r104, er104, hf⟩ := hf
    refine y_getR er104 fl11_23 dX11_tells_35 ?_
    refine y_iload_n (i := 1) dX11_tells_38 rfl rfl ?_
    replace hf := bnd hf
    obtain ⟨a105, rfl, hf⟩ := hf
    replace hf := bnd hf
    obtain ⟨x106, ex106, hf⟩ := hf
    refine y_iaload ex106 dX11_tells_39 ?_
    refine y_iconst (v := 4) dX11_tells_40 (by decide) ?_
    refine y_icmp_ne (tgt := 48) dX11_tells_41 (by decide) (fun hc => ?_) (fun hc => ?_)
    · rw [if_neg hc] at hf
      refine y_aload_n (i := 0) dX11_tells_48 rfl rfl ?_
      replace hf := bnd hf
      obtain ⟨x107, ex107, hf⟩ := hf
      refine y_getI ex107 fl11_207 dX11_tells_49 ?_
      refine Y.weak (lv2 := [some (.inr (.inr (some a0))), none]) [true, false] rfl ?_
      exact xX11_tells_52 hK hf
    · rw [if_pos hc] at hf
      refine y_iconst (v := 3) dX11_tells_44 (by decide) ?_
      refine y_goto (tgt := 52) dX11_tells_45 (by decide) ?_
      refine Y.weak (lv2 := [some (.inr (.inr (some a0))), none]) [true, false] rfl ?_
      exact xX11_tells_52 hK hf
  · rw [if_neg hc] at hf
    refine y_aload_n (i := 0) dX11_tells_15 rfl rfl ?_
    refine y_iconst (v := 3) dX11_tells_16 (by decide) ?_
    replace hf := bnd hf
    obtain ⟨h108, eh108, hf⟩ := hf
    refine y_put eh108 (pl11_69_m rfl) dX11_tells_17 ?_
    refine y_aload_n (i := 0) dX11_tells_20 rfl rfl ?_
    refine y_lconst (v := 0) dX11_tells_21 (by decide) ?_
    replace hf := bnd hf
    obtain ⟨h109, eh109, hf⟩ := hf
    refine y_put eh109 (pl11_220_m rfl) dX11_tells_22 ?_
    refine y_bipush (v := (-10)) dX11_tells_25 (by decide) ?_
    refine y_aload_n (i := 0) dX11_tells_27 rfl rfl ?_
    replace hf := bnd hf
    obtain ⟨x110, ex110, hf⟩ := hf
    refine y_getI ex110 fl11_173 dX11_tells_28 ?_
    refine y_isub dX11_tells_31 ?_
    obtain rfl := Option.some.inj hf
    exact y_ret (v := some (.inl ((-10) - x110))) dX11_tells_32 rfl
set_option maxRecDepth 100000 in
theorem dX11_run_0 : decode prog_13_method_49_code 0 = .ok (.aload_n 0, 1) := by decide +kernel
set_option maxRecDepth 100000 in
theorem dX11_run_1 : decode prog_13_method_49_code 1 = .ok (.iconst 0, 1) := by decide +kernel
set_option maxRecDepth 100000 in
theorem dX11_run_2 : decode prog_13_method_49_code 2 = .ok (.putfield 1, 3) := by decide +kernel
set_option maxRecDepth 100000 in
theorem dX11_run_5 : decode prog_13_method_49_code 5 = .ok (.aload_n 0, 1) := by decide +kernel
set_option maxRecDepth 100000 in
theorem dX11_run_6 : decode prog_13_method_49_code 6 = .ok (.iload_n 1, 1) := by decide +kernel
set_option maxRecDepth 100000 in
theorem dX11_run_7 : decode prog_13_method_49_code 7 = .ok (.invokevirtual 194, 3) := by decide +kernel
set_option maxRecDepth 100000 in
theorem dX11_run_10 : decode prog_13_method_49_code 10 = .ok (.ifCond .ne 6, 3) := by decide +kernel
set_option maxRecDepth 100000 in
theorem dX11_run_13 : decode prog_13_method_49_code 13 = .ok (.bipush (-2), 2) := by decide +kernel
set_option maxRecDepth 100000 in
theorem dX11_run_15 : decode prog_13_method_49_code 15 = .ok (.ireturn, 1) := by decide +kernel
set_option maxRecDepth 100000 in
theorem dX11_run_16 : decode prog_13_method_49_code 16 = .ok (.aload_n 0, 1) := by decide +kernel
set_option maxRecDepth 100000 in
theorem dX11_run_17 : decode prog_13_method_49_code 17 = .ok (.iconst 0, 1) := by decide +kernel
set_option maxRecDepth 100000 in
theorem dX11_run_18 : decode prog_13_method_49_code 18 = .ok (.putfield 233, 3) := by decide +kernel
set_option maxRecDepth 100000 in
theorem dX11_run_21 : decode prog_13_method_49_code 21 = .ok (.aload_n 0, 1) := by decide +kernel
set_option maxRecDepth 100000 in
theorem dX11_run_22 : decode prog_13_method_49_code 22 = .ok (.bipush 7, 2) := by decide +kernel
set_option maxRecDepth 100000 in
theorem dX11_run_24 : decode prog_13_method_49_code 24 = .ok (.putfield 173, 3) := by decide +kernel
set_option maxRecDepth 100000 in
theorem dX11_run_27 : decode prog_13_method_49_code 27 = .ok (.aload_n 0, 1) := by decide +kernel
set_option maxRecDepth 100000 in
theorem dX11_run_28 : decode prog_13_method_49_code 28 = .ok (.iload_n 1, 1) := by decide +kernel
set_option maxRecDepth 100000 in
theorem dX11_run_29 : decode prog_13_method_49_code 29 = .ok (.iload_n 2, 1) := by decide +kernel
set_option maxRecDepth 100000 in
theorem dX11_run_30 : decode prog_13_method_49_code 30 = .ok (.invokevirtual 304, 3) := by decide +kernel
set_option maxRecDepth 100000 in
theorem dX11_run_33 : decode prog_13_method_49_code 33 = .ok (.ifCond .ne 8, 3) := by decide +kernel
set_option maxRecDepth 100000 in
theorem dX11_run_36 : decode prog_13_method_49_code 36 = .ok (.aload_n 0, 1) := by decide +kernel
set_option maxRecDepth 100000 in
theorem dX11_run_37 : decode prog_13_method_49_code 37 = .ok (.iload_n 1, 1) := by decide +kernel
set_option maxRecDepth 100000 in
theorem dX11_run_38 : decode prog_13_method_49_code 38 = .ok (.invokevirtual 308, 3) := by decide +kernel
set_option maxRecDepth 100000 in
theorem dX11_run_41 : decode prog_13_method_49_code 41 = .ok (.aload_n 0, 1) := by decide +kernel
set_option maxRecDepth 100000 in
theorem dX11_run_42 : decode prog_13_method_49_code 42 = .ok (.iload_n 1, 1) := by decide +kernel
set_option maxRecDepth 100000 in
theorem dX11_run_43 : decode prog_13_method_49_code 43 = .ok (.invokevirtual 311, 3) := by decide +kernel
set_option maxRecDepth 100000 in
theorem dX11_run_46 : decode prog_13_method_49_code 46 = .ok (.ireturn, 1) := by decide +kernel
set_option maxRecDepth 100000 in
theorem okX11_isWrong : mOk miX11_isWrong 2 := ⟨(gd_of 988 rfl rfl), (gd_of 76 rfl rfl), by decide +kernel, ⟨by decide +kernel, by decide +kernel, by decide +kernel⟩, by decide⟩
set_option maxRecDepth 100000 in
theorem okX11_tells : mOk miX11_tells 1 := ⟨(gd_of 1066 rfl rfl), (gd_of 76 rfl rfl), by decide +kernel, ⟨by decide +kernel, by decide +kernel, by decide +kernel⟩, by decide⟩
set_option maxRecDepth 100000 in
theorem okX11_runs : mOk miX11_runs 1 := ⟨(gd_of 992 rfl rfl), (gd_of 76 rfl rfl), by decide +kernel, ⟨by decide +kernel, by decide +kernel, by decide +kernel⟩, by decide⟩
def fX11_run (z : Nat → Nat) (a0 : Nat) (x1 : Int32) (x2 : Int32) (h : aH) : Option (Int32 × aH) :=
  (wrF h a0 [9] 0 (.inl 0)).bind fun h101 =>
  (obO h101 a0 9).bind fun fs103 =>
  (fX11_isHandle z a0 x1 h101).bind fun q102 =>
  (if q102.1 = 0 then
  some ((-2), q102.2)
  else
  (wrF q102.2 a0 [9] 32 (.inl 0)).bind fun h104 =>
  (wrF h104 a0 [9] 29 (.inl 7)).bind fun h105 =>
  (obO h105 a0 9).bind fun fs107 =>
  (fX11_isWrong z a0 x1 x2 h105).bind fun q106 =>
  (if q106.1 = 0 then
  (obO q106.2 a0 9).bind fun fs111 =>
  (fX11_runs z a0 x1 q106.2).bind fun q110 =>
  (obO q110 a0 9).bind fun fs113 =>
  (fX11_tells z a0 x1 q110).bind fun q112 =>
  some (q112.1, q112.2)
  else
  (obO q106.2 a0 9).bind fun fs109 =>
  (fX11_tells z a0 x1 q106.2).bind fun q108 =>
  some (q108.1, q108.2)))
set_option maxHeartbeats 4000000 in
set_option maxRecDepth 100000 in
theorem xX11_run {l : Launch} {g : aG} {d : Nat} (hK : 6 ≤ d) {a0 : Nat} {x1 : Int32} {x2 : Int32} {h : aH} {q : Int32 × aH} (hf : fX11_run g.2.2 a0 x1 x2 h = some q) : Ev l g miX11_run d [.inr (.inr (some a0)), .inl x1, .inl x2] h (some (.inl q.1), q.2) := by
  obtain ⟨d, rfl⟩ : ∃ e, d = e + 1 := ⟨d - 1, by omega⟩
  refine ⟨?_, Or.inl rfl, Nat.le_of_ble_eq_true rfl⟩
  unfold fX11_run at hf
  show Y l g miX11_run (d + 1) 0 [some (.inr (.inr (some a0))), some (.inl x1), some (.inl x2)] [] h _
  refine y_aload_n (i := 0) dX11_run_0 rfl rfl ?_
  refine y_iconst (v := 0) dX11_run_1 (by decide) ?_
  replace hf := bnd hf
  obtain ⟨h101, eh101, hf⟩ := hf
  refine y_put eh101 (pl11_1_m rfl) dX11_run_2 ?_
  refine y_aload_n (i := 0) dX11_run_5 rfl rfl ?_
  refine y_iload_n (i := 1) dX11_run_6 rfl rfl ?_
  replace hf := bnd hf
  obtain ⟨fs103, efs103, hf⟩ := hf
  replace hf := bnd hf
  obtain ⟨q102, eq102, hf⟩ := hf
  refine y_callV (mj := miX11_isHandle) (args := [.inl x1]) (st := []) dX11_run_7 (gd_of 897 rfl rfl) (gd_of 899 rfl rfl) (gd_of 38 rfl rfl) okX11_isHandle (obO_spec efs103) rfl rfl (xX11_isHandle (by omega) eq102) (Nat.le_of_ble_eq_true rfl) rfl ?_
  show Y l g miX11_run (d + 1) 10 [some (.inr (.inr (some a0))), some (.inl x1), some (.inl x2)] [.inl q102.1] q102.2 _
  refine y_if_ne (tgt := 16) dX11_run_10 (by decide) (fun hc => ?_) (fun hc => ?_)
  · rw [if_neg hc] at hf
    refine y_aload_n (i := 0) dX11_run_16 rfl rfl ?_
    refine y_iconst (v := 0) dX11_run_17 (by decide) ?_
    replace hf := bnd hf
    obtain ⟨h104, eh104, hf⟩ := hf
    refine y_put eh104 (pl11_233_m rfl) dX11_run_18 ?_
    refine y_aload_n (i := 0) dX11_run_21 rfl rfl ?_
    refine y_bipush (v := 7) dX11_run_22 (by decide) ?_
    replace hf := bnd hf
    obtain ⟨h105, eh105, hf⟩ := hf
    refine y_put eh105 (pl11_173_m rfl) dX11_run_24 ?_
    refine y_aload_n (i := 0) dX11_run_27 rfl rfl ?_
    refine y_iload_n (i := 1) dX11_run_28 rfl rfl ?_
    refine y_iload_n (i := 2) dX11_run_29 rfl rfl ?_
    replace hf := bnd hf
    obtain ⟨fs107, efs107, hf⟩ := hf
    replace hf := bnd hf
    obtain ⟨q106, eq106, hf⟩ := hf
    refine y_callV (mj := miX11_isWrong) (args := [.inl x1, .inl x2]) (st := []) dX11_run_30 (gd_of 985 rfl rfl) (gd_of 987 rfl rfl) (gd_of 50 rfl rfl) okX11_isWrong (obO_spec efs107) rfl rfl (xX11_isWrong (by omega) eq106) (Nat.le_of_ble_eq_true rfl) rfl ?_
    show Y l g miX11_run (d + 1) 33 [some (.inr (.inr (some a0))), some (.inl x1), some (.inl x2)] [.inl q106.1] q106.2 _
    refine y_if_ne (tgt := 41) dX11_run_33 (by decide) (fun hc => ?_) (fun hc => ?_)
    · rw [if_neg hc] at hf
      refine y_aload_n (i := 0) dX11_run_41 rfl rfl ?_
      refine y_iload_n (i := 1) dX11_run_42 rfl rfl ?_
      replace hf := bnd hf
      obtain ⟨fs109, efs109, hf⟩ := hf
      replace hf := bnd hf
      obtain ⟨q108, eq108, hf⟩ := hf
      refine y_callV (mj := miX11_tells) (args := [.inl x1]) (st := []) dX11_run_43 (gd_of 1063 rfl rfl) (gd_of 1065 rfl rfl) (gd_of 69 rfl rfl) okX11_tells (obO_spec efs109) rfl rfl (xX11_tells (by omega) eq108) (Nat.le_of_ble_eq_true rfl) rfl ?_
      show Y l g miX11_run (d + 1) 46 [some (.inr (.inr (some a0))), some (.inl x1), some (.inl x2)] [.inl q108.1] q108.2 _
      obtain rfl := Option.some.inj hf
      exact y_ret (v := some (.inl q108.1)) dX11_run_46 rfl
    · rw [if_pos hc] at hf
      refine y_aload_n (i := 0) dX11_run_36 rfl rfl ?_
      refine y_iload_n (i := 1) dX11_run_37 rfl rfl ?_
      replace hf := bnd hf
      obtain ⟨fs111, efs111, hf⟩ := hf
      replace hf := bnd hf
      obtain ⟨q110, eq110, hf⟩ := hf
      refine y_callV (mj := miX11_runs) (args := [.inl x1]) (st := []) dX11_run_38 (gd_of 989 rfl rfl) (gd_of 991 rfl rfl) (gd_of 51 rfl rfl) okX11_runs (obO_spec efs111) rfl rfl (xX11_runs (by omega) eq110) (Nat.le_of_ble_eq_true rfl) rfl ?_
      show Y l g miX11_run (d + 1) 41 [some (.inr (.inr (some a0))), some (.inl x1), some (.inl x2)] [] q110 _
      refine y_aload_n (i := 0) dX11_run_41 rfl rfl ?_
      refine y_iload_n (i := 1) dX11_run_42 rfl rfl ?_
      replace hf := bnd hf
      obtain ⟨fs113, efs113, hf⟩ := hf
      replace hf := bnd hf
      obtain ⟨q112, eq112, hf⟩ := hf
      refine y_callV (mj := miX11_tells) (args := [.inl x1]) (st := []) dX11_run_43 (gd_of 1063 rfl rfl) (gd_of 1065 rfl rfl) (gd_of 69 rfl rfl) okX11_tells (obO_spec efs113) rfl rfl (xX11_tells (by omega) eq112) (Nat.le_of_ble_eq_true rfl) rfl ?_
      show Y l g miX11_run (d + 1) 46 [some (.inr (.inr (some a0))), some (.inl x1), some (.inl x2)] [.inl q112.1] q112.2 _
      obtain rfl := Option.some.inj hf
      exact y_ret (v := some (.inl q112.1)) dX11_run_46 rfl
  · rw [if_pos hc] at hf
    refine y_bipush (v := (-2)) dX11_run_13 (by decide) ?_
    obtain rfl := Option.some.inj hf
    exact y_ret (v := some (.inl (-2))) dX11_run_15 rfl
set_option maxRecDepth 100000 in
theorem dX11_areAlike_0 : decode prog_13_method_51_code 0 = .ok (.aload_n 0, 1) := by decide +kernel
set_option maxRecDepth 100000 in
theorem dX11_areAlike_1 : decode prog_13_method_51_code 1 = .ok (.getfield 17, 3) := by decide +kernel
set_option maxRecDepth 100000 in
theorem dX11_areAlike_4 : decode prog_13_method_51_code 4 = .ok (.iload_n 1, 1) := by decide +kernel
set_option maxRecDepth 100000 in
theorem dX11_areAlike_5 : decode prog_13_method_51_code 5 = .ok (.iaload, 1) := by decide +kernel
set_option maxRecDepth 100000 in
theorem dX11_areAlike_6 : decode prog_13_method_51_code 6 = .ok (.aload_n 0, 1) := by decide +kernel
set_option maxRecDepth 100000 in
theorem dX11_areAlike_7 : decode prog_13_method_51_code 7 = .ok (.getfield 17, 3) := by decide +kernel
set_option maxRecDepth 100000 in
theorem dX11_areAlike_10 : decode prog_13_method_51_code 10 = .ok (.iload_n 2, 1) := by decide +kernel
set_option maxRecDepth 100000 in
theorem dX11_areAlike_11 : decode prog_13_method_51_code 11 = .ok (.iaload, 1) := by decide +kernel
set_option maxRecDepth 100000 in
theorem dX11_areAlike_12 : decode prog_13_method_51_code 12 = .ok (.if_icmp .ne 33, 3) := by decide +kernel
set_option maxRecDepth 100000 in
theorem dX11_areAlike_15 : decode prog_13_method_51_code 15 = .ok (.aload_n 0, 1) := by decide +kernel
set_option maxRecDepth 100000 in
theorem dX11_areAlike_16 : decode prog_13_method_51_code 16 = .ok (.iload_n 1, 1) := by decide +kernel
set_option maxRecDepth 100000 in
theorem dX11_areAlike_17 : decode prog_13_method_51_code 17 = .ok (.iconst 0, 1) := by decide +kernel
set_option maxRecDepth 100000 in
theorem dX11_areAlike_18 : decode prog_13_method_51_code 18 = .ok (.iload_n 2, 1) := by decide +kernel
set_option maxRecDepth 100000 in
theorem dX11_areAlike_19 : decode prog_13_method_51_code 19 = .ok (.iconst 0, 1) := by decide +kernel
set_option maxRecDepth 100000 in
theorem dX11_areAlike_20 : decode prog_13_method_51_code 20 = .ok (.invokevirtual 190, 3) := by decide +kernel
set_option maxRecDepth 100000 in
theorem dX11_areAlike_23 : decode prog_13_method_51_code 23 = .ok (.ifCond .eq 22, 3) := by decide +kernel
set_option maxRecDepth 100000 in
theorem dX11_areAlike_26 : decode prog_13_method_51_code 26 = .ok (.aload_n 0, 1) := by decide +kernel
set_option maxRecDepth 100000 in
theorem dX11_areAlike_27 : decode prog_13_method_51_code 27 = .ok (.getfield 23, 3) := by decide +kernel
set_option maxRecDepth 100000 in
theorem dX11_areAlike_30 : decode prog_13_method_51_code 30 = .ok (.iload_n 1, 1) := by decide +kernel
set_option maxRecDepth 100000 in
theorem dX11_areAlike_31 : decode prog_13_method_51_code 31 = .ok (.iaload, 1) := by decide +kernel
set_option maxRecDepth 100000 in
theorem dX11_areAlike_32 : decode prog_13_method_51_code 32 = .ok (.aload_n 0, 1) := by decide +kernel
set_option maxRecDepth 100000 in
theorem dX11_areAlike_33 : decode prog_13_method_51_code 33 = .ok (.getfield 23, 3) := by decide +kernel
set_option maxRecDepth 100000 in
theorem dX11_areAlike_36 : decode prog_13_method_51_code 36 = .ok (.iload_n 2, 1) := by decide +kernel
set_option maxRecDepth 100000 in
theorem dX11_areAlike_37 : decode prog_13_method_51_code 37 = .ok (.iaload, 1) := by decide +kernel
set_option maxRecDepth 100000 in
theorem dX11_areAlike_38 : decode prog_13_method_51_code 38 = .ok (.if_icmp .ne 7, 3) := by decide +kernel
set_option maxRecDepth 100000 in
theorem dX11_areAlike_41 : decode prog_13_method_51_code 41 = .ok (.iconst 1, 1) := by decide +kernel
set_option maxRecDepth 100000 in
theorem dX11_areAlike_42 : decode prog_13_method_51_code 42 = .ok (.goto 4, 3) := by decide +kernel
set_option maxRecDepth 100000 in
theorem dX11_areAlike_45 : decode prog_13_method_51_code 45 = .ok (.iconst 0, 1) := by decide +kernel
set_option maxRecDepth 100000 in
theorem dX11_areAlike_46 : decode prog_13_method_51_code 46 = .ok (.ireturn, 1) := by decide +kernel

def fX11_areAlike_e (z : Nat → Nat) (a0 : Nat) (x1 : Int32) (x2 : Int32) (h : aH) : Option (Int32 × aH) :=
  (rdR h a0 [9] 3).bind fun r101 =>
  (r101).bind fun a102 =>
  (arI h a102 x1).bind fun x103 =>
  (rdR h a0 [9] 3).bind fun r104 =>
  (r104).bind fun a105 =>
  (arI h a105 x2).bind fun x106 =>
  (if x103 = x106 then
  (obO h a0 9).bind fun fs108 =>
  (fX11_begins z a0 x1 0 x2 0 h).bind fun q107 =>
  (if q107.1 = 0 then
  some (0, q107.2)
  else
  (rdR q107.2 a0 [9] 5).bind fun r109 =>
  (r109).bind fun a110 =>
  (arI q107.2 a110 x1).bind fun x111 =>
  (rdR q107.2 a0 [9] 5).bind fun r112 =>
  (r112).bind fun a113 =>
  (arI q107.2 a113 x2).bind fun x114 =>
  (if x111 = x114 then
  some (1, q107.2)
  else
  some (0, q107.2)))
  else
  some (0, h))
def fX11_areAlike (z : Nat → Nat) (a0 : Nat) (x1 : Int32) (x2 : Int32) (h : aH) : Option (Int32 × aH) := chkB (fX11_areAlike_e z a0 x1 x2 h)
set_option maxHeartbeats 4000000 in
set_option maxRecDepth 100000 in
theorem xX11_areAlike {l : Launch} {g : aG} {d : Nat} (hK : 1 ≤ d) {a0 : Nat} {x1 : Int32} {x2 : Int32} {h : aH} {q : Int32 × aH} (hf : fX11_areAlike g.2.2 a0 x1 x2 h = some q) : Ev l g miX11_areAlike d [.inr (.inr (some a0)), .inl x1, .inl x2] h (some (.inl q.1), q.2) := by
  obtain ⟨d, rfl⟩ : ∃ e, d = e + 1 := ⟨d - 1, by omega⟩
  replace hf := chkB_spec hf
  obtain ⟨hf, hb⟩ := hf
  refine ⟨?_, Or.inr ⟨rfl, hb⟩, Nat.le_of_ble_eq_true rfl⟩
  unfold fX11_areAlike_e at hf
  show Y l g miX11_areAlike (d + 1) 0 [some (.inr (.inr (some a0))), some (.inl x1), some (.inl x2)] [] h _
  refine y_aload_n (i := 0) dX11_areAlike_0 rfl rfl ?_
  replace hf := bnd hf
  obtain ⟨r101, er101, hf⟩ := hf
  refine y_getR er101 fl11_17 dX11_areAlike_1 ?_
  refine y_iload_n (i := 1) dX11_areAlike_4 rfl rfl ?_
  replace hf := bnd hf
  obtain ⟨a102, rfl, hf⟩ := hf
  replace hf := bnd hf
  obtain ⟨x103, ex103, hf⟩ := hf
  refine y_iaload ex103 dX11_areAlike_5 ?_
  refine y_aload_n (i := 0) dX11_areAlike_6 rfl rfl ?_
  replace hf := bnd hf
  obtain ⟨r104, er104, hf⟩ := hf
  refine y_getR er104 fl11_17 dX11_areAlike_7 ?_
  refine y_iload_n (i := 2) dX11_areAlike_10 rfl rfl ?_
  replace hf := bnd hf
  obtain ⟨a105, rfl, hf⟩ := hf
  replace hf := bnd hf
  obtain ⟨x106, ex106, hf⟩ := hf
  refine y_iaload ex106 dX11_areAlike_11 ?_
  refine y_icmp_ne (tgt := 45) dX11_areAlike_12 (by decide) (fun hc => ?_) (fun hc => ?_)
  · rw [if_neg hc] at hf
    refine y_iconst (v := 0) dX11_areAlike_45 (by decide) ?_
    obtain rfl := Option.some.inj hf
    exact y_ret (v := some (.inl 0)) dX11_areAlike_46 rfl
  · rw [if_pos hc] at hf
    refine y_aload_n (i := 0) dX11_areAlike_15 rfl rfl ?_
    refine y_iload_n (i := 1) dX11_areAlike_16 rfl rfl ?_
    refine y_iconst (v := 0) dX11_areAlike_17 (by decide) ?_
    refine y_iload_n (i := 2) dX11_areAlike_18 rfl rfl ?_
    refine y_iconst (v := 0) dX11_areAlike_19 (by decide) ?_
    replace hf := bnd hf
    obtain ⟨fs108, efs108, hf⟩ := hf
    replace hf := bnd hf
    obtain ⟨q107, eq107, hf⟩ := hf
    refine y_callV (mj := miX11_begins) (args := [.inl x1, .inl 0, .inl x2, .inl 0]) (st := []) dX11_areAlike_20 (gd_of 952 rfl rfl) (gd_of 954 rfl rfl) (gd_of 48 rfl rfl) okX11_begins (obO_spec efs108) rfl rfl (xX11_begins (by omega) eq107) (Nat.le_of_ble_eq_true rfl) rfl ?_
    show Y l g miX11_areAlike (d + 1) 23 [some (.inr (.inr (some a0))), some (.inl x1), some (.inl x2)] [.inl q107.1] q107.2 _
    refine y_if_eq (tgt := 45) dX11_areAlike_23 (by decide) (fun hc => ?_) (fun hc => ?_)
    · rw [if_pos hc] at hf
      refine y_iconst (v := 0) dX11_areAlike_45 (by decide) ?_
      obtain rfl := Option.some.inj hf
      exact y_ret (v := some (.inl 0)) dX11_areAlike_46 rfl
    · rw [if_neg hc] at hf
      refine y_aload_n (i := 0) dX11_areAlike_26 rfl rfl ?_
      replace hf := bnd hf
      obtain ⟨r109, er109, hf⟩ := hf
      refine y_getR er109 fl11_23 dX11_areAlike_27 ?_
      refine y_iload_n (i := 1) dX11_areAlike_30 rfl rfl ?_
      replace hf := bnd hf
      obtain ⟨a110, rfl, hf⟩ := hf
      replace hf := bnd hf
      obtain ⟨x111, ex111, hf⟩ := hf
      refine y_iaload ex111 dX11_areAlike_31 ?_
      refine y_aload_n (i := 0) dX11_areAlike_32 rfl rfl ?_
      replace hf := bnd hf
      obtain ⟨r112, er112, hf⟩ := hf
      refine y_getR er112 fl11_23 dX11_areAlike_33 ?_
      refine y_iload_n (i := 2) dX11_areAlike_36 rfl rfl ?_
      replace hf := bnd hf
      obtain ⟨a113, rfl, hf⟩ := hf
      replace hf := bnd hf
      obtain ⟨x114, ex114, hf⟩ := hf
      refine y_iaload ex114 dX11_areAlike_37 ?_
      refine y_icmp_ne (tgt := 45) dX11_areAlike_38 (by decide) (fun hc => ?_) (fun hc => ?_)
      · rw [if_neg hc] at hf
        refine y_iconst (v := 0) dX11_areAlike_45 (by decide) ?_
        obtain rfl := Option.some.inj hf
        exact y_ret (v := some (.inl 0)) dX11_areAlike_46 rfl
      · rw [if_pos hc] at hf
        refine y_iconst (v := 1) dX11_areAlike_41 (by decide) ?_
        refine y_goto (tgt := 46) dX11_areAlike_42 (by decide) ?_
        obtain rfl := Option.some.inj hf
        exact y_ret (v := some (.inl 1)) dX11_areAlike_46 rfl
set_option maxRecDepth 100000 in
theorem dX11_runSite_0 : decode prog_13_method_52_code 0 = .ok (.aload_n 0, 1) := by decide +kernel
set_option maxRecDepth 100000 in
theorem dX11_runSite_1 : decode prog_13_method_52_code 1 = .ok (.iconst 0, 1) := by decide +kernel
set_option maxRecDepth 100000 in
theorem dX11_runSite_2 : decode prog_13_method_52_code 2 = .ok (.putfield 1, 3) := by decide +kernel
set_option maxRecDepth 100000 in
theorem dX11_runSite_5 : decode prog_13_method_52_code 5 = .ok (.iload_n 1, 1) := by decide +kernel
set_option maxRecDepth 100000 in
theorem dX11_runSite_6 : decode prog_13_method_52_code 6 = .ok (.i2l, 1) := by decide +kernel
set_option maxRecDepth 100000 in
theorem dX11_runSite_7 : decode prog_13_method_52_code 7 = .ok (.lconst 0, 1) := by decide +kernel
set_option maxRecDepth 100000 in
theorem dX11_runSite_8 : decode prog_13_method_52_code 8 = .ok (.aload_n 0, 1) := by decide +kernel
set_option maxRecDepth 100000 in
theorem dX11_runSite_9 : decode prog_13_method_52_code 9 = .ok (.getfield 314, 3) := by decide +kernel
set_option maxRecDepth 100000 in
theorem dX11_runSite_12 : decode prog_13_method_52_code 12 = .ok (.iconst 1, 1) := by decide +kernel
set_option maxRecDepth 100000 in
theorem dX11_runSite_13 : decode prog_13_method_52_code 13 = .ok (.isub, 1) := by decide +kernel
set_option maxRecDepth 100000 in
theorem dX11_runSite_14 : decode prog_13_method_52_code 14 = .ok (.i2l, 1) := by decide +kernel
set_option maxRecDepth 100000 in
theorem dX11_runSite_15 : decode prog_13_method_52_code 15 = .ok (.invokestatic 111, 3) := by decide +kernel
set_option maxRecDepth 100000 in
theorem dX11_runSite_18 : decode prog_13_method_52_code 18 = .ok (.ifCond .ne 6, 3) := by decide +kernel
set_option maxRecDepth 100000 in
theorem dX11_runSite_21 : decode prog_13_method_52_code 21 = .ok (.bipush (-2), 2) := by decide +kernel
set_option maxRecDepth 100000 in
theorem dX11_runSite_23 : decode prog_13_method_52_code 23 = .ok (.ireturn, 1) := by decide +kernel
set_option maxRecDepth 100000 in
theorem dX11_runSite_24 : decode prog_13_method_52_code 24 = .ok (.aload_n 0, 1) := by decide +kernel
set_option maxRecDepth 100000 in
theorem dX11_runSite_25 : decode prog_13_method_52_code 25 = .ok (.iconst 0, 1) := by decide +kernel
set_option maxRecDepth 100000 in
theorem dX11_runSite_26 : decode prog_13_method_52_code 26 = .ok (.putfield 233, 3) := by decide +kernel
set_option maxRecDepth 100000 in
theorem dX11_runSite_29 : decode prog_13_method_52_code 29 = .ok (.aload_n 0, 1) := by decide +kernel
set_option maxRecDepth 100000 in
theorem dX11_runSite_30 : decode prog_13_method_52_code 30 = .ok (.getfield 54, 3) := by decide +kernel
set_option maxRecDepth 100000 in
theorem dX11_runSite_33 : decode prog_13_method_52_code 33 = .ok (.iload_n 1, 1) := by decide +kernel
set_option maxRecDepth 100000 in
theorem dX11_runSite_34 : decode prog_13_method_52_code 34 = .ok (.iaload, 1) := by decide +kernel
set_option maxRecDepth 100000 in
theorem dX11_runSite_35 : decode prog_13_method_52_code 35 = .ok (.istore_n 3, 1) := by decide +kernel
set_option maxRecDepth 100000 in
theorem dX11_runSite_36 : decode prog_13_method_52_code 36 = .ok (.aload_n 0, 1) := by decide +kernel
set_option maxRecDepth 100000 in
theorem dX11_runSite_37 : decode prog_13_method_52_code 37 = .ok (.iload_n 3, 1) := by decide +kernel
set_option maxRecDepth 100000 in
theorem dX11_runSite_38 : decode prog_13_method_52_code 38 = .ok (.iload_n 2, 1) := by decide +kernel
set_option maxRecDepth 100000 in
theorem dX11_runSite_39 : decode prog_13_method_52_code 39 = .ok (.invokevirtual 304, 3) := by decide +kernel
set_option maxRecDepth 100000 in
theorem dX11_runSite_42 : decode prog_13_method_52_code 42 = .ok (.ifCond .eq 15, 3) := by decide +kernel
set_option maxRecDepth 100000 in
theorem dX11_runSite_45 : decode prog_13_method_52_code 45 = .ok (.aload_n 0, 1) := by decide +kernel
set_option maxRecDepth 100000 in
theorem dX11_runSite_46 : decode prog_13_method_52_code 46 = .ok (.bipush 7, 2) := by decide +kernel
set_option maxRecDepth 100000 in
theorem dX11_runSite_48 : decode prog_13_method_52_code 48 = .ok (.putfield 173, 3) := by decide +kernel
set_option maxRecDepth 100000 in
theorem dX11_runSite_51 : decode prog_13_method_52_code 51 = .ok (.aload_n 0, 1) := by decide +kernel
set_option maxRecDepth 100000 in
theorem dX11_runSite_52 : decode prog_13_method_52_code 52 = .ok (.iload_n 3, 1) := by decide +kernel
set_option maxRecDepth 100000 in
theorem dX11_runSite_53 : decode prog_13_method_52_code 53 = .ok (.invokevirtual 311, 3) := by decide +kernel
set_option maxRecDepth 100000 in
theorem dX11_runSite_56 : decode prog_13_method_52_code 56 = .ok (.ireturn, 1) := by decide +kernel
set_option maxRecDepth 100000 in
theorem dX11_runSite_57 : decode prog_13_method_52_code 57 = .ok (.aload_n 0, 1) := by decide +kernel
set_option maxRecDepth 100000 in
theorem dX11_runSite_58 : decode prog_13_method_52_code 58 = .ok (.iload_n 3, 1) := by decide +kernel
set_option maxRecDepth 100000 in
theorem dX11_runSite_59 : decode prog_13_method_52_code 59 = .ok (.invokevirtual 298, 3) := by decide +kernel
set_option maxRecDepth 100000 in
theorem dX11_runSite_62 : decode prog_13_method_52_code 62 = .ok (.aload_n 0, 1) := by decide +kernel
set_option maxRecDepth 100000 in
theorem dX11_runSite_63 : decode prog_13_method_52_code 63 = .ok (.getfield 173, 3) := by decide +kernel
set_option maxRecDepth 100000 in
theorem dX11_runSite_66 : decode prog_13_method_52_code 66 = .ok (.ifCond .ne 115, 3) := by decide +kernel
set_option maxRecDepth 100000 in
theorem dX11_runSite_69 : decode prog_13_method_52_code 69 = .ok (.aload_n 0, 1) := by decide +kernel
set_option maxRecDepth 100000 in
theorem dX11_runSite_70 : decode prog_13_method_52_code 70 = .ok (.getfield 60, 3) := by decide +kernel
set_option maxRecDepth 100000 in
theorem dX11_runSite_73 : decode prog_13_method_52_code 73 = .ok (.iload_n 1, 1) := by decide +kernel
set_option maxRecDepth 100000 in
theorem dX11_runSite_74 : decode prog_13_method_52_code 74 = .ok (.iaload, 1) := by decide +kernel
set_option maxRecDepth 100000 in
theorem dX11_runSite_75 : decode prog_13_method_52_code 75 = .ok (.ifCond .ge 106, 3) := by decide +kernel
set_option maxRecDepth 100000 in
theorem dX11_runSite_78 : decode prog_13_method_52_code 78 = .ok (.aload_n 0, 1) := by decide +kernel
set_option maxRecDepth 100000 in
theorem dX11_runSite_79 : decode prog_13_method_52_code 79 = .ok (.invokevirtual 262, 3) := by decide +kernel
set_option maxRecDepth 100000 in
theorem dX11_runSite_82 : decode prog_13_method_52_code 82 = .ok (.aload_n 0, 1) := by decide +kernel
set_option maxRecDepth 100000 in
theorem dX11_runSite_83 : decode prog_13_method_52_code 83 = .ok (.iconst 0, 1) := by decide +kernel
set_option maxRecDepth 100000 in
theorem dX11_runSite_84 : decode prog_13_method_52_code 84 = .ok (.putfield 240, 3) := by decide +kernel
set_option maxRecDepth 100000 in
theorem dX11_runSite_87 : decode prog_13_method_52_code 87 = .ok (.aload_n 0, 1) := by decide +kernel
set_option maxRecDepth 100000 in
theorem dX11_runSite_88 : decode prog_13_method_52_code 88 = .ok (.aload_n 0, 1) := by decide +kernel
set_option maxRecDepth 100000 in
theorem dX11_runSite_89 : decode prog_13_method_52_code 89 = .ok (.getfield 57, 3) := by decide +kernel
set_option maxRecDepth 100000 in
theorem dX11_runSite_92 : decode prog_13_method_52_code 92 = .ok (.iload_n 1, 1) := by decide +kernel
set_option maxRecDepth 100000 in
theorem dX11_runSite_93 : decode prog_13_method_52_code 93 = .ok (.iaload, 1) := by decide +kernel
set_option maxRecDepth 100000 in
theorem dX11_runSite_94 : decode prog_13_method_52_code 94 = .ok (.invokevirtual 259, 3) := by decide +kernel
set_option maxRecDepth 100000 in
theorem dX11_runSite_97 : decode prog_13_method_52_code 97 = .ok (.aload_n 0, 1) := by decide +kernel
set_option maxRecDepth 100000 in
theorem dX11_runSite_98 : decode prog_13_method_52_code 98 = .ok (.invokevirtual 301, 3) := by decide +kernel
set_option maxRecDepth 100000 in
theorem dX11_runSite_101 : decode prog_13_method_52_code 101 = .ok (.aload_n 0, 1) := by decide +kernel
set_option maxRecDepth 100000 in
theorem dX11_runSite_102 : decode prog_13_method_52_code 102 = .ok (.getfield 173, 3) := by decide +kernel
set_option maxRecDepth 100000 in
theorem dX11_runSite_105 : decode prog_13_method_52_code 105 = .ok (.ifCond .ne 76, 3) := by decide +kernel
set_option maxRecDepth 100000 in
theorem dX11_runSite_108 : decode prog_13_method_52_code 108 = .ok (.aload_n 0, 1) := by decide +kernel
set_option maxRecDepth 100000 in
theorem dX11_runSite_109 : decode prog_13_method_52_code 109 = .ok (.getfield 210, 3) := by decide +kernel
set_option maxRecDepth 100000 in
theorem dX11_runSite_112 : decode prog_13_method_52_code 112 = .ok (.lconst 0, 1) := by decide +kernel
set_option maxRecDepth 100000 in
theorem dX11_runSite_113 : decode prog_13_method_52_code 113 = .ok (.aload_n 0, 1) := by decide +kernel
set_option maxRecDepth 100000 in
theorem dX11_runSite_114 : decode prog_13_method_52_code 114 = .ok (.getfield 108, 3) := by decide +kernel
set_option maxRecDepth 100000 in
theorem dX11_runSite_117 : decode prog_13_method_52_code 117 = .ok (.iconst 1, 1) := by decide +kernel
set_option maxRecDepth 100000 in
theorem dX11_runSite_118 : decode prog_13_method_52_code 118 = .ok (.isub, 1) := by decide +kernel
set_option maxRecDepth 100000 in
theorem dX11_runSite_119 : decode prog_13_method_52_code 119 = .ok (.i2l, 1) := by decide +kernel
set_option maxRecDepth 100000 in
theorem dX11_runSite_120 : decode prog_13_method_52_code 120 = .ok (.invokestatic 111, 3) := by decide +kernel
set_option maxRecDepth 100000 in
theorem dX11_runSite_123 : decode prog_13_method_52_code 123 = .ok (.ifCond .eq 20, 3) := by decide +kernel
set_option maxRecDepth 100000 in
theorem dX11_runSite_126 : decode prog_13_method_52_code 126 = .ok (.aload_n 0, 1) := by decide +kernel
set_option maxRecDepth 100000 in
theorem dX11_runSite_127 : decode prog_13_method_52_code 127 = .ok (.aload_n 0, 1) := by decide +kernel
set_option maxRecDepth 100000 in
theorem dX11_runSite_128 : decode prog_13_method_52_code 128 = .ok (.getfield 210, 3) := by decide +kernel
set_option maxRecDepth 100000 in
theorem dX11_runSite_131 : decode prog_13_method_52_code 131 = .ok (.l2i, 1) := by decide +kernel
set_option maxRecDepth 100000 in
theorem dX11_runSite_132 : decode prog_13_method_52_code 132 = .ok (.iload_n 3, 1) := by decide +kernel
set_option maxRecDepth 100000 in
theorem dX11_runSite_133 : decode prog_13_method_52_code 133 = .ok (.invokevirtual 317, 3) := by decide +kernel
set_option maxRecDepth 100000 in
theorem dX11_runSite_136 : decode prog_13_method_52_code 136 = .ok (.ifCond .eq 7, 3) := by decide +kernel
set_option maxRecDepth 100000 in
theorem dX11_runSite_139 : decode prog_13_method_52_code 139 = .ok (.iconst 1, 1) := by decide +kernel
set_option maxRecDepth 100000 in
theorem dX11_runSite_140 : decode prog_13_method_52_code 140 = .ok (.goto 4, 3) := by decide +kernel
set_option maxRecDepth 100000 in
theorem dX11_runSite_143 : decode prog_13_method_52_code 143 = .ok (.iconst 0, 1) := by decide +kernel
set_option maxRecDepth 100000 in
theorem dX11_runSite_144 : decode prog_13_method_52_code 144 = .ok (.istore 4, 2) := by decide +kernel
set_option maxRecDepth 100000 in
theorem dX11_runSite_146 : decode prog_13_method_52_code 146 = .ok (.aload_n 0, 1) := by decide +kernel
set_option maxRecDepth 100000 in
theorem dX11_runSite_147 : decode prog_13_method_52_code 147 = .ok (.getfield 60, 3) := by decide +kernel
set_option maxRecDepth 100000 in
theorem dX11_runSite_150 : decode prog_13_method_52_code 150 = .ok (.iload_n 1, 1) := by decide +kernel
set_option maxRecDepth 100000 in
theorem dX11_runSite_151 : decode prog_13_method_52_code 151 = .ok (.iload 4, 2) := by decide +kernel
set_option maxRecDepth 100000 in
theorem dX11_runSite_153 : decode prog_13_method_52_code 153 = .ok (.ifCond .eq 11, 3) := by decide +kernel
set_option maxRecDepth 100000 in
theorem dX11_runSite_156 : decode prog_13_method_52_code 156 = .ok (.aload_n 0, 1) := by decide +kernel
set_option maxRecDepth 100000 in
theorem dX11_runSite_157 : decode prog_13_method_52_code 157 = .ok (.getfield 210, 3) := by decide +kernel
set_option maxRecDepth 100000 in
theorem dX11_runSite_160 : decode prog_13_method_52_code 160 = .ok (.l2i, 1) := by decide +kernel
set_option maxRecDepth 100000 in
theorem dX11_runSite_161 : decode prog_13_method_52_code 161 = .ok (.goto 4, 3) := by decide +kernel
set_option maxRecDepth 100000 in
theorem dX11_runSite_164 : decode prog_13_method_52_code 164 = .ok (.iconst (-1), 1) := by decide +kernel
set_option maxRecDepth 100000 in
theorem dX11_runSite_165 : decode prog_13_method_52_code 165 = .ok (.iastore, 1) := by decide +kernel
set_option maxRecDepth 100000 in
theorem dX11_runSite_166 : decode prog_13_method_52_code 166 = .ok (.aload_n 0, 1) := by decide +kernel
set_option maxRecDepth 100000 in
theorem dX11_runSite_167 : decode prog_13_method_52_code 167 = .ok (.iload 4, 2) := by decide +kernel
set_option maxRecDepth 100000 in
theorem dX11_runSite_169 : decode prog_13_method_52_code 169 = .ok (.ifCond .eq 7, 3) := by decide +kernel
set_option maxRecDepth 100000 in
theorem dX11_runSite_172 : decode prog_13_method_52_code 172 = .ok (.iconst 0, 1) := by decide +kernel
set_option maxRecDepth 100000 in
theorem dX11_runSite_173 : decode prog_13_method_52_code 173 = .ok (.goto 5, 3) := by decide +kernel
set_option maxRecDepth 100000 in
theorem dX11_runSite_176 : decode prog_13_method_52_code 176 = .ok (.bipush 8, 2) := by decide +kernel
set_option maxRecDepth 100000 in
theorem dX11_runSite_178 : decode prog_13_method_52_code 178 = .ok (.putfield 173, 3) := by decide +kernel
set_option maxRecDepth 100000 in
theorem dX11_runSite_181 : decode prog_13_method_52_code 181 = .ok (.aload_n 0, 1) := by decide +kernel
set_option maxRecDepth 100000 in
theorem dX11_runSite_182 : decode prog_13_method_52_code 182 = .ok (.getfield 173, 3) := by decide +kernel
set_option maxRecDepth 100000 in
theorem dX11_runSite_185 : decode prog_13_method_52_code 185 = .ok (.ifCond .ne 13, 3) := by decide +kernel
set_option maxRecDepth 100000 in
theorem dX11_runSite_188 : decode prog_13_method_52_code 188 = .ok (.aload_n 0, 1) := by decide +kernel
set_option maxRecDepth 100000 in
theorem dX11_runSite_189 : decode prog_13_method_52_code 189 = .ok (.aload_n 0, 1) := by decide +kernel
set_option maxRecDepth 100000 in
theorem dX11_runSite_190 : decode prog_13_method_52_code 190 = .ok (.getfield 60, 3) := by decide +kernel
set_option maxRecDepth 100000 in
theorem dX11_runSite_193 : decode prog_13_method_52_code 193 = .ok (.iload_n 1, 1) := by decide +kernel
set_option maxRecDepth 100000 in
theorem dX11_runSite_194 : decode prog_13_method_52_code 194 = .ok (.iaload, 1) := by decide +kernel
set_option maxRecDepth 100000 in
theorem dX11_runSite_195 : decode prog_13_method_52_code 195 = .ok (.invokevirtual 308, 3) := by decide +kernel
set_option maxRecDepth 100000 in
theorem dX11_runSite_198 : decode prog_13_method_52_code 198 = .ok (.aload_n 0, 1) := by decide +kernel
set_option maxRecDepth 100000 in
theorem dX11_runSite_199 : decode prog_13_method_52_code 199 = .ok (.iload_n 3, 1) := by decide +kernel
set_option maxRecDepth 100000 in
theorem dX11_runSite_200 : decode prog_13_method_52_code 200 = .ok (.invokevirtual 311, 3) := by decide +kernel
set_option maxRecDepth 100000 in
theorem dX11_runSite_203 : decode prog_13_method_52_code 203 = .ok (.ireturn, 1) := by decide +kernel
set_option maxRecDepth 100000 in
theorem okX11_areAlike : mOk miX11_areAlike 2 := ⟨(gd_of 1078 rfl rfl), (gd_of 76 rfl rfl), by decide +kernel, ⟨by decide +kernel, by decide +kernel, by decide +kernel⟩, by decide⟩
def fX11_runSite_181 (z : Nat → Nat) (a0 : Nat) (x1 : Int32) (x3 : Int32) (h : aH) : Option (Int32 × aH) :=
  (rdI h a0 [9] 29).bind fun x101 =>
  (if x101 = 0 then
  (rdR h a0 [9] 19).bind fun r104 =>
  (r104).bind fun a105 =>
  (arI h a105 x1).bind fun x106 =>
  (obO h a0 9).bind fun fs108 =>
  (fX11_runs z a0 x106 h).bind fun q107 =>
  (obO q107 a0 9).bind fun fs110 =>
  (fX11_tells z a0 x3 q107).bind fun q109 =>
  some (q109.1, q109.2)
  else
  (obO h a0 9).bind fun fs103 =>
  (fX11_tells z a0 x3 h).bind fun q102 =>
  some (q102.1, q102.2))
set_option maxHeartbeats 4000000 in
set_option maxRecDepth 100000 in
theorem xX11_runSite_181 {l : Launch} {g : aG} {d : Nat} (hK : 6 ≤ d + 1) {a0 : Nat} {x1 : Int32} {x3 : Int32} {h : aH} {q : Int32 × aH} (hf : fX11_runSite_181 g.2.2 a0 x1 x3 h = some q) : Y l g miX11_runSite (d + 1) 181 [some (.inr (.inr (some a0))), some (.inl x1), none, some (.inl x3), none] [] h (some (.inl q.1), q.2) := by
  unfold fX11_runSite_181 at hf
  refine y_aload_n (i := 0) dX11_runSite_181 rfl rfl ?_
  replace hf := bnd hf
  obtain ⟨x101, ex101, hf⟩ := hf
  refine y_getI ex101 fl11_173 dX11_runSite_182 ?_
  refine y_if_ne (tgt := 198) dX11_runSite_185 (by decide) (fun hc => ?_) (fun hc => ?_)
  · rw [if_neg hc] at hf
    refine y_aload_n (i := 0) dX11_runSite_198 rfl rfl ?_
    refine y_iload_n (i := 3) dX11_runSite_199 rfl rfl ?_
    replace hf := bnd hf
    obtain ⟨fs103, efs103, hf⟩ := hf
    replace hf := bnd hf
    obtain ⟨q102, eq102, hf⟩ := hf
    refine y_callV (mj := miX11_tells) (args := [.inl x3]) (st := []) dX11_runSite_200 (gd_of 1063 rfl rfl) (gd_of 1065 rfl rfl) (gd_of 69 rfl rfl) okX11_tells (obO_spec efs103) rfl rfl (xX11_tells (by omega) eq102) (Nat.le_of_ble_eq_true rfl) rfl ?_
    show Y l g miX11_runSite (d + 1) 203 [some (.inr (.inr (some a0))), some (.inl x1), none, some (.inl x3), none] [.inl q102.1] q102.2 _
    obtain rfl := Option.some.inj hf
    exact y_ret (v := some (.inl q102.1)) dX11_runSite_203 rfl
  · rw [if_pos hc] at hf
    refine y_aload_n (i := 0) dX11_runSite_188 rfl rfl ?_
    refine y_aload_n (i := 0) dX11_runSite_189 rfl rfl ?_
    replace hf := bnd hf
    obtain ⟨r104, er104, hf⟩ := hf
    refine y_getR er104 fl11_60 dX11_runSite_190 ?_
    refine y_iload_n (i := 1) dX11_runSite_193 rfl rfl ?_
    replace hf := bnd hf
    obtain ⟨a105, rfl, hf⟩ := hf
    replace hf := bnd hf
    obtain ⟨x106, ex106, hf⟩ := hf
    refine y_iaload ex106 dX11_runSite_194 ?_
    replace hf := bnd hf
    obtain ⟨fs108, efs108, hf⟩ := hf
    replace hf := bnd hf
    obtain ⟨q107, eq107, hf⟩ := hf
    refine y_callV (mj := miX11_runs) (args := [.inl x106]) (st := []) dX11_runSite_195 (gd_of 989 rfl rfl) (gd_of 991 rfl rfl) (gd_of 51 rfl rfl) okX11_runs (obO_spec efs108) rfl rfl (xX11_runs (by omega) eq107) (Nat.le_of_ble_eq_true rfl) rfl ?_
    show Y l g miX11_runSite (d + 1) 198 [some (.inr (.inr (some a0))), some (.inl x1), none, some (.inl x3), none] [] q107 _
    refine y_aload_n (i := 0) dX11_runSite_198 rfl rfl ?_
    refine y_iload_n (i := 3) dX11_runSite_199 rfl rfl ?_
    replace hf := bnd hf
    obtain ⟨fs110, efs110, hf⟩ := hf
    replace hf := bnd hf
    obtain ⟨q109, eq109, hf⟩ := hf
    refine y_callV (mj := miX11_tells) (args := [.inl x3]) (st := []) dX11_runSite_200 (gd_of 1063 rfl rfl) (gd_of 1065 rfl rfl) (gd_of 69 rfl rfl) okX11_tells (obO_spec efs110) rfl rfl (xX11_tells (by omega) eq109) (Nat.le_of_ble_eq_true rfl) rfl ?_
    show Y l g miX11_runSite (d + 1) 203 [some (.inr (.inr (some a0))), some (.inl x1), none, some (.inl x3), none] [.inl q109.1] q109.2 _
    obtain rfl := Option.some.inj hf
    exact y_ret (v := some (.inl q109.1)) dX11_runSite_203 rfl
def fX11_runSite_178 (z : Nat → Nat) (a0 : Nat) (x1 : Int32) (x3 : Int32) (sr0 : Option Nat) (sx1 : Int32) (h : aH) : Option (Int32 × aH) :=
  (sr0).bind fun a101 =>
  (wrF h a101 [9] 29 (.inl sx1)).bind fun h102 =>
  fX11_runSite_181 z a0 x1 x3 h102
set_option maxHeartbeats 4000000 in
set_option maxRecDepth 100000 in
theorem xX11_runSite_178 {l : Launch} {g : aG} {d : Nat} (hK : 6 ≤ d + 1) {a0 : Nat} {x1 : Int32} {x3 : Int32} {sr0 : Option Nat} {sx1 : Int32} {h : aH} {q : Int32 × aH} (hf : fX11_runSite_178 g.2.2 a0 x1 x3 sr0 sx1 h = some q) : Y l g miX11_runSite (d + 1) 178 [some (.inr (.inr (some a0))), some (.inl x1), none, some (.inl x3), none] [.inl sx1, .inr (.inr sr0)] h (some (.inl q.1), q.2) := by
  unfold fX11_runSite_178 at hf
  replace hf := bnd hf
  obtain ⟨a101, rfl, hf⟩ := hf
  replace hf := bnd hf
  obtain ⟨h102, eh102, hf⟩ := hf
  refine y_put eh102 (pl11_173_m rfl) dX11_runSite_178 ?_
  refine Y.weak (lv2 := [some (.inr (.inr (some a0))), some (.inl x1), none, some (.inl x3), none]) [true, true, false, true, false] rfl ?_
  exact xX11_runSite_181 hK hf
def fX11_runSite_165 (z : Nat → Nat) (a0 : Nat) (x1 : Int32) (x3 : Int32) (x4 : Int32) (sr0 : Option Nat) (sx1 : Int32) (sx2 : Int32) (h : aH) : Option (Int32 × aH) :=
  (sr0).bind fun a101 =>
  (awI h a101 sx1 sx2).bind fun h102 =>
  (if x4 = 0 then
  fX11_runSite_178 z a0 x1 x3 (some a0) 8 h102
  else
  fX11_runSite_178 z a0 x1 x3 (some a0) 0 h102)
set_option maxHeartbeats 4000000 in
set_option maxRecDepth 100000 in
theorem xX11_runSite_165 {l : Launch} {g : aG} {d : Nat} (hK : 6 ≤ d + 1) {a0 : Nat} {x1 : Int32} {x3 : Int32} {x4 : Int32} {sr0 : Option Nat} {sx1 : Int32} {sx2 : Int32} {h : aH} {q : Int32 × aH} (hf : fX11_runSite_165 g.2.2 a0 x1 x3 x4 sr0 sx1 sx2 h = some q) : Y l g miX11_runSite (d + 1) 165 [some (.inr (.inr (some a0))), some (.inl x1), none, some (.inl x3), some (.inl x4)] [.inl sx2, .inl sx1, .inr (.inr sr0)] h (some (.inl q.1), q.2) := by
  unfold fX11_runSite_165 at hf
  replace hf := bnd hf
  obtain ⟨a101, rfl, hf⟩ := hf
  replace hf := bnd hf
  obtain ⟨h102, eh102, hf⟩ := hf
  refine y_iastore eh102 dX11_runSite_165 ?_
  refine y_aload_n (i := 0) dX11_runSite_166 rfl rfl ?_
  refine y_iload (i := 4) dX11_runSite_167 rfl ?_
  refine y_if_eq (tgt := 176) dX11_runSite_169 (by decide) (fun hc => ?_) (fun hc => ?_)
  · rw [if_pos hc] at hf
    refine y_bipush (v := 8) dX11_runSite_176 (by decide) ?_
    refine Y.weak (lv2 := [some (.inr (.inr (some a0))), some (.inl x1), none, some (.inl x3), none]) [true, true, false, true, false] rfl ?_
    exact xX11_runSite_178 hK hf
  · rw [if_neg hc] at hf
    refine y_iconst (v := 0) dX11_runSite_172 (by decide) ?_
    refine y_goto (tgt := 178) dX11_runSite_173 (by decide) ?_
    refine Y.weak (lv2 := [some (.inr (.inr (some a0))), some (.inl x1), none, some (.inl x3), none]) [true, true, false, true, false] rfl ?_
    exact xX11_runSite_178 hK hf
def fX11_runSite_144 (z : Nat → Nat) (a0 : Nat) (x1 : Int32) (x3 : Int32) (sx0 : Int32) (h : aH) : Option (Int32 × aH) :=
  (rdR h a0 [9] 19).bind fun r101 =>
  (if sx0 = 0 then
  fX11_runSite_165 z a0 x1 x3 sx0 r101 x1 (-1) h
  else
  (rdJ h a0 [9] 31).bind fun j102 =>
  fX11_runSite_165 z a0 x1 x3 sx0 r101 x1 (Int64.toInt32 j102) h)
set_option maxHeartbeats 4000000 in
set_option maxRecDepth 100000 in
theorem xX11_runSite_144 {l : Launch} {g : aG} {d : Nat} (hK : 6 ≤ d + 1) {a0 : Nat} {x1 : Int32} {x3 : Int32} {sx0 : Int32} {h : aH} {q : Int32 × aH} (hf : fX11_runSite_144 g.2.2 a0 x1 x3 sx0 h = some q) : Y l g miX11_runSite (d + 1) 144 [some (.inr (.inr (some a0))), some (.inl x1), none, some (.inl x3), none] [.inl sx0] h (some (.inl q.1), q.2) := by
  unfold fX11_runSite_144 at hf
  refine y_istore (i := 4) (lv2 := [some (.inr (.inr (some a0))), some (.inl x1), none, some (.inl x3), some (.inl sx0)]) dX11_runSite_144 (by decide) rfl ?_
  refine y_aload_n (i := 0) dX11_runSite_146 rfl rfl ?_
  replace hf := bnd hf
  obtain ⟨r101, er101, hf⟩ := hf
  refine y_getR er101 fl11_60 dX11_runSite_147 ?_
  refine y_iload_n (i := 1) dX11_runSite_150 rfl rfl ?_
  refine y_iload (i := 4) dX11_runSite_151 rfl ?_
  refine y_if_eq (tgt := 164) dX11_runSite_153 (by decide) (fun hc => ?_) (fun hc => ?_)
  · rw [if_pos hc] at hf
    refine y_iconst (v := (-1)) dX11_runSite_164 (by decide) ?_
    refine Y.weak (lv2 := [some (.inr (.inr (some a0))), some (.inl x1), none, some (.inl x3), some (.inl sx0)]) [true, true, false, true, true] rfl ?_
    exact xX11_runSite_165 hK hf
  · rw [if_neg hc] at hf
    refine y_aload_n (i := 0) dX11_runSite_156 rfl rfl ?_
    replace hf := bnd hf
    obtain ⟨j102, ej102, hf⟩ := hf
    refine y_getJ ej102 fl11_210 dX11_runSite_157 ?_
    refine y_l2i dX11_runSite_160 ?_
    refine y_goto (tgt := 165) dX11_runSite_161 (by decide) ?_
    refine Y.weak (lv2 := [some (.inr (.inr (some a0))), some (.inl x1), none, some (.inl x3), some (.inl sx0)]) [true, true, false, true, true] rfl ?_
    exact xX11_runSite_165 hK hf
def fX11_runSite_143 (z : Nat → Nat) (a0 : Nat) (x1 : Int32) (x3 : Int32) (h : aH) : Option (Int32 × aH) :=
  fX11_runSite_144 z a0 x1 x3 0 h
set_option maxHeartbeats 4000000 in
set_option maxRecDepth 100000 in
theorem xX11_runSite_143 {l : Launch} {g : aG} {d : Nat} (hK : 6 ≤ d + 1) {a0 : Nat} {x1 : Int32} {x3 : Int32} {h : aH} {q : Int32 × aH} (hf : fX11_runSite_143 g.2.2 a0 x1 x3 h = some q) : Y l g miX11_runSite (d + 1) 143 [some (.inr (.inr (some a0))), some (.inl x1), none, some (.inl x3), none] [] h (some (.inl q.1), q.2) := by
  unfold fX11_runSite_143 at hf
  refine y_iconst (v := 0) dX11_runSite_143 (by decide) ?_
  refine Y.weak (lv2 := [some (.inr (.inr (some a0))), some (.inl x1), none, some (.inl x3), none]) [true, true, false, true, false] rfl ?_
  exact xX11_runSite_144 hK hf
def fX11_runSite (z : Nat → Nat) (a0 : Nat) (x1 : Int32) (x2 : Int32) (h : aH) : Option (Int32 × aH) :=
  (wrF h a0 [9] 0 (.inl 0)).bind fun h101 =>
  (rdI h101 a0 [9] 16).bind fun x102 =>
  (fX11_in z (Int32.toInt64 x1) 0 (Int32.toInt64 (x102 - 1)) h101).bind fun q103 =>
  (if q103.1 = 0 then
  some ((-2), q103.2)
  else
  (wrF q103.2 a0 [9] 32 (.inl 0)).bind fun h104 =>
  (rdR h104 a0 [9] 17).bind fun r105 =>
  (r105).bind fun a106 =>
  (arI h104 a106 x1).bind fun x107 =>
  (obO h104 a0 9).bind fun fs109 =>
  (fX11_isWrong z a0 x107 x2 h104).bind fun q108 =>
  (if q108.1 = 0 then
  (obO q108.2 a0 9).bind fun fs111 =>
  (fX11_lay z a0 x107 q108.2).bind fun q110 =>
  (rdI q110 a0 [9] 29).bind fun x112 =>
  (if x112 = 0 then
  (rdR q110 a0 [9] 19).bind fun r113 =>
  (r113).bind fun a114 =>
  (arI q110 a114 x1).bind fun x115 =>
  (if 0 ≤ x115 then
  fX11_runSite_181 z a0 x1 x107 q110
  else
  (obO q110 a0 9).bind fun fs117 =>
  (fX11_begin z a0 q110).bind fun q116 =>
  (wrF q116 a0 [9] 33 (.inl 0)).bind fun h118 =>
  (rdR h118 a0 [9] 18).bind fun r119 =>
  (r119).bind fun a120 =>
  (arI h118 a120 x1).bind fun x121 =>
  (obO h118 a0 9).bind fun fs123 =>
  (fX11_calls z a0 x121 h118).bind fun q122 =>
  (obO q122 a0 9).bind fun fs125 =>
  (fX11_goes z a0 q122).bind fun q124 =>
  (rdI q124 a0 [9] 29).bind fun x126 =>
  (if x126 = 0 then
  (rdJ q124 a0 [9] 31).bind fun j127 =>
  (rdI q124 a0 [9] 1).bind fun x128 =>
  (fX11_in z j127 0 (Int32.toInt64 (x128 - 1)) q124).bind fun q129 =>
  (if q129.1 = 0 then
  fX11_runSite_143 z a0 x1 x107 q129.2
  else
  (rdJ q129.2 a0 [9] 31).bind fun j130 =>
  (obO q129.2 a0 9).bind fun fs132 =>
  (fX11_areAlike z a0 (Int64.toInt32 j130) x107 q129.2).bind fun q131 =>
  (if q131.1 = 0 then
  fX11_runSite_143 z a0 x1 x107 q131.2
  else
  fX11_runSite_144 z a0 x1 x107 1 q131.2))
  else
  fX11_runSite_181 z a0 x1 x107 q124))
  else
  fX11_runSite_181 z a0 x1 x107 q110)
  else
  (wrF q108.2 a0 [9] 29 (.inl 7)).bind fun h133 =>
  (obO h133 a0 9).bind fun fs135 =>
  (fX11_tells z a0 x107 h133).bind fun q134 =>
  some (q134.1, q134.2)))
set_option maxHeartbeats 4000000 in
set_option maxRecDepth 100000 in
theorem xX11_runSite {l : Launch} {g : aG} {d : Nat} (hK : 6 ≤ d) {a0 : Nat} {x1 : Int32} {x2 : Int32} {h : aH} {q : Int32 × aH} (hf : fX11_runSite g.2.2 a0 x1 x2 h = some q) : Ev l g miX11_runSite d [.inr (.inr (some a0)), .inl x1, .inl x2] h (some (.inl q.1), q.2) := by
  obtain ⟨d, rfl⟩ : ∃ e, d = e + 1 := ⟨d - 1, by omega⟩
  refine ⟨?_, Or.inl rfl, Nat.le_of_ble_eq_true rfl⟩
  unfold fX11_runSite at hf
  show Y l g miX11_runSite (d + 1) 0 [some (.inr (.inr (some a0))), some (.inl x1), some (.inl x2), none, none] [] h _
  refine y_aload_n (i := 0) dX11_runSite_0 rfl rfl ?_
  refine y_iconst (v := 0) dX11_runSite_1 (by decide) ?_
  replace hf := bnd hf
  obtain ⟨h101, eh101, hf⟩ := hf
  refine y_put eh101 (pl11_1_m rfl) dX11_runSite_2 ?_
  refine y_iload_n (i := 1) dX11_runSite_5 rfl rfl ?_
  refine y_i2l dX11_runSite_6 ?_
  refine y_lconst (v := 0) dX11_runSite_7 (by decide) ?_
  refine y_aload_n (i := 0) dX11_runSite_8 rfl rfl ?_
  replace hf := bnd hf
  obtain ⟨x102, ex102, hf⟩ := hf
  refine y_getI ex102 fl11_314 dX11_runSite_9 ?_
  refine y_iconst (v := 1) dX11_runSite_12 (by decide) ?_
  refine y_isub dX11_runSite_13 ?_
  refine y_i2l dX11_runSite_14 ?_
  replace hf := bnd hf
  obtain ⟨q103, eq103, hf⟩ := hf
  refine y_callS (mj := miX11_in) (args := [.inr (.inl (Int32.toInt64 x1)), .inr (.inl 0), .inr (.inl (Int32.toInt64 (x102 - 1)))]) (st := []) dX11_runSite_15 (gd_of 878 rfl rfl) (gd_of 879 rfl rfl) okX11_in (xX11_in (by omega) eq103) (Nat.le_of_ble_eq_true rfl) rfl ?_
  show Y l g miX11_runSite (d + 1) 18 [some (.inr (.inr (some a0))), some (.inl x1), some (.inl x2), none, none] [.inl q103.1] q103.2 _
  refine y_if_ne (tgt := 24) dX11_runSite_18 (by decide) (fun hc => ?_) (fun hc => ?_)
  · rw [if_neg hc] at hf
    refine y_aload_n (i := 0) dX11_runSite_24 rfl rfl ?_
    refine y_iconst (v := 0) dX11_runSite_25 (by decide) ?_
    replace hf := bnd hf
    obtain ⟨h104, eh104, hf⟩ := hf
    refine y_put eh104 (pl11_233_m rfl) dX11_runSite_26 ?_
    refine y_aload_n (i := 0) dX11_runSite_29 rfl rfl ?_
    replace hf := bnd hf
    obtain ⟨r105, er105, hf⟩ := hf
    refine y_getR er105 fl11_54 dX11_runSite_30 ?_
    refine y_iload_n (i := 1) dX11_runSite_33 rfl rfl ?_
    replace hf := bnd hf
    obtain ⟨a106, rfl, hf⟩ := hf
    replace hf := bnd hf
    obtain ⟨x107, ex107, hf⟩ := hf
    refine y_iaload ex107 dX11_runSite_34 ?_
    refine y_istore_n (i := 3) (lv2 := [some (.inr (.inr (some a0))), some (.inl x1), some (.inl x2), some (.inl x107), none]) dX11_runSite_35 rfl (by decide) rfl ?_
    refine y_aload_n (i := 0) dX11_runSite_36 rfl rfl ?_
    refine y_iload_n (i := 3) dX11_runSite_37 rfl rfl ?_
    refine y_iload_n (i := 2) dX11_runSite_38 rfl rfl ?_
    replace hf := bnd hf
    obtain ⟨fs109, efs109, hf⟩ := hf
    replace hf := bnd hf
    obtain ⟨q108, eq108, hf⟩ := hf
    refine y_callV (mj := miX11_isWrong) (args := [.inl x107, .inl x2]) (st := []) dX11_runSite_39 (gd_of 985 rfl rfl) (gd_of 987 rfl rfl) (gd_of 50 rfl rfl) okX11_isWrong (obO_spec efs109) rfl rfl (xX11_isWrong (by omega) eq108) (Nat.le_of_ble_eq_true rfl) rfl ?_
    show Y l g miX11_runSite (d + 1) 42 [some (.inr (.inr (some a0))), some (.inl x1), some (.inl x2), some (.inl x107), none] [.inl q108.1] q108.2 _
    refine y_if_eq (tgt := 57) dX11_runSite_42 (by decide) (fun hc => ?_) (fun hc => ?_)
    · rw [if_pos hc] at hf
      refine y_aload_n (i := 0) dX11_runSite_57 rfl rfl ?_
      refine y_iload_n (i := 3) dX11_runSite_58 rfl rfl ?_
      replace hf := bnd hf
      obtain ⟨fs111, efs111, hf⟩ := hf
      replace hf := bnd hf
      obtain ⟨q110, eq110, hf⟩ := hf
      refine y_callV (mj := miX11_lay) (args := [.inl x107]) (st := []) dX11_runSite_59 (gd_of 993 rfl rfl) (gd_of 995 rfl rfl) (gd_of 52 rfl rfl) okX11_lay (obO_spec efs111) rfl rfl (xX11_lay (by omega) eq110) (Nat.le_of_ble_eq_true rfl) rfl ?_
      show Y l g miX11_runSite (d + 1) 62 [some (.inr (.inr (some a0))), some (.inl x1), some (.inl x2), some (.inl x107), none] [] q110 _
      refine y_aload_n (i := 0) dX11_runSite_62 rfl rfl ?_
      replace hf := bnd hf
      obtain ⟨x112, ex112, hf⟩ := hf
      refine y_getI ex112 fl11_173 dX11_runSite_63 ?_
      refine y_if_ne (tgt := 181) dX11_runSite_66 (by decide) (fun hc => ?_) (fun hc => ?_)
      · rw [if_neg hc] at hf
        refine Y.weak (lv2 := [some (.inr (.inr (some a0))), some (.inl x1), none, some (.inl x107), none]) [true, true, false, true, false] rfl ?_
        exact xX11_runSite_181 hK hf
      · rw [if_pos hc] at hf
        refine y_aload_n (i := 0) dX11_runSite_69 rfl rfl ?_
        replace hf := bnd hf
        obtain ⟨r113, er113, hf⟩ := hf
        refine y_getR er113 fl11_60 dX11_runSite_70 ?_
        refine y_iload_n (i := 1) dX11_runSite_73 rfl rfl ?_
        replace hf := bnd hf
        obtain ⟨a114, rfl, hf⟩ := hf
        replace hf := bnd hf
        obtain ⟨x115, ex115, hf⟩ := hf
        refine y_iaload ex115 dX11_runSite_74 ?_
        refine y_if_ge (tgt := 181) dX11_runSite_75 (by decide) (fun hc => ?_) (fun hc => ?_)
        · rw [if_pos hc] at hf
          refine Y.weak (lv2 := [some (.inr (.inr (some a0))), some (.inl x1), none, some (.inl x107), none]) [true, true, false, true, false] rfl ?_
          exact xX11_runSite_181 hK hf
        · rw [if_neg hc] at hf
          refine y_aload_n (i := 0) dX11_runSite_78 rfl rfl ?_
          replace hf := bnd hf
          obtain ⟨fs117, efs117, hf⟩ := hf
          replace hf := bnd hf
          obtain ⟨q116, eq116, hf⟩ := hf
          refine y_callV (mj := miX11_begin) (args := []) (st := []) dX11_runSite_79 (gd_of 997 rfl rfl) (gd_of 999 rfl rfl) (gd_of 53 rfl rfl) okX11_begin (obO_spec efs117) rfl rfl (xX11_begin (by omega) eq116) (Nat.le_of_ble_eq_true rfl) rfl ?_
          show Y l g miX11_runSite (d + 1) 82 [some (.inr (.inr (some a0))), some (.inl x1), some (.inl x2), some (.inl x107), none] [] q116 _
          refine y_aload_n (i := 0) dX11_runSite_82 rfl rfl ?_
          refine y_iconst (v := 0) dX11_runSite_83 (by decide) ?_
          replace hf := bnd hf
          obtain ⟨h118, eh118, hf⟩ := hf
          refine y_put eh118 (pl11_240_m rfl) dX11_runSite_84 ?_
          refine y_aload_n (i := 0) dX11_runSite_87 rfl rfl ?_
          refine y_aload_n (i := 0) dX11_runSite_88 rfl rfl ?_
          replace hf := bnd hf
          obtain ⟨r119, er119, hf⟩ := hf
          refine y_getR er119 fl11_57 dX11_runSite_89 ?_
          refine y_iload_n (i := 1) dX11_runSite_92 rfl rfl ?_
          replace hf := bnd hf
          obtain ⟨a120, rfl, hf⟩ := hf
          replace hf := bnd hf
          obtain ⟨x121, ex121, hf⟩ := hf
          refine y_iaload ex121 dX11_runSite_93 ?_
          replace hf := bnd hf
          obtain ⟨fs123, efs123, hf⟩ := hf
          replace hf := bnd hf
          obtain ⟨q122, eq122, hf⟩ := hf
          refine y_callV (mj := miX11_calls) (args := [.inl x121]) (st := []) dX11_runSite_94 (gd_of 1005 rfl rfl) (gd_of 1007 rfl rfl) (gd_of 55 rfl rfl) okX11_calls (obO_spec efs123) rfl rfl (xX11_calls (by omega) eq122) (Nat.le_of_ble_eq_true rfl) rfl ?_
          show Y l g miX11_runSite (d + 1) 97 [some (.inr (.inr (some a0))), some (.inl x1), some (.inl x2), some (.inl x107), none] [] q122 _
          refine y_aload_n (i := 0) dX11_runSite_97 rfl rfl ?_
          replace hf := bnd hf
          obtain ⟨fs125, efs125, hf⟩ := hf
          replace hf := bnd hf
          obtain ⟨q124, eq124, hf⟩ := hf
          refine y_callV (mj := miX11_goes) (args := []) (st := []) dX11_runSite_98 (gd_of 1009 rfl rfl) (gd_of 1011 rfl rfl) (gd_of 56 rfl rfl) okX11_goes (obO_spec efs125) rfl rfl (xX11_goes (by omega) eq124) (Nat.le_of_ble_eq_true rfl) rfl ?_
          show Y l g miX11_runSite (d + 1) 101 [some (.inr (.inr (some a0))), some (.inl x1), some (.inl x2), some (.inl x107), none] [] q124 _
          refine y_aload_n (i := 0) dX11_runSite_101 rfl rfl ?_
          replace hf := bnd hf
          obtain ⟨x126, ex126, hf⟩ := hf
          refine y_getI ex126 fl11_173 dX11_runSite_102 ?_
          refine y_if_ne (tgt := 181) dX11_runSite_105 (by decide) (fun hc => ?_) (fun hc => ?_)
          · rw [if_neg hc] at hf
            refine Y.weak (lv2 := [some (.inr (.inr (some a0))), some (.inl x1), none, some (.inl x107), none]) [true, true, false, true, false] rfl ?_
            exact xX11_runSite_181 hK hf
          · rw [if_pos hc] at hf
            refine y_aload_n (i := 0) dX11_runSite_108 rfl rfl ?_
            replace hf := bnd hf
            obtain ⟨j127, ej127, hf⟩ := hf
            refine y_getJ ej127 fl11_210 dX11_runSite_109 ?_
            refine y_lconst (v := 0) dX11_runSite_112 (by decide) ?_
            refine y_aload_n (i := 0) dX11_runSite_113 rfl rfl ?_
            replace hf := bnd hf
            obtain ⟨x128, ex128, hf⟩ := hf
            refine y_getI ex128 fl11_108 dX11_runSite_114 ?_
            refine y_iconst (v := 1) dX11_runSite_117 (by decide) ?_
            refine y_isub dX11_runSite_118 ?_
            refine y_i2l dX11_runSite_119 ?_
            replace hf := bnd hf
            obtain ⟨q129, eq129, hf⟩ := hf
            refine y_callS (mj := miX11_in) (args := [.inr (.inl j127), .inr (.inl 0), .inr (.inl (Int32.toInt64 (x128 - 1)))]) (st := []) dX11_runSite_120 (gd_of 878 rfl rfl) (gd_of 879 rfl rfl) okX11_in (xX11_in (by omega) eq129) (Nat.le_of_ble_eq_true rfl) rfl ?_
            show Y l g miX11_runSite (d + 1) 123 [some (.inr (.inr (some a0))), some (.inl x1), some (.inl x2), some (.inl x107), none] [.inl q129.1] q129.2 _
            refine y_if_eq (tgt := 143) dX11_runSite_123 (by decide) (fun hc => ?_) (fun hc => ?_)
            · rw [if_pos hc] at hf
              refine Y.weak (lv2 := [some (.inr (.inr (some a0))), some (.inl x1), none, some (.inl x107), none]) [true, true, false, true, false] rfl ?_
              exact xX11_runSite_143 hK hf
            · rw [if_neg hc] at hf
              refine y_aload_n (i := 0) dX11_runSite_126 rfl rfl ?_
              refine y_aload_n (i := 0) dX11_runSite_127 rfl rfl ?_
              replace hf := bnd hf
              obtain ⟨j130, ej130, hf⟩ := hf
              refine y_getJ ej130 fl11_210 dX11_runSite_128 ?_
              refine y_l2i dX11_runSite_131 ?_
              refine y_iload_n (i := 3) dX11_runSite_132 rfl rfl ?_
              replace hf := bnd hf
              obtain ⟨fs132, efs132, hf⟩ := hf
              replace hf := bnd hf
              obtain ⟨q131, eq131, hf⟩ := hf
              refine y_callV (mj := miX11_areAlike) (args := [.inl (Int64.toInt32 j130), .inl x107]) (st := []) dX11_runSite_133 (gd_of 1075 rfl rfl) (gd_of 1077 rfl rfl) (gd_of 70 rfl rfl) okX11_areAlike (obO_spec efs132) rfl rfl (xX11_areAlike (by omega) eq131) (Nat.le_of_ble_eq_true rfl) rfl ?_
              show Y l g miX11_runSite (d + 1) 136 [some (.inr (.inr (some a0))), some (.inl x1), some (.inl x2), some (.inl x107), none] [.inl q131.1] q131.2 _
              refine y_if_eq (tgt := 143) dX11_runSite_136 (by decide) (fun hc => ?_) (fun hc => ?_)
              · rw [if_pos hc] at hf
                refine Y.weak (lv2 := [some (.inr (.inr (some a0))), some (.inl x1), none, some (.inl x107), none]) [true, true, false, true, false] rfl ?_
                exact xX11_runSite_143 hK hf
              · rw [if_neg hc] at hf
                refine y_iconst (v := 1) dX11_runSite_139 (by decide) ?_
                refine y_goto (tgt := 144) dX11_runSite_140 (by decide) ?_
                refine Y.weak (lv2 := [some (.inr (.inr (some a0))), some (.inl x1), none, some (.inl x107), none]) [true, true, false, true, false] rfl ?_
                exact xX11_runSite_144 hK hf
    · rw [if_neg hc] at hf
      refine y_aload_n (i := 0) dX11_runSite_45 rfl rfl ?_
      refine y_bipush (v := 7) dX11_runSite_46 (by decide) ?_
      replace hf := bnd hf
      obtain ⟨h133, eh133, hf⟩ := hf
      refine y_put eh133 (pl11_173_m rfl) dX11_runSite_48 ?_
      refine y_aload_n (i := 0) dX11_runSite_51 rfl rfl ?_
      refine y_iload_n (i := 3) dX11_runSite_52 rfl rfl ?_
      replace hf := bnd hf
      obtain ⟨fs135, efs135, hf⟩ := hf
      replace hf := bnd hf
      obtain ⟨q134, eq134, hf⟩ := hf
      refine y_callV (mj := miX11_tells) (args := [.inl x107]) (st := []) dX11_runSite_53 (gd_of 1063 rfl rfl) (gd_of 1065 rfl rfl) (gd_of 69 rfl rfl) okX11_tells (obO_spec efs135) rfl rfl (xX11_tells (by omega) eq134) (Nat.le_of_ble_eq_true rfl) rfl ?_
      show Y l g miX11_runSite (d + 1) 56 [some (.inr (.inr (some a0))), some (.inl x1), some (.inl x2), some (.inl x107), none] [.inl q134.1] q134.2 _
      obtain rfl := Option.some.inj hf
      exact y_ret (v := some (.inl q134.1)) dX11_runSite_56 rfl
  · rw [if_pos hc] at hf
    refine y_bipush (v := (-2)) dX11_runSite_21 (by decide) ?_
    obtain rfl := Option.some.inj hf
    exact y_ret (v := some (.inl (-2))) dX11_runSite_23 rfl
set_option maxRecDepth 100000 in
theorem dX11_set_0 : decode prog_13_method_23_code 0 = .ok (.aload_n 0, 1) := by decide +kernel
set_option maxRecDepth 100000 in
theorem dX11_set_1 : decode prog_13_method_23_code 1 = .ok (.iconst 0, 1) := by decide +kernel
set_option maxRecDepth 100000 in
theorem dX11_set_2 : decode prog_13_method_23_code 2 = .ok (.putfield 1, 3) := by decide +kernel
set_option maxRecDepth 100000 in
theorem dX11_set_5 : decode prog_13_method_23_code 5 = .ok (.aload_n 0, 1) := by decide +kernel
set_option maxRecDepth 100000 in
theorem dX11_set_6 : decode prog_13_method_23_code 6 = .ok (.iload_n 1, 1) := by decide +kernel
set_option maxRecDepth 100000 in
theorem dX11_set_7 : decode prog_13_method_23_code 7 = .ok (.i2l, 1) := by decide +kernel
set_option maxRecDepth 100000 in
theorem dX11_set_8 : decode prog_13_method_23_code 8 = .ok (.invokevirtual 121, 3) := by decide +kernel
set_option maxRecDepth 100000 in
theorem dX11_set_11 : decode prog_13_method_23_code 11 = .ok (.ifCond .eq 21, 3) := by decide +kernel
set_option maxRecDepth 100000 in
theorem dX11_set_14 : decode prog_13_method_23_code 14 = .ok (.iload_n 2, 1) := by decide +kernel
set_option maxRecDepth 100000 in
theorem dX11_set_15 : decode prog_13_method_23_code 15 = .ok (.i2l, 1) := by decide +kernel
set_option maxRecDepth 100000 in
theorem dX11_set_16 : decode prog_13_method_23_code 16 = .ok (.lconst 0, 1) := by decide +kernel
set_option maxRecDepth 100000 in
theorem dX11_set_17 : decode prog_13_method_23_code 17 = .ok (.aload_n 0, 1) := by decide +kernel
set_option maxRecDepth 100000 in
theorem dX11_set_18 : decode prog_13_method_23_code 18 = .ok (.getfield 48, 3) := by decide +kernel
set_option maxRecDepth 100000 in
theorem dX11_set_21 : decode prog_13_method_23_code 21 = .ok (.iload_n 1, 1) := by decide +kernel
set_option maxRecDepth 100000 in
theorem dX11_set_22 : decode prog_13_method_23_code 22 = .ok (.iaload, 1) := by decide +kernel
set_option maxRecDepth 100000 in
theorem dX11_set_23 : decode prog_13_method_23_code 23 = .ok (.iconst 1, 1) := by decide +kernel
set_option maxRecDepth 100000 in
theorem dX11_set_24 : decode prog_13_method_23_code 24 = .ok (.isub, 1) := by decide +kernel
set_option maxRecDepth 100000 in
theorem dX11_set_25 : decode prog_13_method_23_code 25 = .ok (.i2l, 1) := by decide +kernel
set_option maxRecDepth 100000 in
theorem dX11_set_26 : decode prog_13_method_23_code 26 = .ok (.invokestatic 111, 3) := by decide +kernel
set_option maxRecDepth 100000 in
theorem dX11_set_29 : decode prog_13_method_23_code 29 = .ok (.ifCond .ne 6, 3) := by decide +kernel
set_option maxRecDepth 100000 in
theorem dX11_set_32 : decode prog_13_method_23_code 32 = .ok (.bipush (-2), 2) := by decide +kernel
set_option maxRecDepth 100000 in
theorem dX11_set_34 : decode prog_13_method_23_code 34 = .ok (.ireturn, 1) := by decide +kernel
set_option maxRecDepth 100000 in
theorem dX11_set_35 : decode prog_13_method_23_code 35 = .ok (.aload_n 0, 1) := by decide +kernel
set_option maxRecDepth 100000 in
theorem dX11_set_36 : decode prog_13_method_23_code 36 = .ok (.getfield 51, 3) := by decide +kernel
set_option maxRecDepth 100000 in
theorem dX11_set_39 : decode prog_13_method_23_code 39 = .ok (.bipush 20, 2) := by decide +kernel
set_option maxRecDepth 100000 in
theorem dX11_set_41 : decode prog_13_method_23_code 41 = .ok (.iload_n 1, 1) := by decide +kernel
set_option maxRecDepth 100000 in
theorem dX11_set_42 : decode prog_13_method_23_code 42 = .ok (.imul, 1) := by decide +kernel
set_option maxRecDepth 100000 in
theorem dX11_set_43 : decode prog_13_method_23_code 43 = .ok (.iload_n 2, 1) := by decide +kernel
set_option maxRecDepth 100000 in
theorem dX11_set_44 : decode prog_13_method_23_code 44 = .ok (.iadd, 1) := by decide +kernel
set_option maxRecDepth 100000 in
theorem dX11_set_45 : decode prog_13_method_23_code 45 = .ok (.iload_n 3, 1) := by decide +kernel
set_option maxRecDepth 100000 in
theorem dX11_set_46 : decode prog_13_method_23_code 46 = .ok (.iastore, 1) := by decide +kernel
set_option maxRecDepth 100000 in
theorem dX11_set_47 : decode prog_13_method_23_code 47 = .ok (.iconst 1, 1) := by decide +kernel
set_option maxRecDepth 100000 in
theorem dX11_set_48 : decode prog_13_method_23_code 48 = .ok (.ireturn, 1) := by decide +kernel

def fX11_set (z : Nat → Nat) (a0 : Nat) (x1 : Int32) (x2 : Int32) (x3 : Int32) (h : aH) : Option (Int32 × aH) :=
  (wrF h a0 [9] 0 (.inl 0)).bind fun h101 =>
  (obO h101 a0 9).bind fun fs103 =>
  (fX11_isRow z a0 (Int32.toInt64 x1) h101).bind fun q102 =>
  (if q102.1 = 0 then
  some ((-2), q102.2)
  else
  (rdR q102.2 a0 [9] 14).bind fun r104 =>
  (r104).bind fun a105 =>
  (arI q102.2 a105 x1).bind fun x106 =>
  (fX11_in z (Int32.toInt64 x2) 0 (Int32.toInt64 (x106 - 1)) q102.2).bind fun q107 =>
  (if q107.1 = 0 then
  some ((-2), q107.2)
  else
  (rdR q107.2 a0 [9] 15).bind fun r108 =>
  (r108).bind fun a109 =>
  (awI q107.2 a109 ((20 * x1) + x2) x3).bind fun h110 =>
  some (1, h110)))
set_option maxHeartbeats 4000000 in
set_option maxRecDepth 100000 in
theorem xX11_set {l : Launch} {g : aG} {d : Nat} (hK : 2 ≤ d) {a0 : Nat} {x1 : Int32} {x2 : Int32} {x3 : Int32} {h : aH} {q : Int32 × aH} (hf : fX11_set g.2.2 a0 x1 x2 x3 h = some q) : Ev l g miX11_set d [.inr (.inr (some a0)), .inl x1, .inl x2, .inl x3] h (some (.inl q.1), q.2) := by
  obtain ⟨d, rfl⟩ : ∃ e, d = e + 1 := ⟨d - 1, by omega⟩
  refine ⟨?_, Or.inl rfl, Nat.le_of_ble_eq_true rfl⟩
  unfold fX11_set at hf
  show Y l g miX11_set (d + 1) 0 [some (.inr (.inr (some a0))), some (.inl x1), some (.inl x2), some (.inl x3)] [] h _
  refine y_aload_n (i := 0) dX11_set_0 rfl rfl ?_
  refine y_iconst (v := 0) dX11_set_1 (by decide) ?_
  replace hf := bnd hf
  obtain ⟨h101, eh101, hf⟩ := hf
  refine y_put eh101 (pl11_1_m rfl) dX11_set_2 ?_
  refine y_aload_n (i := 0) dX11_set_5 rfl rfl ?_
  refine y_iload_n (i := 1) dX11_set_6 rfl rfl ?_
  refine y_i2l dX11_set_7 ?_
  replace hf := bnd hf
  obtain ⟨fs103, efs103, hf⟩ := hf
  replace hf := bnd hf
  obtain ⟨q102, eq102, hf⟩ := hf
  refine y_callV (mj := miX11_isRow) (args := [.inr (.inl (Int32.toInt64 x1))]) (st := []) dX11_set_8 (gd_of 874 rfl rfl) (gd_of 876 rfl rfl) (gd_of 35 rfl rfl) okX11_isRow (obO_spec efs103) rfl rfl (xX11_isRow (by omega) eq102) (Nat.le_of_ble_eq_true rfl) rfl ?_
  show Y l g miX11_set (d + 1) 11 [some (.inr (.inr (some a0))), some (.inl x1), some (.inl x2), some (.inl x3)] [.inl q102.1] q102.2 _
  refine y_if_eq (tgt := 32) dX11_set_11 (by decide) (fun hc => ?_) (fun hc => ?_)
  · rw [if_pos hc] at hf
    refine y_bipush (v := (-2)) dX11_set_32 (by decide) ?_
    obtain rfl := Option.some.inj hf
    exact y_ret (v := some (.inl (-2))) dX11_set_34 rfl
  · rw [if_neg hc] at hf
    refine y_iload_n (i := 2) dX11_set_14 rfl rfl ?_
    refine y_i2l dX11_set_15 ?_
    refine y_lconst (v := 0) dX11_set_16 (by decide) ?_
    refine y_aload_n (i := 0) dX11_set_17 rfl rfl ?_
    replace hf := bnd hf
    obtain ⟨r104, er104, hf⟩ := hf
    refine y_getR er104 fl11_48 dX11_set_18 ?_
    refine y_iload_n (i := 1) dX11_set_21 rfl rfl ?_
    replace hf := bnd hf
    obtain ⟨a105, rfl, hf⟩ := hf
    replace hf := bnd hf
    obtain ⟨x106, ex106, hf⟩ := hf
    refine y_iaload ex106 dX11_set_22 ?_
    refine y_iconst (v := 1) dX11_set_23 (by decide) ?_
    refine y_isub dX11_set_24 ?_
    refine y_i2l dX11_set_25 ?_
    replace hf := bnd hf
    obtain ⟨q107, eq107, hf⟩ := hf
    refine y_callS (mj := miX11_in) (args := [.inr (.inl (Int32.toInt64 x2)), .inr (.inl 0), .inr (.inl (Int32.toInt64 (x106 - 1)))]) (st := []) dX11_set_26 (gd_of 878 rfl rfl) (gd_of 879 rfl rfl) okX11_in (xX11_in (by omega) eq107) (Nat.le_of_ble_eq_true rfl) rfl ?_
    show Y l g miX11_set (d + 1) 29 [some (.inr (.inr (some a0))), some (.inl x1), some (.inl x2), some (.inl x3)] [.inl q107.1] q107.2 _
    refine y_if_ne (tgt := 35) dX11_set_29 (by decide) (fun hc => ?_) (fun hc => ?_)
    · rw [if_neg hc] at hf
      refine y_aload_n (i := 0) dX11_set_35 rfl rfl ?_
      replace hf := bnd hf
      obtain ⟨r108, er108, hf⟩ := hf
      refine y_getR er108 fl11_51 dX11_set_36 ?_
      refine y_bipush (v := 20) dX11_set_39 (by decide) ?_
      refine y_iload_n (i := 1) dX11_set_41 rfl rfl ?_
      refine y_imul dX11_set_42 ?_
      refine y_iload_n (i := 2) dX11_set_43 rfl rfl ?_
      refine y_iadd dX11_set_44 ?_
      refine y_iload_n (i := 3) dX11_set_45 rfl rfl ?_
      replace hf := bnd hf
      obtain ⟨a109, rfl, hf⟩ := hf
      replace hf := bnd hf
      obtain ⟨h110, eh110, hf⟩ := hf
      refine y_iastore eh110 dX11_set_46 ?_
      refine y_iconst (v := 1) dX11_set_47 (by decide) ?_
      obtain rfl := Option.some.inj hf
      exact y_ret (v := some (.inl 1)) dX11_set_48 rfl
    · rw [if_pos hc] at hf
      refine y_bipush (v := (-2)) dX11_set_32 (by decide) ?_
      obtain rfl := Option.some.inj hf
      exact y_ret (v := some (.inl (-2))) dX11_set_34 rfl
set_option maxRecDepth 100000 in
theorem dX11_site_0 : decode prog_13_method_50_code 0 = .ok (.aload_n 0, 1) := by decide +kernel
set_option maxRecDepth 100000 in
theorem dX11_site_1 : decode prog_13_method_50_code 1 = .ok (.iconst 0, 1) := by decide +kernel
set_option maxRecDepth 100000 in
theorem dX11_site_2 : decode prog_13_method_50_code 2 = .ok (.putfield 1, 3) := by decide +kernel
set_option maxRecDepth 100000 in
theorem dX11_site_5 : decode prog_13_method_50_code 5 = .ok (.aload_n 0, 1) := by decide +kernel
set_option maxRecDepth 100000 in
theorem dX11_site_6 : decode prog_13_method_50_code 6 = .ok (.iload_n 1, 1) := by decide +kernel
set_option maxRecDepth 100000 in
theorem dX11_site_7 : decode prog_13_method_50_code 7 = .ok (.invokevirtual 194, 3) := by decide +kernel
set_option maxRecDepth 100000 in
theorem dX11_site_10 : decode prog_13_method_50_code 10 = .ok (.ifCond .eq 11, 3) := by decide +kernel
set_option maxRecDepth 100000 in
theorem dX11_site_13 : decode prog_13_method_50_code 13 = .ok (.aload_n 0, 1) := by decide +kernel
set_option maxRecDepth 100000 in
theorem dX11_site_14 : decode prog_13_method_50_code 14 = .ok (.iload_n 2, 1) := by decide +kernel
set_option maxRecDepth 100000 in
theorem dX11_site_15 : decode prog_13_method_50_code 15 = .ok (.invokevirtual 194, 3) := by decide +kernel
set_option maxRecDepth 100000 in
theorem dX11_site_18 : decode prog_13_method_50_code 18 = .ok (.ifCond .ne 6, 3) := by decide +kernel
set_option maxRecDepth 100000 in
theorem dX11_site_21 : decode prog_13_method_50_code 21 = .ok (.bipush (-2), 2) := by decide +kernel
set_option maxRecDepth 100000 in
theorem dX11_site_23 : decode prog_13_method_50_code 23 = .ok (.ireturn, 1) := by decide +kernel
set_option maxRecDepth 100000 in
theorem dX11_site_24 : decode prog_13_method_50_code 24 = .ok (.aload_n 0, 1) := by decide +kernel
set_option maxRecDepth 100000 in
theorem dX11_site_25 : decode prog_13_method_50_code 25 = .ok (.getfield 17, 3) := by decide +kernel
set_option maxRecDepth 100000 in
theorem dX11_site_28 : decode prog_13_method_50_code 28 = .ok (.iload_n 2, 1) := by decide +kernel
set_option maxRecDepth 100000 in
theorem dX11_site_29 : decode prog_13_method_50_code 29 = .ok (.iaload, 1) := by decide +kernel
set_option maxRecDepth 100000 in
theorem dX11_site_30 : decode prog_13_method_50_code 30 = .ok (.ifCond .ne 12, 3) := by decide +kernel
set_option maxRecDepth 100000 in
theorem dX11_site_33 : decode prog_13_method_50_code 33 = .ok (.aload_n 0, 1) := by decide +kernel
set_option maxRecDepth 100000 in
theorem dX11_site_34 : decode prog_13_method_50_code 34 = .ok (.getfield 23, 3) := by decide +kernel
set_option maxRecDepth 100000 in
theorem dX11_site_37 : decode prog_13_method_50_code 37 = .ok (.iload_n 2, 1) := by decide +kernel
set_option maxRecDepth 100000 in
theorem dX11_site_38 : decode prog_13_method_50_code 38 = .ok (.iaload, 1) := by decide +kernel
set_option maxRecDepth 100000 in
theorem dX11_site_39 : decode prog_13_method_50_code 39 = .ok (.ifCond .eq 6, 3) := by decide +kernel
set_option maxRecDepth 100000 in
theorem dX11_site_42 : decode prog_13_method_50_code 42 = .ok (.bipush (-4), 2) := by decide +kernel
set_option maxRecDepth 100000 in
theorem dX11_site_44 : decode prog_13_method_50_code 44 = .ok (.ireturn, 1) := by decide +kernel
set_option maxRecDepth 100000 in
theorem dX11_site_45 : decode prog_13_method_50_code 45 = .ok (.aload_n 0, 1) := by decide +kernel
set_option maxRecDepth 100000 in
theorem dX11_site_46 : decode prog_13_method_50_code 46 = .ok (.getfield 314, 3) := by decide +kernel
set_option maxRecDepth 100000 in
theorem dX11_site_49 : decode prog_13_method_50_code 49 = .ok (.bipush 10, 2) := by decide +kernel
set_option maxRecDepth 100000 in
theorem dX11_site_51 : decode prog_13_method_50_code 51 = .ok (.if_icmp .ne 6, 3) := by decide +kernel
set_option maxRecDepth 100000 in
theorem dX11_site_54 : decode prog_13_method_50_code 54 = .ok (.bipush (-5), 2) := by decide +kernel
set_option maxRecDepth 100000 in
theorem dX11_site_56 : decode prog_13_method_50_code 56 = .ok (.ireturn, 1) := by decide +kernel
set_option maxRecDepth 100000 in
theorem dX11_site_57 : decode prog_13_method_50_code 57 = .ok (.aload_n 0, 1) := by decide +kernel
set_option maxRecDepth 100000 in
theorem dX11_site_58 : decode prog_13_method_50_code 58 = .ok (.getfield 54, 3) := by decide +kernel
set_option maxRecDepth 100000 in
theorem dX11_site_61 : decode prog_13_method_50_code 61 = .ok (.aload_n 0, 1) := by decide +kernel
set_option maxRecDepth 100000 in
theorem dX11_site_62 : decode prog_13_method_50_code 62 = .ok (.getfield 314, 3) := by decide +kernel
set_option maxRecDepth 100000 in
theorem dX11_site_65 : decode prog_13_method_50_code 65 = .ok (.iload_n 1, 1) := by decide +kernel
set_option maxRecDepth 100000 in
theorem dX11_site_66 : decode prog_13_method_50_code 66 = .ok (.iastore, 1) := by decide +kernel
set_option maxRecDepth 100000 in
theorem dX11_site_67 : decode prog_13_method_50_code 67 = .ok (.aload_n 0, 1) := by decide +kernel
set_option maxRecDepth 100000 in
theorem dX11_site_68 : decode prog_13_method_50_code 68 = .ok (.getfield 57, 3) := by decide +kernel
set_option maxRecDepth 100000 in
theorem dX11_site_71 : decode prog_13_method_50_code 71 = .ok (.aload_n 0, 1) := by decide +kernel
set_option maxRecDepth 100000 in
theorem dX11_site_72 : decode prog_13_method_50_code 72 = .ok (.getfield 314, 3) := by decide +kernel
set_option maxRecDepth 100000 in
theorem dX11_site_75 : decode prog_13_method_50_code 75 = .ok (.iload_n 2, 1) := by decide +kernel
set_option maxRecDepth 100000 in
theorem dX11_site_76 : decode prog_13_method_50_code 76 = .ok (.iastore, 1) := by decide +kernel
set_option maxRecDepth 100000 in
theorem dX11_site_77 : decode prog_13_method_50_code 77 = .ok (.aload_n 0, 1) := by decide +kernel
set_option maxRecDepth 100000 in
theorem dX11_site_78 : decode prog_13_method_50_code 78 = .ok (.getfield 60, 3) := by decide +kernel
set_option maxRecDepth 100000 in
theorem dX11_site_81 : decode prog_13_method_50_code 81 = .ok (.aload_n 0, 1) := by decide +kernel
set_option maxRecDepth 100000 in
theorem dX11_site_82 : decode prog_13_method_50_code 82 = .ok (.getfield 314, 3) := by decide +kernel
set_option maxRecDepth 100000 in
theorem dX11_site_85 : decode prog_13_method_50_code 85 = .ok (.iconst (-1), 1) := by decide +kernel
set_option maxRecDepth 100000 in
theorem dX11_site_86 : decode prog_13_method_50_code 86 = .ok (.iastore, 1) := by decide +kernel
set_option maxRecDepth 100000 in
theorem dX11_site_87 : decode prog_13_method_50_code 87 = .ok (.aload_n 0, 1) := by decide +kernel
set_option maxRecDepth 100000 in
theorem dX11_site_88 : decode prog_13_method_50_code 88 = .ok (.dup, 1) := by decide +kernel
set_option maxRecDepth 100000 in
theorem dX11_site_89 : decode prog_13_method_50_code 89 = .ok (.getfield 314, 3) := by decide +kernel
set_option maxRecDepth 100000 in
theorem dX11_site_92 : decode prog_13_method_50_code 92 = .ok (.iconst 1, 1) := by decide +kernel
set_option maxRecDepth 100000 in
theorem dX11_site_93 : decode prog_13_method_50_code 93 = .ok (.iadd, 1) := by decide +kernel
set_option maxRecDepth 100000 in
theorem dX11_site_94 : decode prog_13_method_50_code 94 = .ok (.putfield 314, 3) := by decide +kernel
set_option maxRecDepth 100000 in
theorem dX11_site_97 : decode prog_13_method_50_code 97 = .ok (.aload_n 0, 1) := by decide +kernel
set_option maxRecDepth 100000 in
theorem dX11_site_98 : decode prog_13_method_50_code 98 = .ok (.getfield 314, 3) := by decide +kernel
set_option maxRecDepth 100000 in
theorem dX11_site_101 : decode prog_13_method_50_code 101 = .ok (.iconst 1, 1) := by decide +kernel
set_option maxRecDepth 100000 in
theorem dX11_site_102 : decode prog_13_method_50_code 102 = .ok (.isub, 1) := by decide +kernel
set_option maxRecDepth 100000 in
theorem dX11_site_103 : decode prog_13_method_50_code 103 = .ok (.ireturn, 1) := by decide +kernel
set_option maxRecDepth 100000 in
theorem pl11_314_m {mi : aM} {x : Int32} (ho : "HandleModelsModel" = mi.1.cls) : ∀ c ∈ ([9] : List Nat), FL mi.1.cls 314 c 16 ∧ FT c 16 (.inl x) ∧ FW mi c 16 := fun c h9 => by
  have h8 := fl11_314 c h9
  rw [← ho]
  refine ⟨h8, ?_⟩
  simp only [List.mem_cons, List.not_mem_nil, or_false] at h9
  rcases h9 with rfl
  · exact ⟨ft_int rfl (by decide +kernel), ⟨_, rfl, Or.inl rfl⟩⟩
def fX11_site (z : Nat → Nat) (a0 : Nat) (x1 : Int32) (x2 : Int32) (h : aH) : Option (Int32 × aH) :=
  (wrF h a0 [9] 0 (.inl 0)).bind fun h101 =>
  (obO h101 a0 9).bind fun fs103 =>
  (fX11_isHandle z a0 x1 h101).bind fun q102 =>
  (if q102.1 = 0 then
  some ((-2), q102.2)
  else
  (obO q102.2 a0 9).bind fun fs105 =>
  (fX11_isHandle z a0 x2 q102.2).bind fun q104 =>
  (if q104.1 = 0 then
  some ((-2), q104.2)
  else
  (rdR q104.2 a0 [9] 3).bind fun r106 =>
  (r106).bind fun a107 =>
  (arI q104.2 a107 x2).bind fun x108 =>
  (if x108 = 0 then
  (rdR q104.2 a0 [9] 5).bind fun r109 =>
  (r109).bind fun a110 =>
  (arI q104.2 a110 x2).bind fun x111 =>
  (if x111 = 0 then
  (rdI q104.2 a0 [9] 16).bind fun x112 =>
  (if x112 = 10 then
  some ((-5), q104.2)
  else
  (rdR q104.2 a0 [9] 17).bind fun r113 =>
  (rdI q104.2 a0 [9] 16).bind fun x114 =>
  (r113).bind fun a115 =>
  (awI q104.2 a115 x114 x1).bind fun h116 =>
  (rdR h116 a0 [9] 18).bind fun r117 =>
  (rdI h116 a0 [9] 16).bind fun x118 =>
  (r117).bind fun a119 =>
  (awI h116 a119 x118 x2).bind fun h120 =>
  (rdR h120 a0 [9] 19).bind fun r121 =>
  (rdI h120 a0 [9] 16).bind fun x122 =>
  (r121).bind fun a123 =>
  (awI h120 a123 x122 (-1)).bind fun h124 =>
  (rdI h124 a0 [9] 16).bind fun x125 =>
  (wrF h124 a0 [9] 16 (.inl (x125 + 1))).bind fun h126 =>
  (rdI h126 a0 [9] 16).bind fun x127 =>
  some ((x127 - 1), h126))
  else
  some ((-4), q104.2))
  else
  some ((-4), q104.2))))
set_option maxHeartbeats 4000000 in
set_option maxRecDepth 100000 in
theorem xX11_site {l : Launch} {g : aG} {d : Nat} (hK : 2 ≤ d) {a0 : Nat} {x1 : Int32} {x2 : Int32} {h : aH} {q : Int32 × aH} (hf : fX11_site g.2.2 a0 x1 x2 h = some q) : Ev l g miX11_site d [.inr (.inr (some a0)), .inl x1, .inl x2] h (some (.inl q.1), q.2) := by
  obtain ⟨d, rfl⟩ : ∃ e, d = e + 1 := ⟨d - 1, by omega⟩
  refine ⟨?_, Or.inl rfl, Nat.le_of_ble_eq_true rfl⟩
  unfold fX11_site at hf
  show Y l g miX11_site (d + 1) 0 [some (.inr (.inr (some a0))), some (.inl x1), some (.inl x2)] [] h _
  refine y_aload_n (i := 0) dX11_site_0 rfl rfl ?_
  refine y_iconst (v := 0) dX11_site_1 (by decide) ?_
  replace hf := bnd hf
  obtain ⟨h101, eh101, hf⟩ := hf
  refine y_put eh101 (pl11_1_m rfl) dX11_site_2 ?_
  refine y_aload_n (i := 0) dX11_site_5 rfl rfl ?_
  refine y_iload_n (i := 1) dX11_site_6 rfl rfl ?_
  replace hf := bnd hf
  obtain ⟨fs103, efs103, hf⟩ := hf
  replace hf := bnd hf
  obtain ⟨q102, eq102, hf⟩ := hf
  refine y_callV (mj := miX11_isHandle) (args := [.inl x1]) (st := []) dX11_site_7 (gd_of 897 rfl rfl) (gd_of 899 rfl rfl) (gd_of 38 rfl rfl) okX11_isHandle (obO_spec efs103) rfl rfl (xX11_isHandle (by omega) eq102) (Nat.le_of_ble_eq_true rfl) rfl ?_
  show Y l g miX11_site (d + 1) 10 [some (.inr (.inr (some a0))), some (.inl x1), some (.inl x2)] [.inl q102.1] q102.2 _
  refine y_if_eq (tgt := 21) dX11_site_10 (by decide) (fun hc => ?_) (fun hc => ?_)
  · rw [if_pos hc] at hf
    refine y_bipush (v := (-2)) dX11_site_21 (by decide) ?_
    obtain rfl := Option.some.inj hf
    exact y_ret (v := some (.inl (-2))) dX11_site_23 rfl
  · rw [if_neg hc] at hf
    refine y_aload_n (i := 0) dX11_site_13 rfl rfl ?_
    refine y_iload_n (i := 2) dX11_site_14 rfl rfl ?_
    replace hf := bnd hf
    obtain ⟨fs105, efs105, hf⟩ := hf
    replace hf := bnd hf
    obtain ⟨q104, eq104, hf⟩ := hf
    refine y_callV (mj := miX11_isHandle) (args := [.inl x2]) (st := []) dX11_site_15 (gd_of 897 rfl rfl) (gd_of 899 rfl rfl) (gd_of 38 rfl rfl) okX11_isHandle (obO_spec efs105) rfl rfl (xX11_isHandle (by omega) eq104) (Nat.le_of_ble_eq_true rfl) rfl ?_
    show Y l g miX11_site (d + 1) 18 [some (.inr (.inr (some a0))), some (.inl x1), some (.inl x2)] [.inl q104.1] q104.2 _
    refine y_if_ne (tgt := 24) dX11_site_18 (by decide) (fun hc => ?_) (fun hc => ?_)
    · rw [if_neg hc] at hf
      refine y_aload_n (i := 0) dX11_site_24 rfl rfl ?_
      replace hf := bnd hf
      obtain ⟨r106, er106, hf⟩ := hf
      refine y_getR er106 fl11_17 dX11_site_25 ?_
      refine y_iload_n (i := 2) dX11_site_28 rfl rfl ?_
      replace hf := bnd hf
      obtain ⟨a107, rfl, hf⟩ := hf
      replace hf := bnd hf
      obtain ⟨x108, ex108, hf⟩ := hf
      refine y_iaload ex108 dX11_site_29 ?_
      refine y_if_ne (tgt := 42) dX11_site_30 (by decide) (fun hc => ?_) (fun hc => ?_)
      · rw [if_neg hc] at hf
        refine y_bipush (v := (-4)) dX11_site_42 (by decide) ?_
        obtain rfl := Option.some.inj hf
        exact y_ret (v := some (.inl (-4))) dX11_site_44 rfl
      · rw [if_pos hc] at hf
        refine y_aload_n (i := 0) dX11_site_33 rfl rfl ?_
        replace hf := bnd hf
        obtain ⟨r109, er109, hf⟩ := hf
        refine y_getR er109 fl11_23 dX11_site_34 ?_
        refine y_iload_n (i := 2) dX11_site_37 rfl rfl ?_
        replace hf := bnd hf
        obtain ⟨a110, rfl, hf⟩ := hf
        replace hf := bnd hf
        obtain ⟨x111, ex111, hf⟩ := hf
        refine y_iaload ex111 dX11_site_38 ?_
        refine y_if_eq (tgt := 45) dX11_site_39 (by decide) (fun hc => ?_) (fun hc => ?_)
        · rw [if_pos hc] at hf
          refine y_aload_n (i := 0) dX11_site_45 rfl rfl ?_
          replace hf := bnd hf
          obtain ⟨x112, ex112, hf⟩ := hf
          refine y_getI ex112 fl11_314 dX11_site_46 ?_
          refine y_bipush (v := 10) dX11_site_49 (by decide) ?_
          refine y_icmp_ne (tgt := 57) dX11_site_51 (by decide) (fun hc => ?_) (fun hc => ?_)
          · rw [if_neg hc] at hf
            refine y_aload_n (i := 0) dX11_site_57 rfl rfl ?_
            replace hf := bnd hf
            obtain ⟨r113, er113, hf⟩ := hf
            refine y_getR er113 fl11_54 dX11_site_58 ?_
            refine y_aload_n (i := 0) dX11_site_61 rfl rfl ?_
            replace hf := bnd hf
            obtain ⟨x114, ex114, hf⟩ := hf
            refine y_getI ex114 fl11_314 dX11_site_62 ?_
            refine y_iload_n (i := 1) dX11_site_65 rfl rfl ?_
            replace hf := bnd hf
            obtain ⟨a115, rfl, hf⟩ := hf
            replace hf := bnd hf
            obtain ⟨h116, eh116, hf⟩ := hf
            refine y_iastore eh116 dX11_site_66 ?_
            refine y_aload_n (i := 0) dX11_site_67 rfl rfl ?_
            replace hf := bnd hf
            obtain ⟨r117, er117, hf⟩ := hf
            refine y_getR er117 fl11_57 dX11_site_68 ?_
            refine y_aload_n (i := 0) dX11_site_71 rfl rfl ?_
            replace hf := bnd hf
            obtain ⟨x118, ex118, hf⟩ := hf
            refine y_getI ex118 fl11_314 dX11_site_72 ?_
            refine y_iload_n (i := 2) dX11_site_75 rfl rfl ?_
            replace hf := bnd hf
            obtain ⟨a119, rfl, hf⟩ := hf
            replace hf := bnd hf
            obtain ⟨h120, eh120, hf⟩ := hf
            refine y_iastore eh120 dX11_site_76 ?_
            refine y_aload_n (i := 0) dX11_site_77 rfl rfl ?_
            replace hf := bnd hf
            obtain ⟨r121, er121, hf⟩ := hf
            refine y_getR er121 fl11_60 dX11_site_78 ?_
            refine y_aload_n (i := 0) dX11_site_81 rfl rfl ?_
            replace hf := bnd hf
            obtain ⟨x122, ex122, hf⟩ := hf
            refine y_getI ex122 fl11_314 dX11_site_82 ?_
            refine y_iconst (v := (-1)) dX11_site_85 (by decide) ?_
            replace hf := bnd hf
            obtain ⟨a123, rfl, hf⟩ := hf
            replace hf := bnd hf
            obtain ⟨h124, eh124, hf⟩ := hf
            refine y_iastore eh124 dX11_site_86 ?_
            refine y_aload_n (i := 0) dX11_site_87 rfl rfl ?_
            refine y_dup dX11_site_88 rfl ?_
            replace hf := bnd hf
            obtain ⟨x125, ex125, hf⟩ := hf
            refine y_getI ex125 fl11_314 dX11_site_89 ?_
            refine y_iconst (v := 1) dX11_site_92 (by decide) ?_
            refine y_iadd dX11_site_93 ?_
            replace hf := bnd hf
            obtain ⟨h126, eh126, hf⟩ := hf
            refine y_put eh126 (pl11_314_m rfl) dX11_site_94 ?_
            refine y_aload_n (i := 0) dX11_site_97 rfl rfl ?_
            replace hf := bnd hf
            obtain ⟨x127, ex127, hf⟩ := hf
            refine y_getI ex127 fl11_314 dX11_site_98 ?_
            refine y_iconst (v := 1) dX11_site_101 (by decide) ?_
            refine y_isub dX11_site_102 ?_
            obtain rfl := Option.some.inj hf
            exact y_ret (v := some (.inl (x127 - 1))) dX11_site_103 rfl
          · rw [if_pos hc] at hf
            refine y_bipush (v := (-5)) dX11_site_54 (by decide) ?_
            obtain rfl := Option.some.inj hf
            exact y_ret (v := some (.inl (-5))) dX11_site_56 rfl
        · rw [if_neg hc] at hf
          refine y_bipush (v := (-4)) dX11_site_42 (by decide) ?_
          obtain rfl := Option.some.inj hf
          exact y_ret (v := some (.inl (-4))) dX11_site_44 rfl
    · rw [if_pos hc] at hf
      refine y_bipush (v := (-2)) dX11_site_21 (by decide) ?_
      obtain rfl := Option.some.inj hf
      exact y_ret (v := some (.inl (-2))) dX11_site_23 rfl
set_option maxRecDepth 100000 in
theorem dX11_told_0 : decode prog_13_method_58_code 0 = .ok (.aload_n 0, 1) := by decide +kernel
set_option maxRecDepth 100000 in
theorem dX11_told_1 : decode prog_13_method_58_code 1 = .ok (.iconst 0, 1) := by decide +kernel
set_option maxRecDepth 100000 in
theorem dX11_told_2 : decode prog_13_method_58_code 2 = .ok (.putfield 1, 3) := by decide +kernel
set_option maxRecDepth 100000 in
theorem dX11_told_5 : decode prog_13_method_58_code 5 = .ok (.iload_n 1, 1) := by decide +kernel
set_option maxRecDepth 100000 in
theorem dX11_told_6 : decode prog_13_method_58_code 6 = .ok (.tableswitch 77 0 6 #[42, 47, 52, 57, 62, 67, 72], 42) := by decide +kernel
set_option maxRecDepth 100000 in
theorem dX11_told_48 : decode prog_13_method_58_code 48 = .ok (.aload_n 0, 1) := by decide +kernel
set_option maxRecDepth 100000 in
theorem dX11_told_49 : decode prog_13_method_58_code 49 = .ok (.getfield 108, 3) := by decide +kernel
set_option maxRecDepth 100000 in
theorem dX11_told_52 : decode prog_13_method_58_code 52 = .ok (.ireturn, 1) := by decide +kernel
set_option maxRecDepth 100000 in
theorem dX11_told_53 : decode prog_13_method_58_code 53 = .ok (.aload_n 0, 1) := by decide +kernel
set_option maxRecDepth 100000 in
theorem dX11_told_54 : decode prog_13_method_58_code 54 = .ok (.getfield 115, 3) := by decide +kernel
set_option maxRecDepth 100000 in
theorem dX11_told_57 : decode prog_13_method_58_code 57 = .ok (.ireturn, 1) := by decide +kernel
set_option maxRecDepth 100000 in
theorem dX11_told_58 : decode prog_13_method_58_code 58 = .ok (.aload_n 0, 1) := by decide +kernel
set_option maxRecDepth 100000 in
theorem dX11_told_59 : decode prog_13_method_58_code 59 = .ok (.getfield 314, 3) := by decide +kernel
set_option maxRecDepth 100000 in
theorem dX11_told_62 : decode prog_13_method_58_code 62 = .ok (.ireturn, 1) := by decide +kernel
set_option maxRecDepth 100000 in
theorem dX11_told_63 : decode prog_13_method_58_code 63 = .ok (.aload_n 0, 1) := by decide +kernel
set_option maxRecDepth 100000 in
theorem dX11_told_64 : decode prog_13_method_58_code 64 = .ok (.getfield 159, 3) := by decide +kernel
set_option maxRecDepth 100000 in
theorem dX11_told_67 : decode prog_13_method_58_code 67 = .ok (.ireturn, 1) := by decide +kernel
set_option maxRecDepth 100000 in
theorem dX11_told_68 : decode prog_13_method_58_code 68 = .ok (.aload_n 0, 1) := by decide +kernel
set_option maxRecDepth 100000 in
theorem dX11_told_69 : decode prog_13_method_58_code 69 = .ok (.getfield 233, 3) := by decide +kernel
set_option maxRecDepth 100000 in
theorem dX11_told_72 : decode prog_13_method_58_code 72 = .ok (.ireturn, 1) := by decide +kernel
set_option maxRecDepth 100000 in
theorem dX11_told_73 : decode prog_13_method_58_code 73 = .ok (.aload_n 0, 1) := by decide +kernel
set_option maxRecDepth 100000 in
theorem dX11_told_74 : decode prog_13_method_58_code 74 = .ok (.getfield 252, 3) := by decide +kernel
set_option maxRecDepth 100000 in
theorem dX11_told_77 : decode prog_13_method_58_code 77 = .ok (.ireturn, 1) := by decide +kernel
set_option maxRecDepth 100000 in
theorem dX11_told_78 : decode prog_13_method_58_code 78 = .ok (.aload_n 0, 1) := by decide +kernel
set_option maxRecDepth 100000 in
theorem dX11_told_79 : decode prog_13_method_58_code 79 = .ok (.getfield 295, 3) := by decide +kernel
set_option maxRecDepth 100000 in
theorem dX11_told_82 : decode prog_13_method_58_code 82 = .ok (.ireturn, 1) := by decide +kernel
set_option maxRecDepth 100000 in
theorem dX11_told_83 : decode prog_13_method_58_code 83 = .ok (.bipush (-3), 2) := by decide +kernel
set_option maxRecDepth 100000 in
theorem dX11_told_85 : decode prog_13_method_58_code 85 = .ok (.ireturn, 1) := by decide +kernel

def fX11_told (z : Nat → Nat) (a0 : Nat) (x1 : Int32) (h : aH) : Option (Int32 × aH) :=
  (wrF h a0 [9] 0 (.inl 0)).bind fun h101 =>
  (if x1 = 0 then
  (rdI h101 a0 [9] 1).bind fun x102 =>
  some (x102, h101)
  else
  (if x1 = 1 then
  (rdI h101 a0 [9] 13).bind fun x103 =>
  some (x103, h101)
  else
  (if x1 = 2 then
  (rdI h101 a0 [9] 16).bind fun x104 =>
  some (x104, h101)
  else
  (if x1 = 3 then
  (rdI h101 a0 [9] 20).bind fun x105 =>
  some (x105, h101)
  else
  (if x1 = 4 then
  (rdI h101 a0 [9] 32).bind fun x106 =>
  some (x106, h101)
  else
  (if x1 = 5 then
  (rdI h101 a0 [9] 25).bind fun x107 =>
  some (x107, h101)
  else
  (if x1 = 6 then
  (rdI h101 a0 [9] 26).bind fun x108 =>
  some (x108, h101)
  else
  some ((-3), h101))))))))
set_option maxHeartbeats 4000000 in
set_option maxRecDepth 100000 in
theorem xX11_told {l : Launch} {g : aG} {d : Nat} (hK : 0 ≤ d) {a0 : Nat} {x1 : Int32} {h : aH} {q : Int32 × aH} (hf : fX11_told g.2.2 a0 x1 h = some q) : Ev l g miX11_told d [.inr (.inr (some a0)), .inl x1] h (some (.inl q.1), q.2) := by
  refine ⟨?_, Or.inl rfl, Nat.le_of_ble_eq_true rfl⟩
  unfold fX11_told at hf
  show Y l g miX11_told d 0 [some (.inr (.inr (some a0))), some (.inl x1)] [] h _
  refine y_aload_n (i := 0) dX11_told_0 rfl rfl ?_
  refine y_iconst (v := 0) dX11_told_1 (by decide) ?_
  replace hf := bnd hf
  obtain ⟨h101, eh101, hf⟩ := hf
  refine y_put eh101 (pl11_1_m rfl) dX11_told_2 ?_
  refine y_iload_n (i := 1) dX11_told_5 rfl rfl ?_
  refine y_table dX11_told_6 [(0, 48), (1, 53), (2, 58), (3, 63), (4, 68), (5, 73), (6, 78)] 83 (by decide) (by decide) (by decide) (by decide) ?_
  refine y_swc (fun hc => ?_) (fun hc => ?_)
  · rw [if_pos hc] at hf
    refine y_aload_n (i := 0) dX11_told_48 rfl rfl ?_
    replace hf := bnd hf
    obtain ⟨x102, ex102, hf⟩ := hf
    refine y_getI ex102 fl11_108 dX11_told_49 ?_
    obtain rfl := Option.some.inj hf
    exact y_ret (v := some (.inl x102)) dX11_told_52 rfl
  rw [if_neg hc] at hf
  refine y_swc (fun hc => ?_) (fun hc => ?_)
  · rw [if_pos hc] at hf
    refine y_aload_n (i := 0) dX11_told_53 rfl rfl ?_
    replace hf := bnd hf
    obtain ⟨x103, ex103, hf⟩ := hf
    refine y_getI ex103 fl11_115 dX11_told_54 ?_
    obtain rfl := Option.some.inj hf
    exact y_ret (v := some (.inl x103)) dX11_told_57 rfl
  rw [if_neg hc] at hf
  refine y_swc (fun hc => ?_) (fun hc => ?_)
  · rw [if_pos hc] at hf
    refine y_aload_n (i := 0) dX11_told_58 rfl rfl ?_
    replace hf := bnd hf
    obtain ⟨x104, ex104, hf⟩ := hf
    refine y_getI ex104 fl11_314 dX11_told_59 ?_
    obtain rfl := Option.some.inj hf
    exact y_ret (v := some (.inl x104)) dX11_told_62 rfl
  rw [if_neg hc] at hf
  refine y_swc (fun hc => ?_) (fun hc => ?_)
  · rw [if_pos hc] at hf
    refine y_aload_n (i := 0) dX11_told_63 rfl rfl ?_
    replace hf := bnd hf
    obtain ⟨x105, ex105, hf⟩ := hf
    refine y_getI ex105 fl11_159 dX11_told_64 ?_
    obtain rfl := Option.some.inj hf
    exact y_ret (v := some (.inl x105)) dX11_told_67 rfl
  rw [if_neg hc] at hf
  refine y_swc (fun hc => ?_) (fun hc => ?_)
  · rw [if_pos hc] at hf
    refine y_aload_n (i := 0) dX11_told_68 rfl rfl ?_
    replace hf := bnd hf
    obtain ⟨x106, ex106, hf⟩ := hf
    refine y_getI ex106 fl11_233 dX11_told_69 ?_
    obtain rfl := Option.some.inj hf
    exact y_ret (v := some (.inl x106)) dX11_told_72 rfl
  rw [if_neg hc] at hf
  refine y_swc (fun hc => ?_) (fun hc => ?_)
  · rw [if_pos hc] at hf
    refine y_aload_n (i := 0) dX11_told_73 rfl rfl ?_
    replace hf := bnd hf
    obtain ⟨x107, ex107, hf⟩ := hf
    refine y_getI ex107 fl11_252 dX11_told_74 ?_
    obtain rfl := Option.some.inj hf
    exact y_ret (v := some (.inl x107)) dX11_told_77 rfl
  rw [if_neg hc] at hf
  refine y_swc (fun hc => ?_) (fun hc => ?_)
  · rw [if_pos hc] at hf
    refine y_aload_n (i := 0) dX11_told_78 rfl rfl ?_
    replace hf := bnd hf
    obtain ⟨x108, ex108, hf⟩ := hf
    refine y_getI ex108 fl11_295 dX11_told_79 ?_
    obtain rfl := Option.some.inj hf
    exact y_ret (v := some (.inl x108)) dX11_told_82 rfl
  rw [if_neg hc] at hf
  refine y_swn ?_
  refine y_bipush (v := (-3)) dX11_told_83 (by decide) ?_
  obtain rfl := Option.some.inj hf
  exact y_ret (v := some (.inl (-3))) dX11_told_85 rfl
set_option maxRecDepth 100000 in
theorem dX11_turn_0 : decode prog_13_method_53_code 0 = .ok (.aload_n 0, 1) := by decide +kernel
set_option maxRecDepth 100000 in
theorem dX11_turn_1 : decode prog_13_method_53_code 1 = .ok (.iconst 0, 1) := by decide +kernel
set_option maxRecDepth 100000 in
theorem dX11_turn_2 : decode prog_13_method_53_code 2 = .ok (.putfield 1, 3) := by decide +kernel
set_option maxRecDepth 100000 in
theorem dX11_turn_5 : decode prog_13_method_53_code 5 = .ok (.iload_n 1, 1) := by decide +kernel
set_option maxRecDepth 100000 in
theorem dX11_turn_6 : decode prog_13_method_53_code 6 = .ok (.i2l, 1) := by decide +kernel
set_option maxRecDepth 100000 in
theorem dX11_turn_7 : decode prog_13_method_53_code 7 = .ok (.lconst 0, 1) := by decide +kernel
set_option maxRecDepth 100000 in
theorem dX11_turn_8 : decode prog_13_method_53_code 8 = .ok (.aload_n 0, 1) := by decide +kernel
set_option maxRecDepth 100000 in
theorem dX11_turn_9 : decode prog_13_method_53_code 9 = .ok (.getfield 314, 3) := by decide +kernel
set_option maxRecDepth 100000 in
theorem dX11_turn_12 : decode prog_13_method_53_code 12 = .ok (.iconst 1, 1) := by decide +kernel
set_option maxRecDepth 100000 in
theorem dX11_turn_13 : decode prog_13_method_53_code 13 = .ok (.isub, 1) := by decide +kernel
set_option maxRecDepth 100000 in
theorem dX11_turn_14 : decode prog_13_method_53_code 14 = .ok (.i2l, 1) := by decide +kernel
set_option maxRecDepth 100000 in
theorem dX11_turn_15 : decode prog_13_method_53_code 15 = .ok (.invokestatic 111, 3) := by decide +kernel
set_option maxRecDepth 100000 in
theorem dX11_turn_18 : decode prog_13_method_53_code 18 = .ok (.ifCond .eq 11, 3) := by decide +kernel
set_option maxRecDepth 100000 in
theorem dX11_turn_21 : decode prog_13_method_53_code 21 = .ok (.aload_n 0, 1) := by decide +kernel
set_option maxRecDepth 100000 in
theorem dX11_turn_22 : decode prog_13_method_53_code 22 = .ok (.iload_n 2, 1) := by decide +kernel
set_option maxRecDepth 100000 in
theorem dX11_turn_23 : decode prog_13_method_53_code 23 = .ok (.invokevirtual 194, 3) := by decide +kernel
set_option maxRecDepth 100000 in
theorem dX11_turn_26 : decode prog_13_method_53_code 26 = .ok (.ifCond .ne 6, 3) := by decide +kernel
set_option maxRecDepth 100000 in
theorem dX11_turn_29 : decode prog_13_method_53_code 29 = .ok (.bipush (-2), 2) := by decide +kernel
set_option maxRecDepth 100000 in
theorem dX11_turn_31 : decode prog_13_method_53_code 31 = .ok (.ireturn, 1) := by decide +kernel
set_option maxRecDepth 100000 in
theorem dX11_turn_32 : decode prog_13_method_53_code 32 = .ok (.aload_n 0, 1) := by decide +kernel
set_option maxRecDepth 100000 in
theorem dX11_turn_33 : decode prog_13_method_53_code 33 = .ok (.getfield 60, 3) := by decide +kernel
set_option maxRecDepth 100000 in
theorem dX11_turn_36 : decode prog_13_method_53_code 36 = .ok (.iload_n 1, 1) := by decide +kernel
set_option maxRecDepth 100000 in
theorem dX11_turn_37 : decode prog_13_method_53_code 37 = .ok (.iaload, 1) := by decide +kernel
set_option maxRecDepth 100000 in
theorem dX11_turn_38 : decode prog_13_method_53_code 38 = .ok (.ifCond .lt 17, 3) := by decide +kernel
set_option maxRecDepth 100000 in
theorem dX11_turn_41 : decode prog_13_method_53_code 41 = .ok (.aload_n 0, 1) := by decide +kernel
set_option maxRecDepth 100000 in
theorem dX11_turn_42 : decode prog_13_method_53_code 42 = .ok (.iload_n 2, 1) := by decide +kernel
set_option maxRecDepth 100000 in
theorem dX11_turn_43 : decode prog_13_method_53_code 43 = .ok (.aload_n 0, 1) := by decide +kernel
set_option maxRecDepth 100000 in
theorem dX11_turn_44 : decode prog_13_method_53_code 44 = .ok (.getfield 54, 3) := by decide +kernel
set_option maxRecDepth 100000 in
theorem dX11_turn_47 : decode prog_13_method_53_code 47 = .ok (.iload_n 1, 1) := by decide +kernel
set_option maxRecDepth 100000 in
theorem dX11_turn_48 : decode prog_13_method_53_code 48 = .ok (.iaload, 1) := by decide +kernel
set_option maxRecDepth 100000 in
theorem dX11_turn_49 : decode prog_13_method_53_code 49 = .ok (.invokevirtual 317, 3) := by decide +kernel
set_option maxRecDepth 100000 in
theorem dX11_turn_52 : decode prog_13_method_53_code 52 = .ok (.ifCond .ne 6, 3) := by decide +kernel
set_option maxRecDepth 100000 in
theorem dX11_turn_55 : decode prog_13_method_53_code 55 = .ok (.bipush (-4), 2) := by decide +kernel
set_option maxRecDepth 100000 in
theorem dX11_turn_57 : decode prog_13_method_53_code 57 = .ok (.ireturn, 1) := by decide +kernel
set_option maxRecDepth 100000 in
theorem dX11_turn_58 : decode prog_13_method_53_code 58 = .ok (.aload_n 0, 1) := by decide +kernel
set_option maxRecDepth 100000 in
theorem dX11_turn_59 : decode prog_13_method_53_code 59 = .ok (.getfield 60, 3) := by decide +kernel
set_option maxRecDepth 100000 in
theorem dX11_turn_62 : decode prog_13_method_53_code 62 = .ok (.iload_n 1, 1) := by decide +kernel
set_option maxRecDepth 100000 in
theorem dX11_turn_63 : decode prog_13_method_53_code 63 = .ok (.iload_n 2, 1) := by decide +kernel
set_option maxRecDepth 100000 in
theorem dX11_turn_64 : decode prog_13_method_53_code 64 = .ok (.iastore, 1) := by decide +kernel
set_option maxRecDepth 100000 in
theorem dX11_turn_65 : decode prog_13_method_53_code 65 = .ok (.iconst 1, 1) := by decide +kernel
set_option maxRecDepth 100000 in
theorem dX11_turn_66 : decode prog_13_method_53_code 66 = .ok (.ireturn, 1) := by decide +kernel

def fX11_turn (z : Nat → Nat) (a0 : Nat) (x1 : Int32) (x2 : Int32) (h : aH) : Option (Int32 × aH) :=
  (wrF h a0 [9] 0 (.inl 0)).bind fun h101 =>
  (rdI h101 a0 [9] 16).bind fun x102 =>
  (fX11_in z (Int32.toInt64 x1) 0 (Int32.toInt64 (x102 - 1)) h101).bind fun q103 =>
  (if q103.1 = 0 then
  some ((-2), q103.2)
  else
  (obO q103.2 a0 9).bind fun fs105 =>
  (fX11_isHandle z a0 x2 q103.2).bind fun q104 =>
  (if q104.1 = 0 then
  some ((-2), q104.2)
  else
  (rdR q104.2 a0 [9] 19).bind fun r106 =>
  (r106).bind fun a107 =>
  (arI q104.2 a107 x1).bind fun x108 =>
  (if x108 < 0 then
  some ((-4), q104.2)
  else
  (rdR q104.2 a0 [9] 17).bind fun r109 =>
  (r109).bind fun a110 =>
  (arI q104.2 a110 x1).bind fun x111 =>
  (obO q104.2 a0 9).bind fun fs113 =>
  (fX11_areAlike z a0 x2 x111 q104.2).bind fun q112 =>
  (if q112.1 = 0 then
  some ((-4), q112.2)
  else
  (rdR q112.2 a0 [9] 19).bind fun r114 =>
  (r114).bind fun a115 =>
  (awI q112.2 a115 x1 x2).bind fun h116 =>
  some (1, h116)))))
set_option maxHeartbeats 4000000 in
set_option maxRecDepth 100000 in
theorem xX11_turn {l : Launch} {g : aG} {d : Nat} (hK : 2 ≤ d) {a0 : Nat} {x1 : Int32} {x2 : Int32} {h : aH} {q : Int32 × aH} (hf : fX11_turn g.2.2 a0 x1 x2 h = some q) : Ev l g miX11_turn d [.inr (.inr (some a0)), .inl x1, .inl x2] h (some (.inl q.1), q.2) := by
  obtain ⟨d, rfl⟩ : ∃ e, d = e + 1 := ⟨d - 1, by omega⟩
  refine ⟨?_, Or.inl rfl, Nat.le_of_ble_eq_true rfl⟩
  unfold fX11_turn at hf
  show Y l g miX11_turn (d + 1) 0 [some (.inr (.inr (some a0))), some (.inl x1), some (.inl x2)] [] h _
  refine y_aload_n (i := 0) dX11_turn_0 rfl rfl ?_
  refine y_iconst (v := 0) dX11_turn_1 (by decide) ?_
  replace hf := bnd hf
  obtain ⟨h101, eh101, hf⟩ := hf
  refine y_put eh101 (pl11_1_m rfl) dX11_turn_2 ?_
  refine y_iload_n (i := 1) dX11_turn_5 rfl rfl ?_
  refine y_i2l dX11_turn_6 ?_
  refine y_lconst (v := 0) dX11_turn_7 (by decide) ?_
  refine y_aload_n (i := 0) dX11_turn_8 rfl rfl ?_
  replace hf := bnd hf
  obtain ⟨x102, ex102, hf⟩ := hf
  refine y_getI ex102 fl11_314 dX11_turn_9 ?_
  refine y_iconst (v := 1) dX11_turn_12 (by decide) ?_
  refine y_isub dX11_turn_13 ?_
  refine y_i2l dX11_turn_14 ?_
  replace hf := bnd hf
  obtain ⟨q103, eq103, hf⟩ := hf
  refine y_callS (mj := miX11_in) (args := [.inr (.inl (Int32.toInt64 x1)), .inr (.inl 0), .inr (.inl (Int32.toInt64 (x102 - 1)))]) (st := []) dX11_turn_15 (gd_of 878 rfl rfl) (gd_of 879 rfl rfl) okX11_in (xX11_in (by omega) eq103) (Nat.le_of_ble_eq_true rfl) rfl ?_
  show Y l g miX11_turn (d + 1) 18 [some (.inr (.inr (some a0))), some (.inl x1), some (.inl x2)] [.inl q103.1] q103.2 _
  refine y_if_eq (tgt := 29) dX11_turn_18 (by decide) (fun hc => ?_) (fun hc => ?_)
  · rw [if_pos hc] at hf
    refine y_bipush (v := (-2)) dX11_turn_29 (by decide) ?_
    obtain rfl := Option.some.inj hf
    exact y_ret (v := some (.inl (-2))) dX11_turn_31 rfl
  · rw [if_neg hc] at hf
    refine y_aload_n (i := 0) dX11_turn_21 rfl rfl ?_
    refine y_iload_n (i := 2) dX11_turn_22 rfl rfl ?_
    replace hf := bnd hf
    obtain ⟨fs105, efs105, hf⟩ := hf
    replace hf := bnd hf
    obtain ⟨q104, eq104, hf⟩ := hf
    refine y_callV (mj := miX11_isHandle) (args := [.inl x2]) (st := []) dX11_turn_23 (gd_of 897 rfl rfl) (gd_of 899 rfl rfl) (gd_of 38 rfl rfl) okX11_isHandle (obO_spec efs105) rfl rfl (xX11_isHandle (by omega) eq104) (Nat.le_of_ble_eq_true rfl) rfl ?_
    show Y l g miX11_turn (d + 1) 26 [some (.inr (.inr (some a0))), some (.inl x1), some (.inl x2)] [.inl q104.1] q104.2 _
    refine y_if_ne (tgt := 32) dX11_turn_26 (by decide) (fun hc => ?_) (fun hc => ?_)
    · rw [if_neg hc] at hf
      refine y_aload_n (i := 0) dX11_turn_32 rfl rfl ?_
      replace hf := bnd hf
      obtain ⟨r106, er106, hf⟩ := hf
      refine y_getR er106 fl11_60 dX11_turn_33 ?_
      refine y_iload_n (i := 1) dX11_turn_36 rfl rfl ?_
      replace hf := bnd hf
      obtain ⟨a107, rfl, hf⟩ := hf
      replace hf := bnd hf
      obtain ⟨x108, ex108, hf⟩ := hf
      refine y_iaload ex108 dX11_turn_37 ?_
      refine y_if_lt (tgt := 55) dX11_turn_38 (by decide) (fun hc => ?_) (fun hc => ?_)
      · rw [if_pos hc] at hf
        refine y_bipush (v := (-4)) dX11_turn_55 (by decide) ?_
        obtain rfl := Option.some.inj hf
        exact y_ret (v := some (.inl (-4))) dX11_turn_57 rfl
      · rw [if_neg hc] at hf
        refine y_aload_n (i := 0) dX11_turn_41 rfl rfl ?_
        refine y_iload_n (i := 2) dX11_turn_42 rfl rfl ?_
        refine y_aload_n (i := 0) dX11_turn_43 rfl rfl ?_
        replace hf := bnd hf
        obtain ⟨r109, er109, hf⟩ := hf
        refine y_getR er109 fl11_54 dX11_turn_44 ?_
        refine y_iload_n (i := 1) dX11_turn_47 rfl rfl ?_
        replace hf := bnd hf
        obtain ⟨a110, rfl, hf⟩ := hf
        replace hf := bnd hf
        obtain ⟨x111, ex111, hf⟩ := hf
        refine y_iaload ex111 dX11_turn_48 ?_
        replace hf := bnd hf
        obtain ⟨fs113, efs113, hf⟩ := hf
        replace hf := bnd hf
        obtain ⟨q112, eq112, hf⟩ := hf
        refine y_callV (mj := miX11_areAlike) (args := [.inl x2, .inl x111]) (st := []) dX11_turn_49 (gd_of 1075 rfl rfl) (gd_of 1077 rfl rfl) (gd_of 70 rfl rfl) okX11_areAlike (obO_spec efs113) rfl rfl (xX11_areAlike (by omega) eq112) (Nat.le_of_ble_eq_true rfl) rfl ?_
        show Y l g miX11_turn (d + 1) 52 [some (.inr (.inr (some a0))), some (.inl x1), some (.inl x2)] [.inl q112.1] q112.2 _
        refine y_if_ne (tgt := 58) dX11_turn_52 (by decide) (fun hc => ?_) (fun hc => ?_)
        · rw [if_neg hc] at hf
          refine y_aload_n (i := 0) dX11_turn_58 rfl rfl ?_
          replace hf := bnd hf
          obtain ⟨r114, er114, hf⟩ := hf
          refine y_getR er114 fl11_60 dX11_turn_59 ?_
          refine y_iload_n (i := 1) dX11_turn_62 rfl rfl ?_
          refine y_iload_n (i := 2) dX11_turn_63 rfl rfl ?_
          replace hf := bnd hf
          obtain ⟨a115, rfl, hf⟩ := hf
          replace hf := bnd hf
          obtain ⟨h116, eh116, hf⟩ := hf
          refine y_iastore eh116 dX11_turn_64 ?_
          refine y_iconst (v := 1) dX11_turn_65 (by decide) ?_
          obtain rfl := Option.some.inj hf
          exact y_ret (v := some (.inl 1)) dX11_turn_66 rfl
        · rw [if_pos hc] at hf
          refine y_bipush (v := (-4)) dX11_turn_55 (by decide) ?_
          obtain rfl := Option.some.inj hf
          exact y_ret (v := some (.inl (-4))) dX11_turn_57 rfl
    · rw [if_pos hc] at hf
      refine y_bipush (v := (-2)) dX11_turn_29 (by decide) ?_
      obtain rfl := Option.some.inj hf
      exact y_ret (v := some (.inl (-2))) dX11_turn_31 rfl
