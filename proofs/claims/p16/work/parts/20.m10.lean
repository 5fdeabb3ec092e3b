set_option maxRecDepth 100000 in
theorem dX11_takeFrom_0 : decode prog_13_method_14_code 0 = .ok (.aload_n 0, 1) := by decide +kernel
set_option maxRecDepth 100000 in
theorem dX11_takeFrom_1 : decode prog_13_method_14_code 1 = .ok (.iconst 0, 1) := by decide +kernel
set_option maxRecDepth 100000 in
theorem dX11_takeFrom_2 : decode prog_13_method_14_code 2 = .ok (.putfield 118, 3) := by decide +kernel
set_option maxRecDepth 100000 in
theorem dX11_takeFrom_5 : decode prog_13_method_14_code 5 = .ok (.iload_n 2, 1) := by decide +kernel
set_option maxRecDepth 100000 in
theorem dX11_takeFrom_6 : decode prog_13_method_14_code 6 = .ok (.istore_n 3, 1) := by decide +kernel
set_option maxRecDepth 100000 in
theorem dX11_takeFrom_7 : decode prog_13_method_14_code 7 = .ok (.iload_n 3, 1) := by decide +kernel
set_option maxRecDepth 100000 in
theorem dX11_takeFrom_8 : decode prog_13_method_14_code 8 = .ok (.aload_n 0, 1) := by decide +kernel
set_option maxRecDepth 100000 in
theorem dX11_takeFrom_9 : decode prog_13_method_14_code 9 = .ok (.getfield 17, 3) := by decide +kernel
set_option maxRecDepth 100000 in
theorem dX11_takeFrom_12 : decode prog_13_method_14_code 12 = .ok (.iload_n 1, 1) := by decide +kernel
set_option maxRecDepth 100000 in
theorem dX11_takeFrom_13 : decode prog_13_method_14_code 13 = .ok (.iaload, 1) := by decide +kernel
set_option maxRecDepth 100000 in
theorem dX11_takeFrom_14 : decode prog_13_method_14_code 14 = .ok (.if_icmp .ge 39, 3) := by decide +kernel
set_option maxRecDepth 100000 in
theorem dX11_takeFrom_17 : decode prog_13_method_14_code 17 = .ok (.aload_n 0, 1) := by decide +kernel
set_option maxRecDepth 100000 in
theorem dX11_takeFrom_18 : decode prog_13_method_14_code 18 = .ok (.getfield 72, 3) := by decide +kernel
set_option maxRecDepth 100000 in
theorem dX11_takeFrom_21 : decode prog_13_method_14_code 21 = .ok (.aload_n 0, 1) := by decide +kernel
set_option maxRecDepth 100000 in
theorem dX11_takeFrom_22 : decode prog_13_method_14_code 22 = .ok (.getfield 118, 3) := by decide +kernel
set_option maxRecDepth 100000 in
theorem dX11_takeFrom_25 : decode prog_13_method_14_code 25 = .ok (.aload_n 0, 1) := by decide +kernel
set_option maxRecDepth 100000 in
theorem dX11_takeFrom_26 : decode prog_13_method_14_code 26 = .ok (.getfield 20, 3) := by decide +kernel
set_option maxRecDepth 100000 in
theorem dX11_takeFrom_29 : decode prog_13_method_14_code 29 = .ok (.bipush 6, 2) := by decide +kernel
set_option maxRecDepth 100000 in
theorem dX11_takeFrom_31 : decode prog_13_method_14_code 31 = .ok (.iload_n 1, 1) := by decide +kernel
set_option maxRecDepth 100000 in
theorem dX11_takeFrom_32 : decode prog_13_method_14_code 32 = .ok (.imul, 1) := by decide +kernel
set_option maxRecDepth 100000 in
theorem dX11_takeFrom_33 : decode prog_13_method_14_code 33 = .ok (.iload_n 3, 1) := by decide +kernel
set_option maxRecDepth 100000 in
theorem dX11_takeFrom_34 : decode prog_13_method_14_code 34 = .ok (.iadd, 1) := by decide +kernel
set_option maxRecDepth 100000 in
theorem dX11_takeFrom_35 : decode prog_13_method_14_code 35 = .ok (.iaload, 1) := by decide +kernel
set_option maxRecDepth 100000 in
theorem dX11_takeFrom_36 : decode prog_13_method_14_code 36 = .ok (.iastore, 1) := by decide +kernel
set_option maxRecDepth 100000 in
theorem dX11_takeFrom_37 : decode prog_13_method_14_code 37 = .ok (.aload_n 0, 1) := by decide +kernel
set_option maxRecDepth 100000 in
theorem dX11_takeFrom_38 : decode prog_13_method_14_code 38 = .ok (.dup, 1) := by decide +kernel
set_option maxRecDepth 100000 in
theorem dX11_takeFrom_39 : decode prog_13_method_14_code 39 = .ok (.getfield 118, 3) := by decide +kernel
set_option maxRecDepth 100000 in
theorem dX11_takeFrom_42 : decode prog_13_method_14_code 42 = .ok (.iconst 1, 1) := by decide +kernel
set_option maxRecDepth 100000 in
theorem dX11_takeFrom_43 : decode prog_13_method_14_code 43 = .ok (.iadd, 1) := by decide +kernel
set_option maxRecDepth 100000 in
theorem dX11_takeFrom_44 : decode prog_13_method_14_code 44 = .ok (.putfield 118, 3) := by decide +kernel
set_option maxRecDepth 100000 in
theorem dX11_takeFrom_47 : decode prog_13_method_14_code 47 = .ok (.iinc 3 1, 3) := by decide +kernel
set_option maxRecDepth 100000 in
theorem dX11_takeFrom_50 : decode prog_13_method_14_code 50 = .ok (.goto (-43), 3) := by decide +kernel
set_option maxRecDepth 100000 in
theorem dX11_takeFrom_53 : decode prog_13_method_14_code 53 = .ok (.return_, 1) := by decide +kernel
set_option maxRecDepth 100000 in
theorem pl11_118_m {mi : aM} {x : Int32} (ho : "HandleModelsModel" = mi.1.cls) : ∀ c ∈ ([9] : List Nat), FL mi.1.cls 118 c 28 ∧ FT c 28 (.inl x) ∧ FW mi c 28 := fun c h9 => by
  have h8 := fl11_118 c h9
  rw [← ho]
  refine ⟨h8, ?_⟩
  simp only [List.mem_cons, List.not_mem_nil, or_false] at h9
  rcases h9 with rfl
  · exact ⟨ft_int rfl (by decide +kernel), ⟨_, rfl, Or.inl rfl⟩⟩
def fX11_takeFrom_7 (z : Nat → Nat) : Nat → Nat → Int32 → Int32 → aH → Option aH
  | 0, _, _, _, _ => none
  | n + 1, a0, x1, x3, h => (rdR h a0 [9] 3).bind fun r101 =>
  (r101).bind fun a102 =>
  (arI h a102 x1).bind fun x103 =>
  (if x103 ≤ x3 then
  some h
  else
  (rdR h a0 [9] 27).bind fun r104 =>
  (rdI h a0 [9] 28).bind fun x105 =>
  (rdR h a0 [9] 4).bind fun r106 =>
  (r106).bind fun a107 =>
  (arI h a107 ((6 * x1) + x3)).bind fun x108 =>
  (r104).bind fun a109 =>
  (awI h a109 x105 x108).bind fun h110 =>
  (rdI h110 a0 [9] 28).bind fun x111 =>
  (wrF h110 a0 [9] 28 (.inl (x111 + 1))).bind fun h112 =>
  fX11_takeFrom_7 z n a0 x1 (x3 + 1) h112)
set_option maxHeartbeats 4000000 in
set_option maxRecDepth 100000 in
theorem xX11_takeFrom_7 {l : Launch} {g : aG} {d : Nat} (hK : 0 ≤ d) : ∀ (n : Nat) (a0 : Nat) (x1 : Int32) (x3 : Int32) (h : aH) (q : aH), fX11_takeFrom_7 g.2.2 n a0 x1 x3 h = some q → Y l g miX11_takeFrom d 7 [some (.inr (.inr (some a0))), some (.inl x1), none, some (.inl x3)] [] h (none, q) := by
  intro n
  induction n with
  | zero => intro a0 x1 x3 h q hf; simp [fX11_takeFrom_7] at hf
  | succ n ih =>
    intro a0 x1 x3 h q hf
    rw [fX11_takeFrom_7] at hf
    refine y_iload_n (i := 3) dX11_takeFrom_7 rfl rfl ?_
    refine y_aload_n (i := 0) dX11_takeFrom_8 rfl rfl ?_
    replace hf := bnd hf
    obtain ⟨r101, er101, hf⟩ := hf
    refine y_getR er101 fl11_17 dX11_takeFrom_9 ?_
    refine y_iload_n (i := 1) dX11_takeFrom_12 rfl rfl ?_
    replace hf := bnd hf
    obtain ⟨a102, rfl, hf⟩ := hf
    replace hf := bnd hf
    obtain ⟨x103, ex103, hf⟩ := hf
    refine y_iaload ex103 dX11_takeFrom_13 ?_
    refine y_icmp_ge (tgt := 53) dX11_takeFrom_14 (by decide) (fun hc => ?_) (fun hc => ?_)
    · rw [if_pos hc] at hf
      obtain rfl := Option.some.inj hf
      exact y_ret (v := none) dX11_takeFrom_53 rfl
    · rw [if_neg hc] at hf
      refine y_aload_n (i := 0) dX11_takeFrom_17 rfl rfl ?_
      replace hf := bnd hf
      obtain ⟨r104, er104, hf⟩ := hf
      refine y_getR er104 fl11_72 dX11_takeFrom_18 ?_
      refine y_aload_n (i := 0) dX11_takeFrom_21 rfl rfl ?_
      replace hf := bnd hf
      obtain ⟨x105, ex105, hf⟩ := hf
      refine y_getI ex105 fl11_118 dX11_takeFrom_22 ?_
      refine y_aload_n (i := 0) dX11_takeFrom_25 rfl rfl ?_
      replace hf := bnd hf
      obtain ⟨r106, er106, hf⟩ := hf
      refine y_getR er106 fl11_20 dX11_takeFrom_26 ?_
      refine y_bipush (v := 6) dX11_takeFrom_29 (by decide) ?_
      refine y_iload_n (i := 1) dX11_takeFrom_31 rfl rfl ?_
      refine y_imul dX11_takeFrom_32 ?_
      refine y_iload_n (i := 3) dX11_takeFrom_33 rfl rfl ?_
      refine y_iadd dX11_takeFrom_34 ?_
      replace hf := bnd hf
      obtain ⟨a107, rfl, hf⟩ := hf
      replace hf := bnd hf
      obtain ⟨x108, ex108, hf⟩ := hf
      refine y_iaload ex108 dX11_takeFrom_35 ?_
      replace hf := bnd hf
      obtain ⟨a109, rfl, hf⟩ := hf
      replace hf := bnd hf
      obtain ⟨h110, eh110, hf⟩ := hf
      refine y_iastore eh110 dX11_takeFrom_36 ?_
      refine y_aload_n (i := 0) dX11_takeFrom_37 rfl rfl ?_
      refine y_dup dX11_takeFrom_38 rfl ?_
      replace hf := bnd hf
      obtain ⟨x111, ex111, hf⟩ := hf
      refine y_getI ex111 fl11_118 dX11_takeFrom_39 ?_
      refine y_iconst (v := 1) dX11_takeFrom_42 (by decide) ?_
      refine y_iadd dX11_takeFrom_43 ?_
      replace hf := bnd hf
      obtain ⟨h112, eh112, hf⟩ := hf
      refine y_put eh112 (pl11_118_m rfl) dX11_takeFrom_44 ?_
      refine y_iinc (i := 3) (y := 1) (lv2 := [some (.inr (.inr (some a0))), some (.inl x1), none, some (.inl (x3 + 1))]) dX11_takeFrom_47 rfl (by decide) (by decide) rfl ?_
      refine y_goto (tgt := 7) dX11_takeFrom_50 (by decide) ?_
      refine Y.weak (lv2 := [some (.inr (.inr (some a0))), some (.inl x1), none, some (.inl (x3 + 1))]) [true, true, false, true] rfl ?_
      exact ih _ _ _ _ _ hf
def fX11_takeFrom (z : Nat → Nat) (a0 : Nat) (x1 : Int32) (x2 : Int32) (h : aH) : Option aH :=
  (wrF h a0 [9] 28 (.inl 0)).bind fun h101 =>
  fX11_takeFrom_7 z 4000 a0 x1 x2 h101
set_option maxHeartbeats 4000000 in
set_option maxRecDepth 100000 in
theorem xX11_takeFrom {l : Launch} {g : aG} {d : Nat} (hK : 0 ≤ d) {a0 : Nat} {x1 : Int32} {x2 : Int32} {h : aH} {q : aH} (hf : fX11_takeFrom g.2.2 a0 x1 x2 h = some q) : Ev l g miX11_takeFrom d [.inr (.inr (some a0)), .inl x1, .inl x2] h (none, q) := by
  refine ⟨?_, rfl, Nat.le_of_ble_eq_true rfl⟩
  unfold fX11_takeFrom at hf
  show Y l g miX11_takeFrom d 0 [some (.inr (.inr (some a0))), some (.inl x1), some (.inl x2), none] [] h _
  refine y_aload_n (i := 0) dX11_takeFrom_0 rfl rfl ?_
  refine y_iconst (v := 0) dX11_takeFrom_1 (by decide) ?_
  replace hf := bnd hf
  obtain ⟨h101, eh101, hf⟩ := hf
  refine y_put eh101 (pl11_118_m rfl) dX11_takeFrom_2 ?_
  refine y_iload_n (i := 2) dX11_takeFrom_5 rfl rfl ?_
  refine y_istore_n (i := 3) (lv2 := [some (.inr (.inr (some a0))), some (.inl x1), some (.inl x2), some (.inl x2)]) dX11_takeFrom_6 rfl (by decide) rfl ?_
  refine Y.weak (lv2 := [some (.inr (.inr (some a0))), some (.inl x1), none, some (.inl x2)]) [true, true, false, true] rfl ?_
  exact xX11_takeFrom_7 hK 4000 _ _ _ _ _ hf
set_option maxRecDepth 100000 in
theorem dX11_with_0 : decode prog_13_method_16_code 0 = .ok (.aload_n 0, 1) := by decide +kernel
set_option maxRecDepth 100000 in
theorem dX11_with_1 : decode prog_13_method_16_code 1 = .ok (.getfield 118, 3) := by decide +kernel
set_option maxRecDepth 100000 in
theorem dX11_with_4 : decode prog_13_method_16_code 4 = .ok (.istore_n 3, 1) := by decide +kernel
set_option maxRecDepth 100000 in
theorem dX11_with_5 : decode prog_13_method_16_code 5 = .ok (.iload_n 3, 1) := by decide +kernel
set_option maxRecDepth 100000 in
theorem dX11_with_6 : decode prog_13_method_16_code 6 = .ok (.iload_n 1, 1) := by decide +kernel
set_option maxRecDepth 100000 in
theorem dX11_with_7 : decode prog_13_method_16_code 7 = .ok (.if_icmp .le 23, 3) := by decide +kernel
set_option maxRecDepth 100000 in
theorem dX11_with_10 : decode prog_13_method_16_code 10 = .ok (.aload_n 0, 1) := by decide +kernel
set_option maxRecDepth 100000 in
theorem dX11_with_11 : decode prog_13_method_16_code 11 = .ok (.getfield 72, 3) := by decide +kernel
set_option maxRecDepth 100000 in
theorem dX11_with_14 : decode prog_13_method_16_code 14 = .ok (.iload_n 3, 1) := by decide +kernel
set_option maxRecDepth 100000 in
theorem dX11_with_15 : decode prog_13_method_16_code 15 = .ok (.aload_n 0, 1) := by decide +kernel
set_option maxRecDepth 100000 in
theorem dX11_with_16 : decode prog_13_method_16_code 16 = .ok (.getfield 72, 3) := by decide +kernel
set_option maxRecDepth 100000 in
theorem dX11_with_19 : decode prog_13_method_16_code 19 = .ok (.iload_n 3, 1) := by decide +kernel
set_option maxRecDepth 100000 in
theorem dX11_with_20 : decode prog_13_method_16_code 20 = .ok (.iconst 1, 1) := by decide +kernel
set_option maxRecDepth 100000 in
theorem dX11_with_21 : decode prog_13_method_16_code 21 = .ok (.isub, 1) := by decide +kernel
set_option maxRecDepth 100000 in
theorem dX11_with_22 : decode prog_13_method_16_code 22 = .ok (.iaload, 1) := by decide +kernel
set_option maxRecDepth 100000 in
theorem dX11_with_23 : decode prog_13_method_16_code 23 = .ok (.iastore, 1) := by decide +kernel
set_option maxRecDepth 100000 in
theorem dX11_with_24 : decode prog_13_method_16_code 24 = .ok (.iinc 3 (-1), 3) := by decide +kernel
set_option maxRecDepth 100000 in
theorem dX11_with_27 : decode prog_13_method_16_code 27 = .ok (.goto (-22), 3) := by decide +kernel
set_option maxRecDepth 100000 in
theorem dX11_with_30 : decode prog_13_method_16_code 30 = .ok (.aload_n 0, 1) := by decide +kernel
set_option maxRecDepth 100000 in
theorem dX11_with_31 : decode prog_13_method_16_code 31 = .ok (.getfield 72, 3) := by decide +kernel
set_option maxRecDepth 100000 in
theorem dX11_with_34 : decode prog_13_method_16_code 34 = .ok (.iload_n 1, 1) := by decide +kernel
set_option maxRecDepth 100000 in
theorem dX11_with_35 : decode prog_13_method_16_code 35 = .ok (.iload_n 2, 1) := by decide +kernel
set_option maxRecDepth 100000 in
theorem dX11_with_36 : decode prog_13_method_16_code 36 = .ok (.iastore, 1) := by decide +kernel
set_option maxRecDepth 100000 in
theorem dX11_with_37 : decode prog_13_method_16_code 37 = .ok (.aload_n 0, 1) := by decide +kernel
set_option maxRecDepth 100000 in
theorem dX11_with_38 : decode prog_13_method_16_code 38 = .ok (.dup, 1) := by decide +kernel
set_option maxRecDepth 100000 in
theorem dX11_with_39 : decode prog_13_method_16_code 39 = .ok (.getfield 118, 3) := by decide +kernel
set_option maxRecDepth 100000 in
theorem dX11_with_42 : decode prog_13_method_16_code 42 = .ok (.iconst 1, 1) := by decide +kernel
set_option maxRecDepth 100000 in
theorem dX11_with_43 : decode prog_13_method_16_code 43 = .ok (.iadd, 1) := by decide +kernel
set_option maxRecDepth 100000 in
theorem dX11_with_44 : decode prog_13_method_16_code 44 = .ok (.putfield 118, 3) := by decide +kernel
set_option maxRecDepth 100000 in
theorem dX11_with_47 : decode prog_13_method_16_code 47 = .ok (.return_, 1) := by decide +kernel

def fX11_with_5 (z : Nat → Nat) : Nat → Nat → Int32 → Int32 → Int32 → aH → Option aH
  | 0, _, _, _, _, _ => none
  | n + 1, a0, x1, x2, x3, h => (if x3 ≤ x1 then
  (rdR h a0 [9] 27).bind fun r101 =>
  (r101).bind fun a102 =>
  (awI h a102 x1 x2).bind fun h103 =>
  (rdI h103 a0 [9] 28).bind fun x104 =>
  (wrF h103 a0 [9] 28 (.inl (x104 + 1))).bind fun h105 =>
  some h105
  else
  (rdR h a0 [9] 27).bind fun r106 =>
  (rdR h a0 [9] 27).bind fun r107 =>
  (r107).bind fun a108 =>
  (arI h a108 (x3 - 1)).bind fun x109 =>
  (r106).bind fun a110 =>
  (awI h a110 x3 x109).bind fun h111 =>
  fX11_with_5 z n a0 x1 x2 (x3 + (-1)) h111)
set_option maxHeartbeats 4000000 in
set_option maxRecDepth 100000 in
theorem xX11_with_5 {l : Launch} {g : aG} {d : Nat} (hK : 0 ≤ d) : ∀ (n : Nat) (a0 : Nat) (x1 : Int32) (x2 : Int32) (x3 : Int32) (h : aH) (q : aH), fX11_with_5 g.2.2 n a0 x1 x2 x3 h = some q → Y l g miX11_with d 5 [some (.inr (.inr (some a0))), some (.inl x1), some (.inl x2), some (.inl x3)] [] h (none, q) := by
  intro n
  induction n with
  | zero => intro a0 x1 x2 x3 h q hf; simp [fX11_with_5] at hf
  | succ n ih =>
    intro a0 x1 x2 x3 h q hf
    rw [fX11_with_5] at hf
    refine y_iload_n (i := 3) dX11_with_5 rfl rfl ?_
    refine y_iload_n (i := 1) dX11_with_6 rfl rfl ?_
    refine y_icmp_le (tgt := 30) dX11_with_7 (by decide) (fun hc => ?_) (fun hc => ?_)
    · rw [if_pos hc] at hf
      refine y_aload_n (i := 0) dX11_with_30 rfl rfl ?_
      replace hf := bnd hf
      obtain ⟨r101, er101, hf⟩ := hf
      refine y_getR er101 fl11_72 dX11_with_31 ?_
      refine y_iload_n (i := 1) dX11_with_34 rfl rfl ?_
      refine y_iload_n (i := 2) dX11_with_35 rfl rfl ?_
      replace hf := bnd hf
      obtain ⟨a102, rfl, hf⟩ := hf
      replace hf := bnd hf
      obtain ⟨h103, eh103, hf⟩ := hf
      refine y_iastore eh103 dX11_with_36 ?_
      refine y_aload_n (i := 0) dX11_with_37 rfl rfl ?_
      refine y_dup dX11_with_38 rfl ?_
      replace hf := bnd hf
      obtain ⟨x104, ex104, hf⟩ := hf
      refine y_getI ex104 fl11_118 dX11_with_39 ?_
      refine y_iconst (v := 1) dX11_with_42 (by decide) ?_
      refine y_iadd dX11_with_43 ?_
      replace hf := bnd hf
      obtain ⟨h105, eh105, hf⟩ := hf
      refine y_put eh105 (pl11_118_m rfl) dX11_with_44 ?_
      obtain rfl := Option.some.inj hf
      exact y_ret (v := none) dX11_with_47 rfl
    · rw [if_neg hc] at hf
      refine y_aload_n (i := 0) dX11_with_10 rfl rfl ?_
      replace hf := bnd hf
      obtain ⟨r106, er106, hf⟩ := hf
      refine y_getR er106 fl11_72 dX11_with_11 ?_
      refine y_iload_n (i := 3) dX11_with_14 rfl rfl ?_
      refine y_aload_n (i := 0) dX11_with_15 rfl rfl ?_
      replace hf := bnd hf
      obtain ⟨r107, er107, hf⟩ := hf
      refine y_getR er107 fl11_72 dX11_with_16 ?_
      refine y_iload_n (i := 3) dX11_with_19 rfl rfl ?_
      refine y_iconst (v := 1) dX11_with_20 (by decide) ?_
      refine y_isub dX11_with_21 ?_
      replace hf := bnd hf
      obtain ⟨a108, rfl, hf⟩ := hf
      replace hf := bnd hf
      obtain ⟨x109, ex109, hf⟩ := hf
      refine y_iaload ex109 dX11_with_22 ?_
      replace hf := bnd hf
      obtain ⟨a110, rfl, hf⟩ := hf
      replace hf := bnd hf
      obtain ⟨h111, eh111, hf⟩ := hf
      refine y_iastore eh111 dX11_with_23 ?_
      refine y_iinc (i := 3) (y := (-1)) (lv2 := [some (.inr (.inr (some a0))), some (.inl x1), some (.inl x2), some (.inl (x3 + (-1)))]) dX11_with_24 rfl (by decide) (by decide) rfl ?_
      refine y_goto (tgt := 5) dX11_with_27 (by decide) ?_
      refine Y.weak (lv2 := [some (.inr (.inr (some a0))), some (.inl x1), some (.inl x2), some (.inl (x3 + (-1)))]) [true, true, true, true] rfl ?_
      exact ih _ _ _ _ _ _ hf
def fX11_with (z : Nat → Nat) (a0 : Nat) (x1 : Int32) (x2 : Int32) (h : aH) : Option aH :=
  (rdI h a0 [9] 28).bind fun x101 =>
  fX11_with_5 z 4000 a0 x1 x2 x101 h
set_option maxHeartbeats 4000000 in
set_option maxRecDepth 100000 in
theorem xX11_with {l : Launch} {g : aG} {d : Nat} (hK : 0 ≤ d) {a0 : Nat} {x1 : Int32} {x2 : Int32} {h : aH} {q : aH} (hf : fX11_with g.2.2 a0 x1 x2 h = some q) : Ev l g miX11_with d [.inr (.inr (some a0)), .inl x1, .inl x2] h (none, q) := by
  refine ⟨?_, rfl, Nat.le_of_ble_eq_true rfl⟩
  unfold fX11_with at hf
  show Y l g miX11_with d 0 [some (.inr (.inr (some a0))), some (.inl x1), some (.inl x2), none] [] h _
  refine y_aload_n (i := 0) dX11_with_0 rfl rfl ?_
  replace hf := bnd hf
  obtain ⟨x101, ex101, hf⟩ := hf
  refine y_getI ex101 fl11_118 dX11_with_1 ?_
  refine y_istore_n (i := 3) (lv2 := [some (.inr (.inr (some a0))), some (.inl x1), some (.inl x2), some (.inl x101)]) dX11_with_4 rfl (by decide) rfl ?_
  refine Y.weak (lv2 := [some (.inr (.inr (some a0))), some (.inl x1), some (.inl x2), some (.inl x101)]) [true, true, true, true] rfl ?_
  exact xX11_with_5 hK 4000 _ _ _ _ _ _ hf
set_option maxRecDepth 100000 in
theorem dX11_without_0 : decode prog_13_method_15_code 0 = .ok (.iload_n 1, 1) := by decide +kernel
set_option maxRecDepth 100000 in
theorem dX11_without_1 : decode prog_13_method_15_code 1 = .ok (.istore_n 2, 1) := by decide +kernel
set_option maxRecDepth 100000 in
theorem dX11_without_2 : decode prog_13_method_15_code 2 = .ok (.iload_n 2, 1) := by decide +kernel
set_option maxRecDepth 100000 in
theorem dX11_without_3 : decode prog_13_method_15_code 3 = .ok (.aload_n 0, 1) := by decide +kernel
set_option maxRecDepth 100000 in
theorem dX11_without_4 : decode prog_13_method_15_code 4 = .ok (.getfield 118, 3) := by decide +kernel
set_option maxRecDepth 100000 in
theorem dX11_without_7 : decode prog_13_method_15_code 7 = .ok (.iconst 1, 1) := by decide +kernel
set_option maxRecDepth 100000 in
theorem dX11_without_8 : decode prog_13_method_15_code 8 = .ok (.isub, 1) := by decide +kernel
set_option maxRecDepth 100000 in
theorem dX11_without_9 : decode prog_13_method_15_code 9 = .ok (.if_icmp .ge 23, 3) := by decide +kernel
set_option maxRecDepth 100000 in
theorem dX11_without_12 : decode prog_13_method_15_code 12 = .ok (.aload_n 0, 1) := by decide +kernel
set_option maxRecDepth 100000 in
theorem dX11_without_13 : decode prog_13_method_15_code 13 = .ok (.getfield 72, 3) := by decide +kernel
set_option maxRecDepth 100000 in
theorem dX11_without_16 : decode prog_13_method_15_code 16 = .ok (.iload_n 2, 1) := by decide +kernel
set_option maxRecDepth 100000 in
theorem dX11_without_17 : decode prog_13_method_15_code 17 = .ok (.aload_n 0, 1) := by decide +kernel
set_option maxRecDepth 100000 in
theorem dX11_without_18 : decode prog_13_method_15_code 18 = .ok (.getfield 72, 3) := by decide +kernel
set_option maxRecDepth 100000 in
theorem dX11_without_21 : decode prog_13_method_15_code 21 = .ok (.iload_n 2, 1) := by decide +kernel
set_option maxRecDepth 100000 in
theorem dX11_without_22 : decode prog_13_method_15_code 22 = .ok (.iconst 1, 1) := by decide +kernel
set_option maxRecDepth 100000 in
theorem dX11_without_23 : decode prog_13_method_15_code 23 = .ok (.iadd, 1) := by decide +kernel
set_option maxRecDepth 100000 in
theorem dX11_without_24 : decode prog_13_method_15_code 24 = .ok (.iaload, 1) := by decide +kernel
set_option maxRecDepth 100000 in
theorem dX11_without_25 : decode prog_13_method_15_code 25 = .ok (.iastore, 1) := by decide +kernel
set_option maxRecDepth 100000 in
theorem dX11_without_26 : decode prog_13_method_15_code 26 = .ok (.iinc 2 1, 3) := by decide +kernel
set_option maxRecDepth 100000 in
theorem dX11_without_29 : decode prog_13_method_15_code 29 = .ok (.goto (-27), 3) := by decide +kernel
set_option maxRecDepth 100000 in
theorem dX11_without_32 : decode prog_13_method_15_code 32 = .ok (.aload_n 0, 1) := by decide +kernel
set_option maxRecDepth 100000 in
theorem dX11_without_33 : decode prog_13_method_15_code 33 = .ok (.dup, 1) := by decide +kernel
set_option maxRecDepth 100000 in
theorem dX11_without_34 : decode prog_13_method_15_code 34 = .ok (.getfield 118, 3) := by decide +kernel
set_option maxRecDepth 100000 in
theorem dX11_without_37 : decode prog_13_method_15_code 37 = .ok (.iconst 1, 1) := by decide +kernel
set_option maxRecDepth 100000 in
theorem dX11_without_38 : decode prog_13_method_15_code 38 = .ok (.isub, 1) := by decide +kernel
set_option maxRecDepth 100000 in
theorem dX11_without_39 : decode prog_13_method_15_code 39 = .ok (.putfield 118, 3) := by decide +kernel
set_option maxRecDepth 100000 in
theorem dX11_without_42 : decode prog_13_method_15_code 42 = .ok (.return_, 1) := by decide +kernel

def fX11_without_2 (z : Nat → Nat) : Nat → Nat → Int32 → aH → Option aH
  | 0, _, _, _ => none
  | n + 1, a0, x2, h => (rdI h a0 [9] 28).bind fun x101 =>
  (if (x101 - 1) ≤ x2 then
  (rdI h a0 [9] 28).bind fun x102 =>
  (wrF h a0 [9] 28 (.inl (x102 - 1))).bind fun h103 =>
  some h103
  else
  (rdR h a0 [9] 27).bind fun r104 =>
  (rdR h a0 [9] 27).bind fun r105 =>
  (r105).bind fun a106 =>
  (arI h a106 (x2 + 1)).bind fun x107 =>
  (r104).bind fun a108 =>
  (awI h a108 x2 x107).bind fun h109 =>
  fX11_without_2 z n a0 (x2 + 1) h109)
set_option maxHeartbeats 4000000 in
set_option maxRecDepth 100000 in
theorem xX11_without_2 {l : Launch} {g : aG} {d : Nat} (hK : 0 ≤ d) : ∀ (n : Nat) (a0 : Nat) (x2 : Int32) (h : aH) (q : aH), fX11_without_2 g.2.2 n a0 x2 h = some q → Y l g miX11_without d 2 [some (.inr (.inr (some a0))), none, some (.inl x2)] [] h (none, q) := by
  intro n
  induction n with
  | zero => intro a0 x2 h q hf; simp [fX11_without_2] at hf
  | succ n ih =>
    intro a0 x2 h q hf
    rw [fX11_without_2] at hf
    refine y_iload_n (i := 2) dX11_without_2 rfl rfl ?_
    refine y_aload_n (i := 0) dX11_without_3 rfl rfl ?_
    replace hf := bnd hf
    obtain ⟨x101, ex101, hf⟩ := hf
    refine y_getI ex101 fl11_118 dX11_without_4 ?_
    refine y_iconst (v := 1) dX11_without_7 (by decide) ?_
    refine y_isub dX11_without_8 ?_
    refine y_icmp_ge (tgt := 32) dX11_without_9 (by decide) (fun hc => ?_) (fun hc => ?_)
    · rw [if_pos hc] at hf
      refine y_aload_n (i := 0) dX11_without_32 rfl rfl ?_
      refine y_dup dX11_without_33 rfl ?_
      replace hf := bnd hf
      obtain ⟨x102, ex102, hf⟩ := hf
      refine y_getI ex102 fl11_118 dX11_without_34 ?_
      refine y_iconst (v := 1) dX11_without_37 (by decide) ?_
      refine y_isub dX11_without_38 ?_
      replace hf := bnd hf
      obtain ⟨h103, eh103, hf⟩ := hf
      refine y_put eh103 (pl11_118_m rfl) dX11_without_39 ?_
      obtain rfl := Option.some.inj hf
      exact y_ret (v := none) dX11_without_42 rfl
    · rw [if_neg hc] at hf
      refine y_aload_n (i := 0) dX11_without_12 rfl rfl ?_
      replace hf := bnd hf
      obtain ⟨r104, er104, hf⟩ := hf
      refine y_getR er104 fl11_72 dX11_without_13 ?_
      refine y_iload_n (i := 2) dX11_without_16 rfl rfl ?_
      refine y_aload_n (i := 0) dX11_without_17 rfl rfl ?_
      replace hf := bnd hf
      obtain ⟨r105, er105, hf⟩ := hf
      refine y_getR er105 fl11_72 dX11_without_18 ?_
      refine y_iload_n (i := 2) dX11_without_21 rfl rfl ?_
      refine y_iconst (v := 1) dX11_without_22 (by decide) ?_
      refine y_iadd dX11_without_23 ?_
      replace hf := bnd hf
      obtain ⟨a106, rfl, hf⟩ := hf
      replace hf := bnd hf
      obtain ⟨x107, ex107, hf⟩ := hf
      refine y_iaload ex107 dX11_without_24 ?_
      replace hf := bnd hf
      obtain ⟨a108, rfl, hf⟩ := hf
      replace hf := bnd hf
      obtain ⟨h109, eh109, hf⟩ := hf
      refine y_iastore eh109 dX11_without_25 ?_
      refine y_iinc (i := 2) (y := 1) (lv2 := [some (.inr (.inr (some a0))), none, some (.inl (x2 + 1))]) dX11_without_26 rfl (by decide) (by decide) rfl ?_
      refine y_goto (tgt := 2) dX11_without_29 (by decide) ?_
      refine Y.weak (lv2 := [some (.inr (.inr (some a0))), none, some (.inl (x2 + 1))]) [true, false, true] rfl ?_
      exact ih _ _ _ _ hf
def fX11_without (z : Nat → Nat) (a0 : Nat) (x1 : Int32) (h : aH) : Option aH :=
  fX11_without_2 z 4000 a0 x1 h
set_option maxHeartbeats 4000000 in
set_option maxRecDepth 100000 in
theorem xX11_without {l : Launch} {g : aG} {d : Nat} (hK : 0 ≤ d) {a0 : Nat} {x1 : Int32} {h : aH} {q : aH} (hf : fX11_without g.2.2 a0 x1 h = some q) : Ev l g miX11_without d [.inr (.inr (some a0)), .inl x1] h (none, q) := by
  refine ⟨?_, rfl, Nat.le_of_ble_eq_true rfl⟩
  unfold fX11_without at hf
  show Y l g miX11_without d 0 [some (.inr (.inr (some a0))), some (.inl x1), none] [] h _
  refine y_iload_n (i := 1) dX11_without_0 rfl rfl ?_
  refine y_istore_n (i := 2) (lv2 := [some (.inr (.inr (some a0))), some (.inl x1), some (.inl x1)]) dX11_without_1 rfl (by decide) rfl ?_
  refine Y.weak (lv2 := [some (.inr (.inr (some a0))), none, some (.inl x1)]) [true, false, true] rfl ?_
  exact xX11_without_2 hK 4000 _ _ _ _ hf
