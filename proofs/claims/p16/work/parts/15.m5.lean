set_option maxRecDepth 100000 in
theorem dX6_folded_0 : decode prog_8_method_9_code 0 = .ok (.aload_n 1, 1) := by decide +kernel
set_option maxRecDepth 100000 in
theorem dX6_folded_1 : decode prog_8_method_9_code 1 = .ok (.getfield 72, 3) := by decide +kernel
set_option maxRecDepth 100000 in
theorem dX6_folded_4 : decode prog_8_method_9_code 4 = .ok (.iconst 4, 1) := by decide +kernel
set_option maxRecDepth 100000 in
theorem dX6_folded_5 : decode prog_8_method_9_code 5 = .ok (.if_icmp .ne 18, 3) := by decide +kernel
set_option maxRecDepth 100000 in
theorem dX6_folded_8 : decode prog_8_method_9_code 8 = .ok (.aload_n 0, 1) := by decide +kernel
set_option maxRecDepth 100000 in
theorem dX6_folded_9 : decode prog_8_method_9_code 9 = .ok (.iconst 0, 1) := by decide +kernel
set_option maxRecDepth 100000 in
theorem dX6_folded_10 : decode prog_8_method_9_code 10 = .ok (.aload_n 1, 1) := by decide +kernel
set_option maxRecDepth 100000 in
theorem dX6_folded_11 : decode prog_8_method_9_code 11 = .ok (.invokevirtual 89, 3) := by decide +kernel
set_option maxRecDepth 100000 in
theorem dX6_folded_14 : decode prog_8_method_9_code 14 = .ok (.ifCond .eq 7, 3) := by decide +kernel
set_option maxRecDepth 100000 in
theorem dX6_folded_17 : decode prog_8_method_9_code 17 = .ok (.aload_n 0, 1) := by decide +kernel
set_option maxRecDepth 100000 in
theorem dX6_folded_18 : decode prog_8_method_9_code 18 = .ok (.goto 4, 3) := by decide +kernel
set_option maxRecDepth 100000 in
theorem dX6_folded_21 : decode prog_8_method_9_code 21 = .ok (.aconst_null, 1) := by decide +kernel
set_option maxRecDepth 100000 in
theorem dX6_folded_22 : decode prog_8_method_9_code 22 = .ok (.areturn, 1) := by decide +kernel
set_option maxRecDepth 100000 in
theorem dX6_folded_23 : decode prog_8_method_9_code 23 = .ok (.aload_n 0, 1) := by decide +kernel
set_option maxRecDepth 100000 in
theorem dX6_folded_24 : decode prog_8_method_9_code 24 = .ok (.iconst 0, 1) := by decide +kernel
set_option maxRecDepth 100000 in
theorem dX6_folded_25 : decode prog_8_method_9_code 25 = .ok (.invokevirtual 75, 3) := by decide +kernel
set_option maxRecDepth 100000 in
theorem dX6_folded_28 : decode prog_8_method_9_code 28 = .ok (.aload_n 1, 1) := by decide +kernel
set_option maxRecDepth 100000 in
theorem dX6_folded_29 : decode prog_8_method_9_code 29 = .ok (.getfield 72, 3) := by decide +kernel
set_option maxRecDepth 100000 in
theorem dX6_folded_32 : decode prog_8_method_9_code 32 = .ok (.if_icmp .ne 24, 3) := by decide +kernel
set_option maxRecDepth 100000 in
theorem dX6_folded_35 : decode prog_8_method_9_code 35 = .ok (.aload_n 0, 1) := by decide +kernel
set_option maxRecDepth 100000 in
theorem dX6_folded_36 : decode prog_8_method_9_code 36 = .ok (.iconst 1, 1) := by decide +kernel
set_option maxRecDepth 100000 in
theorem dX6_folded_37 : decode prog_8_method_9_code 37 = .ok (.aload_n 1, 1) := by decide +kernel
set_option maxRecDepth 100000 in
theorem dX6_folded_38 : decode prog_8_method_9_code 38 = .ok (.invokevirtual 89, 3) := by decide +kernel
set_option maxRecDepth 100000 in
theorem dX6_folded_41 : decode prog_8_method_9_code 41 = .ok (.ifCond .eq 15, 3) := by decide +kernel
set_option maxRecDepth 100000 in
theorem dX6_folded_44 : decode prog_8_method_9_code 44 = .ok (.aload_n 0, 1) := by decide +kernel
set_option maxRecDepth 100000 in
theorem dX6_folded_45 : decode prog_8_method_9_code 45 = .ok (.iconst 0, 1) := by decide +kernel
set_option maxRecDepth 100000 in
theorem dX6_folded_46 : decode prog_8_method_9_code 46 = .ok (.iconst 1, 1) := by decide +kernel
set_option maxRecDepth 100000 in
theorem dX6_folded_47 : decode prog_8_method_9_code 47 = .ok (.getstatic 17, 3) := by decide +kernel
set_option maxRecDepth 100000 in
theorem dX6_folded_50 : decode prog_8_method_9_code 50 = .ok (.invokevirtual 60, 3) := by decide +kernel
set_option maxRecDepth 100000 in
theorem dX6_folded_53 : decode prog_8_method_9_code 53 = .ok (.goto 4, 3) := by decide +kernel
set_option maxRecDepth 100000 in
theorem dX6_folded_56 : decode prog_8_method_9_code 56 = .ok (.aconst_null, 1) := by decide +kernel
set_option maxRecDepth 100000 in
theorem dX6_folded_57 : decode prog_8_method_9_code 57 = .ok (.areturn, 1) := by decide +kernel
set_option maxRecDepth 100000 in
theorem okX8_spliced : mOk miX8_spliced 3 := ⟨(gd_of 326 rfl rfl), (gd_of 79 rfl rfl), by decide +kernel, ⟨by decide +kernel, by decide +kernel, by decide +kernel⟩, by decide⟩
def fX6_folded (z : Nat → Nat) (r0 : Option Nat) (r1 : Option Nat) (h : aH) : Option (Option Nat × aH) :=
  (r1).bind fun a101 =>
  (rdI h a101 [6] 1).bind fun x102 =>
  (if x102 = 4 then
  (r0).bind fun a112 =>
  (obO h a112 6).bind fun fs113 =>
  (fX8_hasFrom z a112 0 (some a101) h).bind fun q111 =>
  (if q111.1 = 0 then
  some (none, q111.2)
  else
  some ((some a112), q111.2))
  else
  (r0).bind fun a104 =>
  (obO h a104 6).bind fun fs105 =>
  (fX8_at z a104 0 h).bind fun q103 =>
  (rdI q103.2 a101 [6] 1).bind fun x106 =>
  (if q103.1 = x106 then
  (obO q103.2 a104 6).bind fun fs108 =>
  (fX8_hasFrom z a104 1 (some a101) q103.2).bind fun q107 =>
  (if q107.1 = 0 then
  some (none, q107.2)
  else
  (obO q107.2 a104 6).bind fun fs110 =>
  (fX8_spliced z a104 0 1 (some (z 0)) q107.2).bind fun q109 =>
  some (q109.1, q109.2))
  else
  some (none, q103.2)))
set_option maxHeartbeats 4000000 in
set_option maxRecDepth 100000 in
theorem xX6_folded {l : Launch} {g : aG} {d : Nat} (hK : 3 ≤ d) {r0 : Option Nat} {r1 : Option Nat} {h : aH} {q : Option Nat × aH} (hf : fX6_folded g.2.2 r0 r1 h = some q) : Ev l g miX6_folded d [.inr (.inr r0), .inr (.inr r1)] h (some (.inr (.inr q.1)), q.2) := by
  obtain ⟨d, rfl⟩ : ∃ e, d = e + 1 := ⟨d - 1, by omega⟩
  refine ⟨?_, Or.inl ⟨_, rfl⟩, Nat.le_of_ble_eq_true rfl⟩
  unfold fX6_folded at hf
  show Y l g miX6_folded (d + 1) 0 [some (.inr (.inr r0)), some (.inr (.inr r1))] [] h _
  refine y_aload_n (i := 1) dX6_folded_0 rfl rfl ?_
  replace hf := bnd hf
  obtain ⟨a101, rfl, hf⟩ := hf
  replace hf := bnd hf
  obtain ⟨x102, ex102, hf⟩ := hf
  refine y_getI ex102 fl6_72 dX6_folded_1 ?_
  refine y_iconst (v := 4) dX6_folded_4 (by decide) ?_
  refine y_icmp_ne (tgt := 23) dX6_folded_5 (by decide) (fun hc => ?_) (fun hc => ?_)
  · rw [if_neg hc] at hf
    refine y_aload_n (i := 0) dX6_folded_23 rfl rfl ?_
    refine y_iconst (v := 0) dX6_folded_24 (by decide) ?_
    replace hf := bnd hf
    obtain ⟨a104, rfl, hf⟩ := hf
    replace hf := bnd hf
    obtain ⟨fs105, efs105, hf⟩ := hf
    replace hf := bnd hf
    obtain ⟨q103, eq103, hf⟩ := hf
    refine y_callV (mj := miX8_at) (args := [.inl 0]) (st := []) dX6_folded_25 (gd_of 339 rfl rfl) (gd_of 340 rfl rfl) (gd_of 341 rfl rfl) okX8_at (obO_spec efs105) rfl rfl (xX8_at (by omega) eq103) (Nat.le_of_ble_eq_true rfl) rfl ?_
    show Y l g miX6_folded (d + 1) 28 [some (.inr (.inr (some a104))), some (.inr (.inr (some a101)))] [.inl q103.1] q103.2 _
    refine y_aload_n (i := 1) dX6_folded_28 rfl rfl ?_
    replace hf := bnd hf
    obtain ⟨x106, ex106, hf⟩ := hf
    refine y_getI ex106 fl6_72 dX6_folded_29 ?_
    refine y_icmp_ne (tgt := 56) dX6_folded_32 (by decide) (fun hc => ?_) (fun hc => ?_)
    · rw [if_neg hc] at hf
      refine y_null dX6_folded_56 ?_
      obtain rfl := Option.some.inj hf
      exact y_ret (v := some (.inr (.inr none))) dX6_folded_57 rfl
    · rw [if_pos hc] at hf
      refine y_aload_n (i := 0) dX6_folded_35 rfl rfl ?_
      refine y_iconst (v := 1) dX6_folded_36 (by decide) ?_
      refine y_aload_n (i := 1) dX6_folded_37 rfl rfl ?_
      replace hf := bnd hf
      obtain ⟨fs108, efs108, hf⟩ := hf
      replace hf := bnd hf
      obtain ⟨q107, eq107, hf⟩ := hf
      refine y_callV (mj := miX8_hasFrom) (args := [.inl 1, .inr (.inr (some a101))]) (st := []) dX6_folded_38 (gd_of 346 rfl rfl) (gd_of 347 rfl rfl) (gd_of 348 rfl rfl) okX8_hasFrom (obO_spec efs108) rfl rfl (xX8_hasFrom (by omega) eq107) (Nat.le_of_ble_eq_true rfl) rfl ?_
      show Y l g miX6_folded (d + 1) 41 [some (.inr (.inr (some a104))), some (.inr (.inr (some a101)))] [.inl q107.1] q107.2 _
      refine y_if_eq (tgt := 56) dX6_folded_41 (by decide) (fun hc => ?_) (fun hc => ?_)
      · rw [if_pos hc] at hf
        refine y_null dX6_folded_56 ?_
        obtain rfl := Option.some.inj hf
        exact y_ret (v := some (.inr (.inr none))) dX6_folded_57 rfl
      · rw [if_neg hc] at hf
        refine y_aload_n (i := 0) dX6_folded_44 rfl rfl ?_
        refine y_iconst (v := 0) dX6_folded_45 (by decide) ?_
        refine y_iconst (v := 1) dX6_folded_46 (by decide) ?_
        refine y_gets (i := 0) rfl (Or.inr ⟨"HandleModels", by simp [nWs]⟩) dX6_folded_47 ?_
        replace hf := bnd hf
        obtain ⟨fs110, efs110, hf⟩ := hf
        replace hf := bnd hf
        obtain ⟨q109, eq109, hf⟩ := hf
        refine y_callV (mj := miX8_spliced) (args := [.inl 0, .inl 1, .inr (.inr (some (g.2.2 0)))]) (st := []) dX6_folded_50 (gd_of 323 rfl rfl) (gd_of 324 rfl rfl) (gd_of 325 rfl rfl) okX8_spliced (obO_spec efs110) rfl rfl (xX8_spliced (by omega) eq109) (Nat.le_of_ble_eq_true rfl) rfl ?_
        show Y l g miX6_folded (d + 1) 53 [some (.inr (.inr (some a104))), some (.inr (.inr (some a101)))] [.inr (.inr q109.1)] q109.2 _
        refine y_goto (tgt := 57) dX6_folded_53 (by decide) ?_
        obtain rfl := Option.some.inj hf
        exact y_ret (v := some (.inr (.inr q109.1))) dX6_folded_57 rfl
  · rw [if_pos hc] at hf
    refine y_aload_n (i := 0) dX6_folded_8 rfl rfl ?_
    refine y_iconst (v := 0) dX6_folded_9 (by decide) ?_
    refine y_aload_n (i := 1) dX6_folded_10 rfl rfl ?_
    replace hf := bnd hf
    obtain ⟨a112, rfl, hf⟩ := hf
    replace hf := bnd hf
    obtain ⟨fs113, efs113, hf⟩ := hf
    replace hf := bnd hf
    obtain ⟨q111, eq111, hf⟩ := hf
    refine y_callV (mj := miX8_hasFrom) (args := [.inl 0, .inr (.inr (some a101))]) (st := []) dX6_folded_11 (gd_of 346 rfl rfl) (gd_of 347 rfl rfl) (gd_of 348 rfl rfl) okX8_hasFrom (obO_spec efs113) rfl rfl (xX8_hasFrom (by omega) eq111) (Nat.le_of_ble_eq_true rfl) rfl ?_
    show Y l g miX6_folded (d + 1) 14 [some (.inr (.inr (some a112))), some (.inr (.inr (some a101)))] [.inl q111.1] q111.2 _
    refine y_if_eq (tgt := 21) dX6_folded_14 (by decide) (fun hc => ?_) (fun hc => ?_)
    · rw [if_pos hc] at hf
      refine y_null dX6_folded_21 ?_
      obtain rfl := Option.some.inj hf
      exact y_ret (v := some (.inr (.inr none))) dX6_folded_22 rfl
    · rw [if_neg hc] at hf
      refine y_aload_n (i := 0) dX6_folded_17 rfl rfl ?_
      refine y_goto (tgt := 22) dX6_folded_18 (by decide) ?_
      obtain rfl := Option.some.inj hf
      exact y_ret (v := some (.inr (.inr (some a112)))) dX6_folded_22 rfl
set_option maxRecDepth 100000 in
theorem dX6_gathered_0 : decode prog_8_method_13_code 0 = .ok (.aload_n 0, 1) := by decide +kernel
set_option maxRecDepth 100000 in
theorem dX6_gathered_1 : decode prog_8_method_13_code 1 = .ok (.invokevirtual 36, 3) := by decide +kernel
set_option maxRecDepth 100000 in
theorem dX6_gathered_4 : decode prog_8_method_13_code 4 = .ok (.iconst 1, 1) := by decide +kernel
set_option maxRecDepth 100000 in
theorem dX6_gathered_5 : decode prog_8_method_13_code 5 = .ok (.isub, 1) := by decide +kernel
set_option maxRecDepth 100000 in
theorem dX6_gathered_6 : decode prog_8_method_13_code 6 = .ok (.istore_n 2, 1) := by decide +kernel
set_option maxRecDepth 100000 in
theorem dX6_gathered_7 : decode prog_8_method_13_code 7 = .ok (.iload_n 1, 1) := by decide +kernel
set_option maxRecDepth 100000 in
theorem dX6_gathered_8 : decode prog_8_method_13_code 8 = .ok (.ifCond .lt 12, 3) := by decide +kernel
set_option maxRecDepth 100000 in
theorem dX6_gathered_11 : decode prog_8_method_13_code 11 = .ok (.aload_n 0, 1) := by decide +kernel
set_option maxRecDepth 100000 in
theorem dX6_gathered_12 : decode prog_8_method_13_code 12 = .ok (.iload_n 2, 1) := by decide +kernel
set_option maxRecDepth 100000 in
theorem dX6_gathered_13 : decode prog_8_method_13_code 13 = .ok (.invokevirtual 75, 3) := by decide +kernel
set_option maxRecDepth 100000 in
theorem dX6_gathered_16 : decode prog_8_method_13_code 16 = .ok (.iconst 3, 1) := by decide +kernel
set_option maxRecDepth 100000 in
theorem dX6_gathered_17 : decode prog_8_method_13_code 17 = .ok (.if_icmp .eq 5, 3) := by decide +kernel
set_option maxRecDepth 100000 in
theorem dX6_gathered_20 : decode prog_8_method_13_code 20 = .ok (.aconst_null, 1) := by decide +kernel
set_option maxRecDepth 100000 in
theorem dX6_gathered_21 : decode prog_8_method_13_code 21 = .ok (.areturn, 1) := by decide +kernel
set_option maxRecDepth 100000 in
theorem dX6_gathered_22 : decode prog_8_method_13_code 22 = .ok (.iload_n 1, 1) := by decide +kernel
set_option maxRecDepth 100000 in
theorem dX6_gathered_23 : decode prog_8_method_13_code 23 = .ok (.newarray .int, 2) := by decide +kernel
set_option maxRecDepth 100000 in
theorem dX6_gathered_25 : decode prog_8_method_13_code 25 = .ok (.astore_n 3, 1) := by decide +kernel
set_option maxRecDepth 100000 in
theorem dX6_gathered_26 : decode prog_8_method_13_code 26 = .ok (.iconst 0, 1) := by decide +kernel
set_option maxRecDepth 100000 in
theorem dX6_gathered_27 : decode prog_8_method_13_code 27 = .ok (.istore 4, 2) := by decide +kernel
set_option maxRecDepth 100000 in
theorem dX6_gathered_29 : decode prog_8_method_13_code 29 = .ok (.iload 4, 2) := by decide +kernel
set_option maxRecDepth 100000 in
theorem dX6_gathered_31 : decode prog_8_method_13_code 31 = .ok (.iload_n 1, 1) := by decide +kernel
set_option maxRecDepth 100000 in
theorem dX6_gathered_32 : decode prog_8_method_13_code 32 = .ok (.if_icmp .ge 14, 3) := by decide +kernel
set_option maxRecDepth 100000 in
theorem dX6_gathered_35 : decode prog_8_method_13_code 35 = .ok (.aload_n 3, 1) := by decide +kernel
set_option maxRecDepth 100000 in
theorem dX6_gathered_36 : decode prog_8_method_13_code 36 = .ok (.iload 4, 2) := by decide +kernel
set_option maxRecDepth 100000 in
theorem dX6_gathered_38 : decode prog_8_method_13_code 38 = .ok (.iconst 0, 1) := by decide +kernel
set_option maxRecDepth 100000 in
theorem dX6_gathered_39 : decode prog_8_method_13_code 39 = .ok (.iastore, 1) := by decide +kernel
set_option maxRecDepth 100000 in
theorem dX6_gathered_40 : decode prog_8_method_13_code 40 = .ok (.iinc 4 1, 3) := by decide +kernel
set_option maxRecDepth 100000 in
theorem dX6_gathered_43 : decode prog_8_method_13_code 43 = .ok (.goto (-14), 3) := by decide +kernel
set_option maxRecDepth 100000 in
theorem dX6_gathered_46 : decode prog_8_method_13_code 46 = .ok (.aload_n 0, 1) := by decide +kernel
set_option maxRecDepth 100000 in
theorem dX6_gathered_47 : decode prog_8_method_13_code 47 = .ok (.iload_n 2, 1) := by decide +kernel
set_option maxRecDepth 100000 in
theorem dX6_gathered_48 : decode prog_8_method_13_code 48 = .ok (.iconst 1, 1) := by decide +kernel
set_option maxRecDepth 100000 in
theorem dX6_gathered_49 : decode prog_8_method_13_code 49 = .ok (.aload_n 3, 1) := by decide +kernel
set_option maxRecDepth 100000 in
theorem dX6_gathered_50 : decode prog_8_method_13_code 50 = .ok (.invokevirtual 60, 3) := by decide +kernel
set_option maxRecDepth 100000 in
theorem dX6_gathered_53 : decode prog_8_method_13_code 53 = .ok (.areturn, 1) := by decide +kernel

def fX6_gathered_29 (z : Nat → Nat) : Nat → Option Nat → Int32 → Int32 → Option Nat → Int32 → aH → Option (Option Nat × aH)
  | 0, _, _, _, _, _, _ => none
  | n + 1, r0, x1, x2, r3, x4, h => (if x1 ≤ x4 then
  (r0).bind fun a102 =>
  (obO h a102 6).bind fun fs103 =>
  (fX8_spliced z a102 x2 1 r3 h).bind fun q101 =>
  some (q101.1, q101.2)
  else
  (r3).bind fun a104 =>
  (awI h a104 x4 0).bind fun h105 =>
  fX6_gathered_29 z n r0 x1 x2 (some a104) (x4 + 1) h105)
set_option maxHeartbeats 4000000 in
set_option maxRecDepth 100000 in
theorem xX6_gathered_29 {l : Launch} {g : aG} {d : Nat} (hK : 3 ≤ d + 1) : ∀ (n : Nat) (r0 : Option Nat) (x1 : Int32) (x2 : Int32) (r3 : Option Nat) (x4 : Int32) (h : aH) (q : Option Nat × aH), fX6_gathered_29 g.2.2 n r0 x1 x2 r3 x4 h = some q → Y l g miX6_gathered (d + 1) 29 [some (.inr (.inr r0)), some (.inl x1), some (.inl x2), some (.inr (.inr r3)), some (.inl x4)] [] h (some (.inr (.inr q.1)), q.2) := by
  intro n
  induction n with
  | zero => intro r0 x1 x2 r3 x4 h q hf; simp [fX6_gathered_29] at hf
  | succ n ih =>
    intro r0 x1 x2 r3 x4 h q hf
    rw [fX6_gathered_29] at hf
    refine y_iload (i := 4) dX6_gathered_29 rfl ?_
    refine y_iload_n (i := 1) dX6_gathered_31 rfl rfl ?_
    refine y_icmp_ge (tgt := 46) dX6_gathered_32 (by decide) (fun hc => ?_) (fun hc => ?_)
    · rw [if_pos hc] at hf
      refine y_aload_n (i := 0) dX6_gathered_46 rfl rfl ?_
      refine y_iload_n (i := 2) dX6_gathered_47 rfl rfl ?_
      refine y_iconst (v := 1) dX6_gathered_48 (by decide) ?_
      refine y_aload_n (i := 3) dX6_gathered_49 rfl rfl ?_
      replace hf := bnd hf
      obtain ⟨a102, rfl, hf⟩ := hf
      replace hf := bnd hf
      obtain ⟨fs103, efs103, hf⟩ := hf
      replace hf := bnd hf
      obtain ⟨q101, eq101, hf⟩ := hf
      refine y_callV (mj := miX8_spliced) (args := [.inl x2, .inl 1, .inr (.inr r3)]) (st := []) dX6_gathered_50 (gd_of 323 rfl rfl) (gd_of 324 rfl rfl) (gd_of 325 rfl rfl) okX8_spliced (obO_spec efs103) rfl rfl (xX8_spliced (by omega) eq101) (Nat.le_of_ble_eq_true rfl) rfl ?_
      show Y l g miX6_gathered (d + 1) 53 [some (.inr (.inr (some a102))), some (.inl x1), some (.inl x2), some (.inr (.inr r3)), some (.inl x4)] [.inr (.inr q101.1)] q101.2 _
      obtain rfl := Option.some.inj hf
      exact y_ret (v := some (.inr (.inr q101.1))) dX6_gathered_53 rfl
    · rw [if_neg hc] at hf
      refine y_aload_n (i := 3) dX6_gathered_35 rfl rfl ?_
      refine y_iload (i := 4) dX6_gathered_36 rfl ?_
      refine y_iconst (v := 0) dX6_gathered_38 (by decide) ?_
      replace hf := bnd hf
      obtain ⟨a104, rfl, hf⟩ := hf
      replace hf := bnd hf
      obtain ⟨h105, eh105, hf⟩ := hf
      refine y_iastore eh105 dX6_gathered_39 ?_
      refine y_iinc (i := 4) (y := 1) (lv2 := [some (.inr (.inr r0)), some (.inl x1), some (.inl x2), some (.inr (.inr (some a104))), some (.inl (x4 + 1))]) dX6_gathered_40 rfl (by decide) (by decide) rfl ?_
      refine y_goto (tgt := 29) dX6_gathered_43 (by decide) ?_
      refine Y.weak (lv2 := [some (.inr (.inr r0)), some (.inl x1), some (.inl x2), some (.inr (.inr (some a104))), some (.inl (x4 + 1))]) [true, true, true, true, true] rfl ?_
      exact ih _ _ _ _ _ _ _ hf
def fX6_gathered (z : Nat → Nat) (r0 : Option Nat) (x1 : Int32) (h : aH) : Option (Option Nat × aH) :=
  (r0).bind fun a102 =>
  (obO h a102 6).bind fun fs103 =>
  (fX8_count z a102 h).bind fun q101 =>
  (if x1 < 0 then
  some (none, q101.2)
  else
  (obO q101.2 a102 6).bind fun fs105 =>
  (fX8_at z a102 (q101.1 - 1) q101.2).bind fun q104 =>
  (if q104.1 = 3 then
  (nwI q104.2 x1).bind fun h106 =>
  fX6_gathered_29 z 4000 (some a102) x1 (q101.1 - 1) (some q104.2.1) 0 h106
  else
  some (none, q104.2)))
set_option maxHeartbeats 4000000 in
set_option maxRecDepth 100000 in
theorem xX6_gathered {l : Launch} {g : aG} {d : Nat} (hK : 3 ≤ d) {r0 : Option Nat} {x1 : Int32} {h : aH} {q : Option Nat × aH} (hf : fX6_gathered g.2.2 r0 x1 h = some q) : Ev l g miX6_gathered d [.inr (.inr r0), .inl x1] h (some (.inr (.inr q.1)), q.2) := by
  obtain ⟨d, rfl⟩ : ∃ e, d = e + 1 := ⟨d - 1, by omega⟩
  refine ⟨?_, Or.inl ⟨_, rfl⟩, Nat.le_of_ble_eq_true rfl⟩
  unfold fX6_gathered at hf
  show Y l g miX6_gathered (d + 1) 0 [some (.inr (.inr r0)), some (.inl x1), none, none, none] [] h _
  refine y_aload_n (i := 0) dX6_gathered_0 rfl rfl ?_
  replace hf := bnd hf
  obtain ⟨a102, rfl, hf⟩ := hf
  replace hf := bnd hf
  obtain ⟨fs103, efs103, hf⟩ := hf
  replace hf := bnd hf
  obtain ⟨q101, eq101, hf⟩ := hf
  refine y_callV (mj := miX8_count) (args := []) (st := []) dX6_gathered_1 (gd_of 313 rfl rfl) (gd_of 314 rfl rfl) (gd_of 315 rfl rfl) okX8_count (obO_spec efs103) rfl rfl (xX8_count (by omega) eq101) (Nat.le_of_ble_eq_true rfl) rfl ?_
  show Y l g miX6_gathered (d + 1) 4 [some (.inr (.inr (some a102))), some (.inl x1), none, none, none] [.inl q101.1] q101.2 _
  refine y_iconst (v := 1) dX6_gathered_4 (by decide) ?_
  refine y_isub dX6_gathered_5 ?_
  refine y_istore_n (i := 2) (lv2 := [some (.inr (.inr (some a102))), some (.inl x1), some (.inl (q101.1 - 1)), none, none]) dX6_gathered_6 rfl (by decide) rfl ?_
  refine y_iload_n (i := 1) dX6_gathered_7 rfl rfl ?_
  refine y_if_lt (tgt := 20) dX6_gathered_8 (by decide) (fun hc => ?_) (fun hc => ?_)
  · rw [if_pos hc] at hf
    refine y_null dX6_gathered_20 ?_
    obtain rfl := Option.some.inj hf
    exact y_ret (v := some (.inr (.inr none))) dX6_gathered_21 rfl
  · rw [if_neg hc] at hf
    refine y_aload_n (i := 0) dX6_gathered_11 rfl rfl ?_
    refine y_iload_n (i := 2) dX6_gathered_12 rfl rfl ?_
    replace hf := bnd hf
    obtain ⟨fs105, efs105, hf⟩ := hf
    replace hf := bnd hf
    obtain ⟨q104, eq104, hf⟩ := hf
    refine y_callV (mj := miX8_at) (args := [.inl (q101.1 - 1)]) (st := []) dX6_gathered_13 (gd_of 339 rfl rfl) (gd_of 340 rfl rfl) (gd_of 341 rfl rfl) okX8_at (obO_spec efs105) rfl rfl (xX8_at (by omega) eq104) (Nat.le_of_ble_eq_true rfl) rfl ?_
    show Y l g miX6_gathered (d + 1) 16 [some (.inr (.inr (some a102))), some (.inl x1), some (.inl (q101.1 - 1)), none, none] [.inl q104.1] q104.2 _
    refine y_iconst (v := 3) dX6_gathered_16 (by decide) ?_
    refine y_icmp_eq (tgt := 22) dX6_gathered_17 (by decide) (fun hc => ?_) (fun hc => ?_)
    · rw [if_pos hc] at hf
      refine y_iload_n (i := 1) dX6_gathered_22 rfl rfl ?_
      replace hf := bnd hf
      obtain ⟨h106, eh106, hf⟩ := hf
      refine y_newI eh106 (gd_of 114 rfl rfl) dX6_gathered_23 ?_
      refine y_astore_n (i := 3) (lv2 := [some (.inr (.inr (some a102))), some (.inl x1), some (.inl (q101.1 - 1)), some (.inr (.inr (some q104.2.1))), none]) dX6_gathered_25 rfl (by decide) rfl ?_
      refine y_iconst (v := 0) dX6_gathered_26 (by decide) ?_
      refine y_istore (i := 4) (lv2 := [some (.inr (.inr (some a102))), some (.inl x1), some (.inl (q101.1 - 1)), some (.inr (.inr (some q104.2.1))), some (.inl 0)]) dX6_gathered_27 (by decide) rfl ?_
      refine Y.weak (lv2 := [some (.inr (.inr (some a102))), some (.inl x1), some (.inl (q101.1 - 1)), some (.inr (.inr (some q104.2.1))), some (.inl 0)]) [true, true, true, true, true] rfl ?_
      exact xX6_gathered_29 hK 4000 _ _ _ _ _ _ _ hf
    · rw [if_neg hc] at hf
      refine y_null dX6_gathered_20 ?_
      obtain rfl := Option.some.inj hf
      exact y_ret (v := some (.inr (.inr none))) dX6_gathered_21 rfl
set_option maxRecDepth 100000 in
theorem dX6_moved_0 : decode prog_8_method_8_code 0 = .ok (.aload_n 0, 1) := by decide +kernel
set_option maxRecDepth 100000 in
theorem dX6_moved_1 : decode prog_8_method_8_code 1 = .ok (.invokevirtual 36, 3) := by decide +kernel
set_option maxRecDepth 100000 in
theorem dX6_moved_4 : decode prog_8_method_8_code 4 = .ok (.newarray .int, 2) := by decide +kernel
set_option maxRecDepth 100000 in
theorem dX6_moved_6 : decode prog_8_method_8_code 6 = .ok (.astore_n 2, 1) := by decide +kernel
set_option maxRecDepth 100000 in
theorem dX6_moved_7 : decode prog_8_method_8_code 7 = .ok (.iconst 0, 1) := by decide +kernel
set_option maxRecDepth 100000 in
theorem dX6_moved_8 : decode prog_8_method_8_code 8 = .ok (.istore_n 3, 1) := by decide +kernel
set_option maxRecDepth 100000 in
theorem dX6_moved_9 : decode prog_8_method_8_code 9 = .ok (.iload_n 3, 1) := by decide +kernel
set_option maxRecDepth 100000 in
theorem dX6_moved_10 : decode prog_8_method_8_code 10 = .ok (.aload_n 2, 1) := by decide +kernel
set_option maxRecDepth 100000 in
theorem dX6_moved_11 : decode prog_8_method_8_code 11 = .ok (.arraylength, 1) := by decide +kernel
set_option maxRecDepth 100000 in
theorem dX6_moved_12 : decode prog_8_method_8_code 12 = .ok (.if_icmp .ge 39, 3) := by decide +kernel
set_option maxRecDepth 100000 in
theorem dX6_moved_15 : decode prog_8_method_8_code 15 = .ok (.iload_n 1, 1) := by decide +kernel
set_option maxRecDepth 100000 in
theorem dX6_moved_16 : decode prog_8_method_8_code 16 = .ok (.aload_n 2, 1) := by decide +kernel
set_option maxRecDepth 100000 in
theorem dX6_moved_17 : decode prog_8_method_8_code 17 = .ok (.arraylength, 1) := by decide +kernel
set_option maxRecDepth 100000 in
theorem dX6_moved_18 : decode prog_8_method_8_code 18 = .ok (.iload_n 3, 1) := by decide +kernel
set_option maxRecDepth 100000 in
theorem dX6_moved_19 : decode prog_8_method_8_code 19 = .ok (.invokestatic 110, 3) := by decide +kernel
set_option maxRecDepth 100000 in
theorem dX6_moved_22 : decode prog_8_method_8_code 22 = .ok (.istore 4, 2) := by decide +kernel
set_option maxRecDepth 100000 in
theorem dX6_moved_24 : decode prog_8_method_8_code 24 = .ok (.iload 4, 2) := by decide +kernel
set_option maxRecDepth 100000 in
theorem dX6_moved_26 : decode prog_8_method_8_code 26 = .ok (.ifCond .lt 19, 3) := by decide +kernel
set_option maxRecDepth 100000 in
theorem dX6_moved_29 : decode prog_8_method_8_code 29 = .ok (.iload 4, 2) := by decide +kernel
set_option maxRecDepth 100000 in
theorem dX6_moved_31 : decode prog_8_method_8_code 31 = .ok (.aload_n 2, 1) := by decide +kernel
set_option maxRecDepth 100000 in
theorem dX6_moved_32 : decode prog_8_method_8_code 32 = .ok (.arraylength, 1) := by decide +kernel
set_option maxRecDepth 100000 in
theorem dX6_moved_33 : decode prog_8_method_8_code 33 = .ok (.if_icmp .ge 12, 3) := by decide +kernel
set_option maxRecDepth 100000 in
theorem dX6_moved_36 : decode prog_8_method_8_code 36 = .ok (.aload_n 2, 1) := by decide +kernel
set_option maxRecDepth 100000 in
theorem dX6_moved_37 : decode prog_8_method_8_code 37 = .ok (.iload 4, 2) := by decide +kernel
set_option maxRecDepth 100000 in
theorem dX6_moved_39 : decode prog_8_method_8_code 39 = .ok (.aload_n 0, 1) := by decide +kernel
set_option maxRecDepth 100000 in
theorem dX6_moved_40 : decode prog_8_method_8_code 40 = .ok (.iload_n 3, 1) := by decide +kernel
set_option maxRecDepth 100000 in
theorem dX6_moved_41 : decode prog_8_method_8_code 41 = .ok (.invokevirtual 75, 3) := by decide +kernel
set_option maxRecDepth 100000 in
theorem dX6_moved_44 : decode prog_8_method_8_code 44 = .ok (.iastore, 1) := by decide +kernel
set_option maxRecDepth 100000 in
theorem dX6_moved_45 : decode prog_8_method_8_code 45 = .ok (.iinc 3 1, 3) := by decide +kernel
set_option maxRecDepth 100000 in
theorem dX6_moved_48 : decode prog_8_method_8_code 48 = .ok (.goto (-39), 3) := by decide +kernel
set_option maxRecDepth 100000 in
theorem dX6_moved_51 : decode prog_8_method_8_code 51 = .ok (.new 15, 3) := by decide +kernel
set_option maxRecDepth 100000 in
theorem dX6_moved_54 : decode prog_8_method_8_code 54 = .ok (.dup, 1) := by decide +kernel
set_option maxRecDepth 100000 in
theorem dX6_moved_55 : decode prog_8_method_8_code 55 = .ok (.aload_n 2, 1) := by decide +kernel
set_option maxRecDepth 100000 in
theorem dX6_moved_56 : decode prog_8_method_8_code 56 = .ok (.aload_n 0, 1) := by decide +kernel
set_option maxRecDepth 100000 in
theorem dX6_moved_57 : decode prog_8_method_8_code 57 = .ok (.getfield 72, 3) := by decide +kernel
set_option maxRecDepth 100000 in
theorem dX6_moved_60 : decode prog_8_method_8_code 60 = .ok (.invokespecial 21, 3) := by decide +kernel
set_option maxRecDepth 100000 in
theorem dX6_moved_63 : decode prog_8_method_8_code 63 = .ok (.areturn, 1) := by decide +kernel

def fX6_moved_9 (z : Nat → Nat) : Nat → Option Nat → Int32 → Option Nat → Int32 → aH → Option (Option Nat × aH)
  | 0, _, _, _, _, _ => none
  | n + 1, r0, x1, r2, x3, h => (r2).bind fun a101 =>
  (arN h a101).bind fun x102 =>
  (if x102 ≤ x3 then
  (r0).bind fun a103 =>
  (rdI (hnew h 2 (.inr (6, dz6))) a103 [6] 1).bind fun x104 =>
  (fX8_init z h.1 (some a101) x104 (hnew h 2 (.inr (6, dz6)))).bind fun q105 =>
  some ((some h.1), q105)
  else
  (arN h a101).bind fun x106 =>
  (fX6_placeAt z x1 x106 x3 h).bind fun q107 =>
  (if q107.1 < 0 then
  fX6_moved_9 z n r0 x1 (some a101) (x3 + 1) q107.2
  else
  (arN q107.2 a101).bind fun x108 =>
  (if x108 ≤ q107.1 then
  fX6_moved_9 z n r0 x1 (some a101) (x3 + 1) q107.2
  else
  (r0).bind fun a110 =>
  (obO q107.2 a110 6).bind fun fs111 =>
  (fX8_at z a110 x3 q107.2).bind fun q109 =>
  (awI q109.2 a101 q107.1 q109.1).bind fun h112 =>
  fX6_moved_9 z n (some a110) x1 (some a101) (x3 + 1) h112)))
set_option maxHeartbeats 4000000 in
set_option maxRecDepth 100000 in
theorem xX6_moved_9 {l : Launch} {g : aG} {d : Nat} (hK : 2 ≤ d + 1) : ∀ (n : Nat) (r0 : Option Nat) (x1 : Int32) (r2 : Option Nat) (x3 : Int32) (h : aH) (q : Option Nat × aH), fX6_moved_9 g.2.2 n r0 x1 r2 x3 h = some q → Y l g miX6_moved (d + 1) 9 [some (.inr (.inr r0)), some (.inl x1), some (.inr (.inr r2)), some (.inl x3), none] [] h (some (.inr (.inr q.1)), q.2) := by
  intro n
  induction n with
  | zero => intro r0 x1 r2 x3 h q hf; simp [fX6_moved_9] at hf
  | succ n ih =>
    intro r0 x1 r2 x3 h q hf
    rw [fX6_moved_9] at hf
    refine y_iload_n (i := 3) dX6_moved_9 rfl rfl ?_
    refine y_aload_n (i := 2) dX6_moved_10 rfl rfl ?_
    replace hf := bnd hf
    obtain ⟨a101, rfl, hf⟩ := hf
    replace hf := bnd hf
    obtain ⟨x102, ex102, hf⟩ := hf
    refine y_alen ex102 dX6_moved_11 ?_
    refine y_icmp_ge (tgt := 51) dX6_moved_12 (by decide) (fun hc => ?_) (fun hc => ?_)
    · rw [if_pos hc] at hf
      refine y_new (c := 6) (fs := dz6) rfl tyX8 tyX8_ok rfl dz6_ok (gd_of 213 rfl rfl) (gd_of 214 rfl rfl) (gd_of 79 rfl rfl) dX6_moved_51 ?_
      refine y_dup dX6_moved_54 rfl ?_
      refine y_aload_n (i := 2) dX6_moved_55 rfl rfl ?_
      refine y_aload_n (i := 0) dX6_moved_56 rfl rfl ?_
      replace hf := bnd hf
      obtain ⟨a103, rfl, hf⟩ := hf
      replace hf := bnd hf
      obtain ⟨x104, ex104, hf⟩ := hf
      refine y_getI ex104 fl6_72 dX6_moved_57 ?_
      replace hf := bnd hf
      obtain ⟨q105, eq105, hf⟩ := hf
      refine y_callI (mj := miX8_init) (args := [.inr (.inr (some a101)), .inl x104]) (st := [.inr (.inr (some h.1))]) dX6_moved_60 (Or.inl (gd_of 217 rfl rfl)) (gd_of 218 rfl rfl) rfl rfl okX8_init (xX8_init (by omega) eq105) (Nat.le_of_ble_eq_true rfl) rfl ?_
      show Y l g miX6_moved (d + 1) 63 [some (.inr (.inr (some a103))), some (.inl x1), some (.inr (.inr (some a101))), some (.inl x3), none] [.inr (.inr (some h.1))] q105 _
      obtain rfl := Option.some.inj hf
      exact y_ret (v := some (.inr (.inr (some h.1)))) dX6_moved_63 rfl
    · rw [if_neg hc] at hf
      refine y_iload_n (i := 1) dX6_moved_15 rfl rfl ?_
      refine y_aload_n (i := 2) dX6_moved_16 rfl rfl ?_
      replace hf := bnd hf
      obtain ⟨x106, ex106, hf⟩ := hf
      refine y_alen ex106 dX6_moved_17 ?_
      refine y_iload_n (i := 3) dX6_moved_18 rfl rfl ?_
      replace hf := bnd hf
      obtain ⟨q107, eq107, hf⟩ := hf
      refine y_callS (mj := miX6_placeAt) (args := [.inl x1, .inl x106, .inl x3]) (st := []) dX6_moved_19 (gd_of 336 rfl rfl) (gd_of 337 rfl rfl) okX6_placeAt (xX6_placeAt (by omega) eq107) (Nat.le_of_ble_eq_true rfl) rfl ?_
      show Y l g miX6_moved (d + 1) 22 [some (.inr (.inr r0)), some (.inl x1), some (.inr (.inr (some a101))), some (.inl x3), none] [.inl q107.1] q107.2 _
      refine y_istore (i := 4) (lv2 := [some (.inr (.inr r0)), some (.inl x1), some (.inr (.inr (some a101))), some (.inl x3), some (.inl q107.1)]) dX6_moved_22 (by decide) rfl ?_
      refine y_iload (i := 4) dX6_moved_24 rfl ?_
      refine y_if_lt (tgt := 45) dX6_moved_26 (by decide) (fun hc => ?_) (fun hc => ?_)
      · rw [if_pos hc] at hf
        refine y_iinc (i := 3) (y := 1) (lv2 := [some (.inr (.inr r0)), some (.inl x1), some (.inr (.inr (some a101))), some (.inl (x3 + 1)), some (.inl q107.1)]) dX6_moved_45 rfl (by decide) (by decide) rfl ?_
        refine y_goto (tgt := 9) dX6_moved_48 (by decide) ?_
        refine Y.weak (lv2 := [some (.inr (.inr r0)), some (.inl x1), some (.inr (.inr (some a101))), some (.inl (x3 + 1)), none]) [true, true, true, true, false] rfl ?_
        exact ih _ _ _ _ _ _ hf
      · rw [if_neg hc] at hf
        refine y_iload (i := 4) dX6_moved_29 rfl ?_
        refine y_aload_n (i := 2) dX6_moved_31 rfl rfl ?_
        replace hf := bnd hf
        obtain ⟨x108, ex108, hf⟩ := hf
        refine y_alen ex108 dX6_moved_32 ?_
        refine y_icmp_ge (tgt := 45) dX6_moved_33 (by decide) (fun hc => ?_) (fun hc => ?_)
        · rw [if_pos hc] at hf
          refine y_iinc (i := 3) (y := 1) (lv2 := [some (.inr (.inr r0)), some (.inl x1), some (.inr (.inr (some a101))), some (.inl (x3 + 1)), some (.inl q107.1)]) dX6_moved_45 rfl (by decide) (by decide) rfl ?_
          refine y_goto (tgt := 9) dX6_moved_48 (by decide) ?_
          refine Y.weak (lv2 := [some (.inr (.inr r0)), some (.inl x1), some (.inr (.inr (some a101))), some (.inl (x3 + 1)), none]) [true, true, true, true, false] rfl ?_
          exact ih _ _ _ _ _ _ hf
        · rw [if_neg hc] at hf
          refine y_aload_n (i := 2) dX6_moved_36 rfl rfl ?_
          refine y_iload (i := 4) dX6_moved_37 rfl ?_
          refine y_aload_n (i := 0) dX6_moved_39 rfl rfl ?_
          refine y_iload_n (i := 3) dX6_moved_40 rfl rfl ?_
          replace hf := bnd hf
          obtain ⟨a110, rfl, hf⟩ := hf
          replace hf := bnd hf
          obtain ⟨fs111, efs111, hf⟩ := hf
          replace hf := bnd hf
          obtain ⟨q109, eq109, hf⟩ := hf
          refine y_callV (mj := miX8_at) (args := [.inl x3]) (st := [.inl q107.1, .inr (.inr (some a101))]) dX6_moved_41 (gd_of 339 rfl rfl) (gd_of 340 rfl rfl) (gd_of 341 rfl rfl) okX8_at (obO_spec efs111) rfl rfl (xX8_at (by omega) eq109) (Nat.le_of_ble_eq_true rfl) rfl ?_
          show Y l g miX6_moved (d + 1) 44 [some (.inr (.inr (some a110))), some (.inl x1), some (.inr (.inr (some a101))), some (.inl x3), some (.inl q107.1)] [.inl q109.1, .inl q107.1, .inr (.inr (some a101))] q109.2 _
          replace hf := bnd hf
          obtain ⟨h112, eh112, hf⟩ := hf
          refine y_iastore eh112 dX6_moved_44 ?_
          refine y_iinc (i := 3) (y := 1) (lv2 := [some (.inr (.inr (some a110))), some (.inl x1), some (.inr (.inr (some a101))), some (.inl (x3 + 1)), some (.inl q107.1)]) dX6_moved_45 rfl (by decide) (by decide) rfl ?_
          refine y_goto (tgt := 9) dX6_moved_48 (by decide) ?_
          refine Y.weak (lv2 := [some (.inr (.inr (some a110))), some (.inl x1), some (.inr (.inr (some a101))), some (.inl (x3 + 1)), none]) [true, true, true, true, false] rfl ?_
          exact ih _ _ _ _ _ _ hf
def fX6_moved (z : Nat → Nat) (r0 : Option Nat) (x1 : Int32) (h : aH) : Option (Option Nat × aH) :=
  (r0).bind fun a102 =>
  (obO h a102 6).bind fun fs103 =>
  (fX8_count z a102 h).bind fun q101 =>
  (nwI q101.2 q101.1).bind fun h104 =>
  fX6_moved_9 z 4000 (some a102) x1 (some q101.2.1) 0 h104
set_option maxHeartbeats 4000000 in
set_option maxRecDepth 100000 in
theorem xX6_moved {l : Launch} {g : aG} {d : Nat} (hK : 2 ≤ d) {r0 : Option Nat} {x1 : Int32} {h : aH} {q : Option Nat × aH} (hf : fX6_moved g.2.2 r0 x1 h = some q) : Ev l g miX6_moved d [.inr (.inr r0), .inl x1] h (some (.inr (.inr q.1)), q.2) := by
  obtain ⟨d, rfl⟩ : ∃ e, d = e + 1 := ⟨d - 1, by omega⟩
  refine ⟨?_, Or.inl ⟨_, rfl⟩, Nat.le_of_ble_eq_true rfl⟩
  unfold fX6_moved at hf
  show Y l g miX6_moved (d + 1) 0 [some (.inr (.inr r0)), some (.inl x1), none, none, none] [] h _
  refine y_aload_n (i := 0) dX6_moved_0 rfl rfl ?_
  replace hf := bnd hf
  obtain ⟨a102, rfl, hf⟩ := hf
  replace hf := bnd hf
  obtain ⟨fs103, efs103, hf⟩ := hf
  replace hf := bnd hf
  obtain ⟨q101, eq101, hf⟩ := hf
  refine y_callV (mj := miX8_count) (args := []) (st := []) dX6_moved_1 (gd_of 313 rfl rfl) (gd_of 314 rfl rfl) (gd_of 315 rfl rfl) okX8_count (obO_spec efs103) rfl rfl (xX8_count (by omega) eq101) (Nat.le_of_ble_eq_true rfl) rfl ?_
  show Y l g miX6_moved (d + 1) 4 [some (.inr (.inr (some a102))), some (.inl x1), none, none, none] [.inl q101.1] q101.2 _
  replace hf := bnd hf
  obtain ⟨h104, eh104, hf⟩ := hf
  refine y_newI eh104 (gd_of 114 rfl rfl) dX6_moved_4 ?_
  refine y_astore_n (i := 2) (lv2 := [some (.inr (.inr (some a102))), some (.inl x1), some (.inr (.inr (some q101.2.1))), none, none]) dX6_moved_6 rfl (by decide) rfl ?_
  refine y_iconst (v := 0) dX6_moved_7 (by decide) ?_
  refine y_istore_n (i := 3) (lv2 := [some (.inr (.inr (some a102))), some (.inl x1), some (.inr (.inr (some q101.2.1))), some (.inl 0), none]) dX6_moved_8 rfl (by decide) rfl ?_
  refine Y.weak (lv2 := [some (.inr (.inr (some a102))), some (.inl x1), some (.inr (.inr (some q101.2.1))), some (.inl 0), none]) [true, true, true, true, false] rfl ?_
  exact xX6_moved_9 hK 4000 _ _ _ _ _ _ hf
set_option maxRecDepth 100000 in
theorem dX6_round_0 : decode prog_8_method_11_code 0 = .ok (.aload_n 0, 1) := by decide +kernel
set_option maxRecDepth 100000 in
theorem dX6_round_1 : decode prog_8_method_11_code 1 = .ok (.invokevirtual 36, 3) := by decide +kernel
set_option maxRecDepth 100000 in
theorem dX6_round_4 : decode prog_8_method_11_code 4 = .ok (.ifCond .ne 14, 3) := by decide +kernel
set_option maxRecDepth 100000 in
theorem dX6_round_7 : decode prog_8_method_11_code 7 = .ok (.aload_n 0, 1) := by decide +kernel
set_option maxRecDepth 100000 in
theorem dX6_round_8 : decode prog_8_method_11_code 8 = .ok (.getfield 72, 3) := by decide +kernel
set_option maxRecDepth 100000 in
theorem dX6_round_11 : decode prog_8_method_11_code 11 = .ok (.ifCond .ne 7, 3) := by decide +kernel
set_option maxRecDepth 100000 in
theorem dX6_round_14 : decode prog_8_method_11_code 14 = .ok (.iconst 1, 1) := by decide +kernel
set_option maxRecDepth 100000 in
theorem dX6_round_15 : decode prog_8_method_11_code 15 = .ok (.goto 4, 3) := by decide +kernel
set_option maxRecDepth 100000 in
theorem dX6_round_18 : decode prog_8_method_11_code 18 = .ok (.iconst 0, 1) := by decide +kernel
set_option maxRecDepth 100000 in
theorem dX6_round_19 : decode prog_8_method_11_code 19 = .ok (.istore_n 3, 1) := by decide +kernel
set_option maxRecDepth 100000 in
theorem dX6_round_20 : decode prog_8_method_11_code 20 = .ok (.aload_n 2, 1) := by decide +kernel
set_option maxRecDepth 100000 in
theorem dX6_round_21 : decode prog_8_method_11_code 21 = .ok (.invokevirtual 36, 3) := by decide +kernel
set_option maxRecDepth 100000 in
theorem dX6_round_24 : decode prog_8_method_11_code 24 = .ok (.ifCond .ne 18, 3) := by decide +kernel
set_option maxRecDepth 100000 in
theorem dX6_round_27 : decode prog_8_method_11_code 27 = .ok (.aload_n 2, 1) := by decide +kernel
set_option maxRecDepth 100000 in
theorem dX6_round_28 : decode prog_8_method_11_code 28 = .ok (.getfield 72, 3) := by decide +kernel
set_option maxRecDepth 100000 in
theorem dX6_round_31 : decode prog_8_method_11_code 31 = .ok (.aload_n 1, 1) := by decide +kernel
set_option maxRecDepth 100000 in
theorem dX6_round_32 : decode prog_8_method_11_code 32 = .ok (.getfield 72, 3) := by decide +kernel
set_option maxRecDepth 100000 in
theorem dX6_round_35 : decode prog_8_method_11_code 35 = .ok (.if_icmp .ne 7, 3) := by decide +kernel
set_option maxRecDepth 100000 in
theorem dX6_round_38 : decode prog_8_method_11_code 38 = .ok (.iconst 1, 1) := by decide +kernel
set_option maxRecDepth 100000 in
theorem dX6_round_39 : decode prog_8_method_11_code 39 = .ok (.goto 4, 3) := by decide +kernel
set_option maxRecDepth 100000 in
theorem dX6_round_42 : decode prog_8_method_11_code 42 = .ok (.iconst 0, 1) := by decide +kernel
set_option maxRecDepth 100000 in
theorem dX6_round_43 : decode prog_8_method_11_code 43 = .ok (.istore 4, 2) := by decide +kernel
set_option maxRecDepth 100000 in
theorem dX6_round_45 : decode prog_8_method_11_code 45 = .ok (.aload_n 1, 1) := by decide +kernel
set_option maxRecDepth 100000 in
theorem dX6_round_46 : decode prog_8_method_11_code 46 = .ok (.invokevirtual 36, 3) := by decide +kernel
set_option maxRecDepth 100000 in
theorem dX6_round_49 : decode prog_8_method_11_code 49 = .ok (.iconst 2, 1) := by decide +kernel
set_option maxRecDepth 100000 in
theorem dX6_round_50 : decode prog_8_method_11_code 50 = .ok (.if_icmp .ne 27, 3) := by decide +kernel
set_option maxRecDepth 100000 in
theorem dX6_round_53 : decode prog_8_method_11_code 53 = .ok (.aload_n 1, 1) := by decide +kernel
set_option maxRecDepth 100000 in
theorem dX6_round_54 : decode prog_8_method_11_code 54 = .ok (.iconst 0, 1) := by decide +kernel
set_option maxRecDepth 100000 in
theorem dX6_round_55 : decode prog_8_method_11_code 55 = .ok (.invokevirtual 75, 3) := by decide +kernel
set_option maxRecDepth 100000 in
theorem dX6_round_58 : decode prog_8_method_11_code 58 = .ok (.aload_n 1, 1) := by decide +kernel
set_option maxRecDepth 100000 in
theorem dX6_round_59 : decode prog_8_method_11_code 59 = .ok (.getfield 72, 3) := by decide +kernel
set_option maxRecDepth 100000 in
theorem dX6_round_62 : decode prog_8_method_11_code 62 = .ok (.if_icmp .ne 15, 3) := by decide +kernel
set_option maxRecDepth 100000 in
theorem dX6_round_65 : decode prog_8_method_11_code 65 = .ok (.aload_n 1, 1) := by decide +kernel
set_option maxRecDepth 100000 in
theorem dX6_round_66 : decode prog_8_method_11_code 66 = .ok (.iconst 1, 1) := by decide +kernel
set_option maxRecDepth 100000 in
theorem dX6_round_67 : decode prog_8_method_11_code 67 = .ok (.invokevirtual 75, 3) := by decide +kernel
set_option maxRecDepth 100000 in
theorem dX6_round_70 : decode prog_8_method_11_code 70 = .ok (.ifCond .ne 7, 3) := by decide +kernel
set_option maxRecDepth 100000 in
theorem dX6_round_73 : decode prog_8_method_11_code 73 = .ok (.iconst 1, 1) := by decide +kernel
set_option maxRecDepth 100000 in
theorem dX6_round_74 : decode prog_8_method_11_code 74 = .ok (.goto 4, 3) := by decide +kernel
set_option maxRecDepth 100000 in
theorem dX6_round_77 : decode prog_8_method_11_code 77 = .ok (.iconst 0, 1) := by decide +kernel
set_option maxRecDepth 100000 in
theorem dX6_round_78 : decode prog_8_method_11_code 78 = .ok (.istore 5, 2) := by decide +kernel
set_option maxRecDepth 100000 in
theorem dX6_round_80 : decode prog_8_method_11_code 80 = .ok (.iload_n 3, 1) := by decide +kernel
set_option maxRecDepth 100000 in
theorem dX6_round_81 : decode prog_8_method_11_code 81 = .ok (.ifCond .eq 17, 3) := by decide +kernel
set_option maxRecDepth 100000 in
theorem dX6_round_84 : decode prog_8_method_11_code 84 = .ok (.iload 4, 2) := by decide +kernel
set_option maxRecDepth 100000 in
theorem dX6_round_86 : decode prog_8_method_11_code 86 = .ok (.ifCond .eq 12, 3) := by decide +kernel
set_option maxRecDepth 100000 in
theorem dX6_round_89 : decode prog_8_method_11_code 89 = .ok (.iload 5, 2) := by decide +kernel
set_option maxRecDepth 100000 in
theorem dX6_round_91 : decode prog_8_method_11_code 91 = .ok (.ifCond .eq 7, 3) := by decide +kernel
set_option maxRecDepth 100000 in
theorem dX6_round_94 : decode prog_8_method_11_code 94 = .ok (.aload_n 2, 1) := by decide +kernel
set_option maxRecDepth 100000 in
theorem dX6_round_95 : decode prog_8_method_11_code 95 = .ok (.goto 4, 3) := by decide +kernel
set_option maxRecDepth 100000 in
theorem dX6_round_98 : decode prog_8_method_11_code 98 = .ok (.aconst_null, 1) := by decide +kernel
set_option maxRecDepth 100000 in
theorem dX6_round_99 : decode prog_8_method_11_code 99 = .ok (.areturn, 1) := by decide +kernel

def fX6_round_78 (z : Nat → Nat) (r2 : Option Nat) (x3 : Int32) (x4 : Int32) (sx0 : Int32) (h : aH) : Option (Option Nat × aH) :=
  (if x3 = 0 then
  some (none, h)
  else
  (if x4 = 0 then
  some (none, h)
  else
  (if sx0 = 0 then
  some (none, h)
  else
  some (r2, h))))
set_option maxHeartbeats 4000000 in
set_option maxRecDepth 100000 in
theorem xX6_round_78 {l : Launch} {g : aG} {d : Nat} (hK : 1 ≤ d + 1) {r2 : Option Nat} {x3 : Int32} {x4 : Int32} {sx0 : Int32} {h : aH} {q : Option Nat × aH} (hf : fX6_round_78 g.2.2 r2 x3 x4 sx0 h = some q) : Y l g miX6_round (d + 1) 78 [none, none, some (.inr (.inr r2)), some (.inl x3), some (.inl x4), none] [.inl sx0] h (some (.inr (.inr q.1)), q.2) := by
  unfold fX6_round_78 at hf
  refine y_istore (i := 5) (lv2 := [none, none, some (.inr (.inr r2)), some (.inl x3), some (.inl x4), some (.inl sx0)]) dX6_round_78 (by decide) rfl ?_
  refine y_iload_n (i := 3) dX6_round_80 rfl rfl ?_
  refine y_if_eq (tgt := 98) dX6_round_81 (by decide) (fun hc => ?_) (fun hc => ?_)
  · rw [if_pos hc] at hf
    refine y_null dX6_round_98 ?_
    obtain rfl := Option.some.inj hf
    exact y_ret (v := some (.inr (.inr none))) dX6_round_99 rfl
  · rw [if_neg hc] at hf
    refine y_iload (i := 4) dX6_round_84 rfl ?_
    refine y_if_eq (tgt := 98) dX6_round_86 (by decide) (fun hc => ?_) (fun hc => ?_)
    · rw [if_pos hc] at hf
      refine y_null dX6_round_98 ?_
      obtain rfl := Option.some.inj hf
      exact y_ret (v := some (.inr (.inr none))) dX6_round_99 rfl
    · rw [if_neg hc] at hf
      refine y_iload (i := 5) dX6_round_89 rfl ?_
      refine y_if_eq (tgt := 98) dX6_round_91 (by decide) (fun hc => ?_) (fun hc => ?_)
      · rw [if_pos hc] at hf
        refine y_null dX6_round_98 ?_
        obtain rfl := Option.some.inj hf
        exact y_ret (v := some (.inr (.inr none))) dX6_round_99 rfl
      · rw [if_neg hc] at hf
        refine y_aload_n (i := 2) dX6_round_94 rfl rfl ?_
        refine y_goto (tgt := 99) dX6_round_95 (by decide) ?_
        obtain rfl := Option.some.inj hf
        exact y_ret (v := some (.inr (.inr r2))) dX6_round_99 rfl
def fX6_round_77 (z : Nat → Nat) (r2 : Option Nat) (x3 : Int32) (x4 : Int32) (h : aH) : Option (Option Nat × aH) :=
  fX6_round_78 z r2 x3 x4 0 h
set_option maxHeartbeats 4000000 in
set_option maxRecDepth 100000 in
theorem xX6_round_77 {l : Launch} {g : aG} {d : Nat} (hK : 1 ≤ d + 1) {r2 : Option Nat} {x3 : Int32} {x4 : Int32} {h : aH} {q : Option Nat × aH} (hf : fX6_round_77 g.2.2 r2 x3 x4 h = some q) : Y l g miX6_round (d + 1) 77 [none, none, some (.inr (.inr r2)), some (.inl x3), some (.inl x4), none] [] h (some (.inr (.inr q.1)), q.2) := by
  unfold fX6_round_77 at hf
  refine y_iconst (v := 0) dX6_round_77 (by decide) ?_
  refine Y.weak (lv2 := [none, none, some (.inr (.inr r2)), some (.inl x3), some (.inl x4), none]) [false, false, true, true, true, false] rfl ?_
  exact xX6_round_78 hK hf
def fX6_round_43 (z : Nat → Nat) (r1 : Option Nat) (r2 : Option Nat) (x3 : Int32) (sx0 : Int32) (h : aH) : Option (Option Nat × aH) :=
  (r1).bind fun a102 =>
  (obO h a102 6).bind fun fs103 =>
  (fX8_count z a102 h).bind fun q101 =>
  (if q101.1 = 2 then
  (obO q101.2 a102 6).bind fun fs105 =>
  (fX8_at z a102 0 q101.2).bind fun q104 =>
  (rdI q104.2 a102 [6] 1).bind fun x106 =>
  (if q104.1 = x106 then
  (obO q104.2 a102 6).bind fun fs108 =>
  (fX8_at z a102 1 q104.2).bind fun q107 =>
  (if q107.1 = 0 then
  fX6_round_78 z r2 x3 sx0 1 q107.2
  else
  fX6_round_77 z r2 x3 sx0 q107.2)
  else
  fX6_round_77 z r2 x3 sx0 q104.2)
  else
  fX6_round_77 z r2 x3 sx0 q101.2)
set_option maxHeartbeats 4000000 in
set_option maxRecDepth 100000 in
theorem xX6_round_43 {l : Launch} {g : aG} {d : Nat} (hK : 1 ≤ d + 1) {r1 : Option Nat} {r2 : Option Nat} {x3 : Int32} {sx0 : Int32} {h : aH} {q : Option Nat × aH} (hf : fX6_round_43 g.2.2 r1 r2 x3 sx0 h = some q) : Y l g miX6_round (d + 1) 43 [none, some (.inr (.inr r1)), some (.inr (.inr r2)), some (.inl x3), none, none] [.inl sx0] h (some (.inr (.inr q.1)), q.2) := by
  unfold fX6_round_43 at hf
  refine y_istore (i := 4) (lv2 := [none, some (.inr (.inr r1)), some (.inr (.inr r2)), some (.inl x3), some (.inl sx0), none]) dX6_round_43 (by decide) rfl ?_
  refine y_aload_n (i := 1) dX6_round_45 rfl rfl ?_
  replace hf := bnd hf
  obtain ⟨a102, rfl, hf⟩ := hf
  replace hf := bnd hf
  obtain ⟨fs103, efs103, hf⟩ := hf
  replace hf := bnd hf
  obtain ⟨q101, eq101, hf⟩ := hf
  refine y_callV (mj := miX8_count) (args := []) (st := []) dX6_round_46 (gd_of 313 rfl rfl) (gd_of 314 rfl rfl) (gd_of 315 rfl rfl) okX8_count (obO_spec efs103) rfl rfl (xX8_count (by omega) eq101) (Nat.le_of_ble_eq_true rfl) rfl ?_
  show Y l g miX6_round (d + 1) 49 [none, some (.inr (.inr (some a102))), some (.inr (.inr r2)), some (.inl x3), some (.inl sx0), none] [.inl q101.1] q101.2 _
  refine y_iconst (v := 2) dX6_round_49 (by decide) ?_
  refine y_icmp_ne (tgt := 77) dX6_round_50 (by decide) (fun hc => ?_) (fun hc => ?_)
  · rw [if_neg hc] at hf
    refine Y.weak (lv2 := [none, none, some (.inr (.inr r2)), some (.inl x3), some (.inl sx0), none]) [false, false, true, true, true, false] rfl ?_
    exact xX6_round_77 hK hf
  · rw [if_pos hc] at hf
    refine y_aload_n (i := 1) dX6_round_53 rfl rfl ?_
    refine y_iconst (v := 0) dX6_round_54 (by decide) ?_
    replace hf := bnd hf
    obtain ⟨fs105, efs105, hf⟩ := hf
    replace hf := bnd hf
    obtain ⟨q104, eq104, hf⟩ := hf
    refine y_callV (mj := miX8_at) (args := [.inl 0]) (st := []) dX6_round_55 (gd_of 339 rfl rfl) (gd_of 340 rfl rfl) (gd_of 341 rfl rfl) okX8_at (obO_spec efs105) rfl rfl (xX8_at (by omega) eq104) (Nat.le_of_ble_eq_true rfl) rfl ?_
    show Y l g miX6_round (d + 1) 58 [none, some (.inr (.inr (some a102))), some (.inr (.inr r2)), some (.inl x3), some (.inl sx0), none] [.inl q104.1] q104.2 _
    refine y_aload_n (i := 1) dX6_round_58 rfl rfl ?_
    replace hf := bnd hf
    obtain ⟨x106, ex106, hf⟩ := hf
    refine y_getI ex106 fl6_72 dX6_round_59 ?_
    refine y_icmp_ne (tgt := 77) dX6_round_62 (by decide) (fun hc => ?_) (fun hc => ?_)
    · rw [if_neg hc] at hf
      refine Y.weak (lv2 := [none, none, some (.inr (.inr r2)), some (.inl x3), some (.inl sx0), none]) [false, false, true, true, true, false] rfl ?_
      exact xX6_round_77 hK hf
    · rw [if_pos hc] at hf
      refine y_aload_n (i := 1) dX6_round_65 rfl rfl ?_
      refine y_iconst (v := 1) dX6_round_66 (by decide) ?_
      replace hf := bnd hf
      obtain ⟨fs108, efs108, hf⟩ := hf
      replace hf := bnd hf
      obtain ⟨q107, eq107, hf⟩ := hf
      refine y_callV (mj := miX8_at) (args := [.inl 1]) (st := []) dX6_round_67 (gd_of 339 rfl rfl) (gd_of 340 rfl rfl) (gd_of 341 rfl rfl) okX8_at (obO_spec efs108) rfl rfl (xX8_at (by omega) eq107) (Nat.le_of_ble_eq_true rfl) rfl ?_
      show Y l g miX6_round (d + 1) 70 [none, some (.inr (.inr (some a102))), some (.inr (.inr r2)), some (.inl x3), some (.inl sx0), none] [.inl q107.1] q107.2 _
      refine y_if_ne (tgt := 77) dX6_round_70 (by decide) (fun hc => ?_) (fun hc => ?_)
      · rw [if_neg hc] at hf
        refine Y.weak (lv2 := [none, none, some (.inr (.inr r2)), some (.inl x3), some (.inl sx0), none]) [false, false, true, true, true, false] rfl ?_
        exact xX6_round_77 hK hf
      · rw [if_pos hc] at hf
        refine y_iconst (v := 1) dX6_round_73 (by decide) ?_
        refine y_goto (tgt := 78) dX6_round_74 (by decide) ?_
        refine Y.weak (lv2 := [none, none, some (.inr (.inr r2)), some (.inl x3), some (.inl sx0), none]) [false, false, true, true, true, false] rfl ?_
        exact xX6_round_78 hK hf
def fX6_round_42 (z : Nat → Nat) (r1 : Option Nat) (r2 : Option Nat) (x3 : Int32) (h : aH) : Option (Option Nat × aH) :=
  fX6_round_43 z r1 r2 x3 0 h
set_option maxHeartbeats 4000000 in
set_option maxRecDepth 100000 in
theorem xX6_round_42 {l : Launch} {g : aG} {d : Nat} (hK : 1 ≤ d + 1) {r1 : Option Nat} {r2 : Option Nat} {x3 : Int32} {h : aH} {q : Option Nat × aH} (hf : fX6_round_42 g.2.2 r1 r2 x3 h = some q) : Y l g miX6_round (d + 1) 42 [none, some (.inr (.inr r1)), some (.inr (.inr r2)), some (.inl x3), none, none] [] h (some (.inr (.inr q.1)), q.2) := by
  unfold fX6_round_42 at hf
  refine y_iconst (v := 0) dX6_round_42 (by decide) ?_
  refine Y.weak (lv2 := [none, some (.inr (.inr r1)), some (.inr (.inr r2)), some (.inl x3), none, none]) [false, true, true, true, false, false] rfl ?_
  exact xX6_round_43 hK hf
def fX6_round_19 (z : Nat → Nat) (r1 : Option Nat) (r2 : Option Nat) (sx0 : Int32) (h : aH) : Option (Option Nat × aH) :=
  (r2).bind fun a102 =>
  (obO h a102 6).bind fun fs103 =>
  (fX8_count z a102 h).bind fun q101 =>
  (if q101.1 = 0 then
  (rdI q101.2 a102 [6] 1).bind fun x104 =>
  (r1).bind fun a105 =>
  (rdI q101.2 a105 [6] 1).bind fun x106 =>
  (if x104 = x106 then
  fX6_round_43 z (some a105) (some a102) sx0 1 q101.2
  else
  fX6_round_42 z (some a105) (some a102) sx0 q101.2)
  else
  fX6_round_42 z r1 (some a102) sx0 q101.2)
set_option maxHeartbeats 4000000 in
set_option maxRecDepth 100000 in
theorem xX6_round_19 {l : Launch} {g : aG} {d : Nat} (hK : 1 ≤ d + 1) {r1 : Option Nat} {r2 : Option Nat} {sx0 : Int32} {h : aH} {q : Option Nat × aH} (hf : fX6_round_19 g.2.2 r1 r2 sx0 h = some q) : Y l g miX6_round (d + 1) 19 [none, some (.inr (.inr r1)), some (.inr (.inr r2)), none, none, none] [.inl sx0] h (some (.inr (.inr q.1)), q.2) := by
  unfold fX6_round_19 at hf
  refine y_istore_n (i := 3) (lv2 := [none, some (.inr (.inr r1)), some (.inr (.inr r2)), some (.inl sx0), none, none]) dX6_round_19 rfl (by decide) rfl ?_
  refine y_aload_n (i := 2) dX6_round_20 rfl rfl ?_
  replace hf := bnd hf
  obtain ⟨a102, rfl, hf⟩ := hf
  replace hf := bnd hf
  obtain ⟨fs103, efs103, hf⟩ := hf
  replace hf := bnd hf
  obtain ⟨q101, eq101, hf⟩ := hf
  refine y_callV (mj := miX8_count) (args := []) (st := []) dX6_round_21 (gd_of 313 rfl rfl) (gd_of 314 rfl rfl) (gd_of 315 rfl rfl) okX8_count (obO_spec efs103) rfl rfl (xX8_count (by omega) eq101) (Nat.le_of_ble_eq_true rfl) rfl ?_
  show Y l g miX6_round (d + 1) 24 [none, some (.inr (.inr r1)), some (.inr (.inr (some a102))), some (.inl sx0), none, none] [.inl q101.1] q101.2 _
  refine y_if_ne (tgt := 42) dX6_round_24 (by decide) (fun hc => ?_) (fun hc => ?_)
  · rw [if_neg hc] at hf
    refine Y.weak (lv2 := [none, some (.inr (.inr r1)), some (.inr (.inr (some a102))), some (.inl sx0), none, none]) [false, true, true, true, false, false] rfl ?_
    exact xX6_round_42 hK hf
  · rw [if_pos hc] at hf
    refine y_aload_n (i := 2) dX6_round_27 rfl rfl ?_
    replace hf := bnd hf
    obtain ⟨x104, ex104, hf⟩ := hf
    refine y_getI ex104 fl6_72 dX6_round_28 ?_
    refine y_aload_n (i := 1) dX6_round_31 rfl rfl ?_
    replace hf := bnd hf
    obtain ⟨a105, rfl, hf⟩ := hf
    replace hf := bnd hf
    obtain ⟨x106, ex106, hf⟩ := hf
    refine y_getI ex106 fl6_72 dX6_round_32 ?_
    refine y_icmp_ne (tgt := 42) dX6_round_35 (by decide) (fun hc => ?_) (fun hc => ?_)
    · rw [if_neg hc] at hf
      refine Y.weak (lv2 := [none, some (.inr (.inr (some a105))), some (.inr (.inr (some a102))), some (.inl sx0), none, none]) [false, true, true, true, false, false] rfl ?_
      exact xX6_round_42 hK hf
    · rw [if_pos hc] at hf
      refine y_iconst (v := 1) dX6_round_38 (by decide) ?_
      refine y_goto (tgt := 43) dX6_round_39 (by decide) ?_
      refine Y.weak (lv2 := [none, some (.inr (.inr (some a105))), some (.inr (.inr (some a102))), some (.inl sx0), none, none]) [false, true, true, true, false, false] rfl ?_
      exact xX6_round_43 hK hf
def fX6_round_18 (z : Nat → Nat) (r1 : Option Nat) (r2 : Option Nat) (h : aH) : Option (Option Nat × aH) :=
  fX6_round_19 z r1 r2 0 h
set_option maxHeartbeats 4000000 in
set_option maxRecDepth 100000 in
theorem xX6_round_18 {l : Launch} {g : aG} {d : Nat} (hK : 1 ≤ d + 1) {r1 : Option Nat} {r2 : Option Nat} {h : aH} {q : Option Nat × aH} (hf : fX6_round_18 g.2.2 r1 r2 h = some q) : Y l g miX6_round (d + 1) 18 [none, some (.inr (.inr r1)), some (.inr (.inr r2)), none, none, none] [] h (some (.inr (.inr q.1)), q.2) := by
  unfold fX6_round_18 at hf
  refine y_iconst (v := 0) dX6_round_18 (by decide) ?_
  refine Y.weak (lv2 := [none, some (.inr (.inr r1)), some (.inr (.inr r2)), none, none, none]) [false, true, true, false, false, false] rfl ?_
  exact xX6_round_19 hK hf
def fX6_round (z : Nat → Nat) (r0 : Option Nat) (r1 : Option Nat) (r2 : Option Nat) (h : aH) : Option (Option Nat × aH) :=
  (r0).bind fun a102 =>
  (obO h a102 6).bind fun fs103 =>
  (fX8_count z a102 h).bind fun q101 =>
  (if q101.1 = 0 then
  (rdI q101.2 a102 [6] 1).bind fun x104 =>
  (if x104 = 0 then
  fX6_round_19 z r1 r2 1 q101.2
  else
  fX6_round_18 z r1 r2 q101.2)
  else
  fX6_round_18 z r1 r2 q101.2)
set_option maxHeartbeats 4000000 in
set_option maxRecDepth 100000 in
theorem xX6_round {l : Launch} {g : aG} {d : Nat} (hK : 1 ≤ d) {r0 : Option Nat} {r1 : Option Nat} {r2 : Option Nat} {h : aH} {q : Option Nat × aH} (hf : fX6_round g.2.2 r0 r1 r2 h = some q) : Ev l g miX6_round d [.inr (.inr r0), .inr (.inr r1), .inr (.inr r2)] h (some (.inr (.inr q.1)), q.2) := by
  obtain ⟨d, rfl⟩ : ∃ e, d = e + 1 := ⟨d - 1, by omega⟩
  refine ⟨?_, Or.inl ⟨_, rfl⟩, Nat.le_of_ble_eq_true rfl⟩
  unfold fX6_round at hf
  show Y l g miX6_round (d + 1) 0 [some (.inr (.inr r0)), some (.inr (.inr r1)), some (.inr (.inr r2)), none, none, none] [] h _
  refine y_aload_n (i := 0) dX6_round_0 rfl rfl ?_
  replace hf := bnd hf
  obtain ⟨a102, rfl, hf⟩ := hf
  replace hf := bnd hf
  obtain ⟨fs103, efs103, hf⟩ := hf
  replace hf := bnd hf
  obtain ⟨q101, eq101, hf⟩ := hf
  refine y_callV (mj := miX8_count) (args := []) (st := []) dX6_round_1 (gd_of 313 rfl rfl) (gd_of 314 rfl rfl) (gd_of 315 rfl rfl) okX8_count (obO_spec efs103) rfl rfl (xX8_count (by omega) eq101) (Nat.le_of_ble_eq_true rfl) rfl ?_
  show Y l g miX6_round (d + 1) 4 [some (.inr (.inr (some a102))), some (.inr (.inr r1)), some (.inr (.inr r2)), none, none, none] [.inl q101.1] q101.2 _
  refine y_if_ne (tgt := 18) dX6_round_4 (by decide) (fun hc => ?_) (fun hc => ?_)
  · rw [if_neg hc] at hf
    refine Y.weak (lv2 := [none, some (.inr (.inr r1)), some (.inr (.inr r2)), none, none, none]) [false, true, true, false, false, false] rfl ?_
    exact xX6_round_18 hK hf
  · rw [if_pos hc] at hf
    refine y_aload_n (i := 0) dX6_round_7 rfl rfl ?_
    replace hf := bnd hf
    obtain ⟨x104, ex104, hf⟩ := hf
    refine y_getI ex104 fl6_72 dX6_round_8 ?_
    refine y_if_ne (tgt := 18) dX6_round_11 (by decide) (fun hc => ?_) (fun hc => ?_)
    · rw [if_neg hc] at hf
      refine Y.weak (lv2 := [none, some (.inr (.inr r1)), some (.inr (.inr r2)), none, none, none]) [false, true, true, false, false, false] rfl ?_
      exact xX6_round_18 hK hf
    · rw [if_pos hc] at hf
      refine y_iconst (v := 1) dX6_round_14 (by decide) ?_
      refine y_goto (tgt := 19) dX6_round_15 (by decide) ?_
      refine Y.weak (lv2 := [none, some (.inr (.inr r1)), some (.inr (.inr r2)), none, none, none]) [false, true, true, false, false, false] rfl ?_
      exact xX6_round_19 hK hf
set_option maxRecDepth 100000 in
theorem dX6_spread_0 : decode prog_8_method_12_code 0 = .ok (.aload_n 0, 1) := by decide +kernel
set_option maxRecDepth 100000 in
theorem dX6_spread_1 : decode prog_8_method_12_code 1 = .ok (.invokevirtual 36, 3) := by decide +kernel
set_option maxRecDepth 100000 in
theorem dX6_spread_4 : decode prog_8_method_12_code 4 = .ok (.iload_n 1, 1) := by decide +kernel
set_option maxRecDepth 100000 in
theorem dX6_spread_5 : decode prog_8_method_12_code 5 = .ok (.isub, 1) := by decide +kernel
set_option maxRecDepth 100000 in
theorem dX6_spread_6 : decode prog_8_method_12_code 6 = .ok (.istore_n 2, 1) := by decide +kernel
set_option maxRecDepth 100000 in
theorem dX6_spread_7 : decode prog_8_method_12_code 7 = .ok (.iload_n 2, 1) := by decide +kernel
set_option maxRecDepth 100000 in
theorem dX6_spread_8 : decode prog_8_method_12_code 8 = .ok (.ifCond .ge 5, 3) := by decide +kernel
set_option maxRecDepth 100000 in
theorem dX6_spread_11 : decode prog_8_method_12_code 11 = .ok (.aconst_null, 1) := by decide +kernel
set_option maxRecDepth 100000 in
theorem dX6_spread_12 : decode prog_8_method_12_code 12 = .ok (.areturn, 1) := by decide +kernel
set_option maxRecDepth 100000 in
theorem dX6_spread_13 : decode prog_8_method_12_code 13 = .ok (.iload_n 2, 1) := by decide +kernel
set_option maxRecDepth 100000 in
theorem dX6_spread_14 : decode prog_8_method_12_code 14 = .ok (.istore_n 3, 1) := by decide +kernel
set_option maxRecDepth 100000 in
theorem dX6_spread_15 : decode prog_8_method_12_code 15 = .ok (.iload_n 3, 1) := by decide +kernel
set_option maxRecDepth 100000 in
theorem dX6_spread_16 : decode prog_8_method_12_code 16 = .ok (.aload_n 0, 1) := by decide +kernel
set_option maxRecDepth 100000 in
theorem dX6_spread_17 : decode prog_8_method_12_code 17 = .ok (.invokevirtual 36, 3) := by decide +kernel
set_option maxRecDepth 100000 in
theorem dX6_spread_20 : decode prog_8_method_12_code 20 = .ok (.if_icmp .ge 19, 3) := by decide +kernel
set_option maxRecDepth 100000 in
theorem dX6_spread_23 : decode prog_8_method_12_code 23 = .ok (.aload_n 0, 1) := by decide +kernel
set_option maxRecDepth 100000 in
theorem dX6_spread_24 : decode prog_8_method_12_code 24 = .ok (.iload_n 3, 1) := by decide +kernel
set_option maxRecDepth 100000 in
theorem dX6_spread_25 : decode prog_8_method_12_code 25 = .ok (.invokevirtual 75, 3) := by decide +kernel
set_option maxRecDepth 100000 in
theorem dX6_spread_28 : decode prog_8_method_12_code 28 = .ok (.ifCond .eq 5, 3) := by decide +kernel
set_option maxRecDepth 100000 in
theorem dX6_spread_31 : decode prog_8_method_12_code 31 = .ok (.aconst_null, 1) := by decide +kernel
set_option maxRecDepth 100000 in
theorem dX6_spread_32 : decode prog_8_method_12_code 32 = .ok (.areturn, 1) := by decide +kernel
set_option maxRecDepth 100000 in
theorem dX6_spread_33 : decode prog_8_method_12_code 33 = .ok (.iinc 3 1, 3) := by decide +kernel
set_option maxRecDepth 100000 in
theorem dX6_spread_36 : decode prog_8_method_12_code 36 = .ok (.goto (-21), 3) := by decide +kernel
set_option maxRecDepth 100000 in
theorem dX6_spread_39 : decode prog_8_method_12_code 39 = .ok (.aload_n 0, 1) := by decide +kernel
set_option maxRecDepth 100000 in
theorem dX6_spread_40 : decode prog_8_method_12_code 40 = .ok (.iload_n 2, 1) := by decide +kernel
set_option maxRecDepth 100000 in
theorem dX6_spread_41 : decode prog_8_method_12_code 41 = .ok (.iload_n 1, 1) := by decide +kernel
set_option maxRecDepth 100000 in
theorem dX6_spread_42 : decode prog_8_method_12_code 42 = .ok (.iconst 1, 1) := by decide +kernel
set_option maxRecDepth 100000 in
theorem dX6_spread_43 : decode prog_8_method_12_code 43 = .ok (.newarray .int, 2) := by decide +kernel
set_option maxRecDepth 100000 in
theorem dX6_spread_45 : decode prog_8_method_12_code 45 = .ok (.dup, 1) := by decide +kernel
set_option maxRecDepth 100000 in
theorem dX6_spread_46 : decode prog_8_method_12_code 46 = .ok (.iconst 0, 1) := by decide +kernel
set_option maxRecDepth 100000 in
theorem dX6_spread_47 : decode prog_8_method_12_code 47 = .ok (.iconst 3, 1) := by decide +kernel
set_option maxRecDepth 100000 in
theorem dX6_spread_48 : decode prog_8_method_12_code 48 = .ok (.iastore, 1) := by decide +kernel
set_option maxRecDepth 100000 in
theorem dX6_spread_49 : decode prog_8_method_12_code 49 = .ok (.invokevirtual 60, 3) := by decide +kernel
set_option maxRecDepth 100000 in
theorem dX6_spread_52 : decode prog_8_method_12_code 52 = .ok (.areturn, 1) := by decide +kernel

def fX6_spread_15 (z : Nat → Nat) : Nat → Option Nat → Int32 → Int32 → Int32 → aH → Option (Option Nat × aH)
  | 0, _, _, _, _, _ => none
  | n + 1, r0, x1, x2, x3, h => (r0).bind fun a102 =>
  (obO h a102 6).bind fun fs103 =>
  (fX8_count z a102 h).bind fun q101 =>
  (if q101.1 ≤ x3 then
  (nwI q101.2 1).bind fun h104 =>
  (awI h104 q101.2.1 0 3).bind fun h105 =>
  (obO h105 a102 6).bind fun fs107 =>
  (fX8_spliced z a102 x2 x1 (some q101.2.1) h105).bind fun q106 =>
  some (q106.1, q106.2)
  else
  (obO q101.2 a102 6).bind fun fs109 =>
  (fX8_at z a102 x3 q101.2).bind fun q108 =>
  (if q108.1 = 0 then
  fX6_spread_15 z n (some a102) x1 x2 (x3 + 1) q108.2
  else
  some (none, q108.2)))
set_option maxHeartbeats 4000000 in
set_option maxRecDepth 100000 in
theorem xX6_spread_15 {l : Launch} {g : aG} {d : Nat} (hK : 3 ≤ d + 1) : ∀ (n : Nat) (r0 : Option Nat) (x1 : Int32) (x2 : Int32) (x3 : Int32) (h : aH) (q : Option Nat × aH), fX6_spread_15 g.2.2 n r0 x1 x2 x3 h = some q → Y l g miX6_spread (d + 1) 15 [some (.inr (.inr r0)), some (.inl x1), some (.inl x2), some (.inl x3)] [] h (some (.inr (.inr q.1)), q.2) := by
  intro n
  induction n with
  | zero => intro r0 x1 x2 x3 h q hf; simp [fX6_spread_15] at hf
  | succ n ih =>
    intro r0 x1 x2 x3 h q hf
    rw [fX6_spread_15] at hf
    refine y_iload_n (i := 3) dX6_spread_15 rfl rfl ?_
    refine y_aload_n (i := 0) dX6_spread_16 rfl rfl ?_
    replace hf := bnd hf
    obtain ⟨a102, rfl, hf⟩ := hf
    replace hf := bnd hf
    obtain ⟨fs103, efs103, hf⟩ := hf
    replace hf := bnd hf
    obtain ⟨q101, eq101, hf⟩ := hf
    refine y_callV (mj := miX8_count) (args := []) (st := [.inl x3]) dX6_spread_17 (gd_of 313 rfl rfl) (gd_of 314 rfl rfl) (gd_of 315 rfl rfl) okX8_count (obO_spec efs103) rfl rfl (xX8_count (by omega) eq101) (Nat.le_of_ble_eq_true rfl) rfl ?_
    show Y l g miX6_spread (d + 1) 20 [some (.inr (.inr (some a102))), some (.inl x1), some (.inl x2), some (.inl x3)] [.inl q101.1, .inl x3] q101.2 _
    refine y_icmp_ge (tgt := 39) dX6_spread_20 (by decide) (fun hc => ?_) (fun hc => ?_)
    · rw [if_pos hc] at hf
      refine y_aload_n (i := 0) dX6_spread_39 rfl rfl ?_
      refine y_iload_n (i := 2) dX6_spread_40 rfl rfl ?_
      refine y_iload_n (i := 1) dX6_spread_41 rfl rfl ?_
      refine y_iconst (v := 1) dX6_spread_42 (by decide) ?_
      replace hf := bnd hf
      obtain ⟨h104, eh104, hf⟩ := hf
      refine y_newI eh104 (gd_of 114 rfl rfl) dX6_spread_43 ?_
      refine y_dup dX6_spread_45 rfl ?_
      refine y_iconst (v := 0) dX6_spread_46 (by decide) ?_
      refine y_iconst (v := 3) dX6_spread_47 (by decide) ?_
      replace hf := bnd hf
      obtain ⟨h105, eh105, hf⟩ := hf
      refine y_iastore eh105 dX6_spread_48 ?_
      replace hf := bnd hf
      obtain ⟨fs107, efs107, hf⟩ := hf
      replace hf := bnd hf
      obtain ⟨q106, eq106, hf⟩ := hf
      refine y_callV (mj := miX8_spliced) (args := [.inl x2, .inl x1, .inr (.inr (some q101.2.1))]) (st := []) dX6_spread_49 (gd_of 323 rfl rfl) (gd_of 324 rfl rfl) (gd_of 325 rfl rfl) okX8_spliced (obO_spec efs107) rfl rfl (xX8_spliced (by omega) eq106) (Nat.le_of_ble_eq_true rfl) rfl ?_
      show Y l g miX6_spread (d + 1) 52 [some (.inr (.inr (some a102))), some (.inl x1), some (.inl x2), some (.inl x3)] [.inr (.inr q106.1)] q106.2 _
      obtain rfl := Option.some.inj hf
      exact y_ret (v := some (.inr (.inr q106.1))) dX6_spread_52 rfl
    · rw [if_neg hc] at hf
      refine y_aload_n (i := 0) dX6_spread_23 rfl rfl ?_
      refine y_iload_n (i := 3) dX6_spread_24 rfl rfl ?_
      replace hf := bnd hf
      obtain ⟨fs109, efs109, hf⟩ := hf
      replace hf := bnd hf
      obtain ⟨q108, eq108, hf⟩ := hf
      refine y_callV (mj := miX8_at) (args := [.inl x3]) (st := []) dX6_spread_25 (gd_of 339 rfl rfl) (gd_of 340 rfl rfl) (gd_of 341 rfl rfl) okX8_at (obO_spec efs109) rfl rfl (xX8_at (by omega) eq108) (Nat.le_of_ble_eq_true rfl) rfl ?_
      show Y l g miX6_spread (d + 1) 28 [some (.inr (.inr (some a102))), some (.inl x1), some (.inl x2), some (.inl x3)] [.inl q108.1] q108.2 _
      refine y_if_eq (tgt := 33) dX6_spread_28 (by decide) (fun hc => ?_) (fun hc => ?_)
      · rw [if_pos hc] at hf
        refine y_iinc (i := 3) (y := 1) (lv2 := [some (.inr (.inr (some a102))), some (.inl x1), some (.inl x2), some (.inl (x3 + 1))]) dX6_spread_33 rfl (by decide) (by decide) rfl ?_
        refine y_goto (tgt := 15) dX6_spread_36 (by decide) ?_
        refine Y.weak (lv2 := [some (.inr (.inr (some a102))), some (.inl x1), some (.inl x2), some (.inl (x3 + 1))]) [true, true, true, true] rfl ?_
        exact ih _ _ _ _ _ _ hf
      · rw [if_neg hc] at hf
        refine y_null dX6_spread_31 ?_
        obtain rfl := Option.some.inj hf
        exact y_ret (v := some (.inr (.inr none))) dX6_spread_32 rfl
def fX6_spread (z : Nat → Nat) (r0 : Option Nat) (x1 : Int32) (h : aH) : Option (Option Nat × aH) :=
  (r0).bind fun a102 =>
  (obO h a102 6).bind fun fs103 =>
  (fX8_count z a102 h).bind fun q101 =>
  (if 0 ≤ (q101.1 - x1) then
  fX6_spread_15 z 4000 (some a102) x1 (q101.1 - x1) (q101.1 - x1) q101.2
  else
  some (none, q101.2))
set_option maxHeartbeats 4000000 in
set_option maxRecDepth 100000 in
theorem xX6_spread {l : Launch} {g : aG} {d : Nat} (hK : 3 ≤ d) {r0 : Option Nat} {x1 : Int32} {h : aH} {q : Option Nat × aH} (hf : fX6_spread g.2.2 r0 x1 h = some q) : Ev l g miX6_spread d [.inr (.inr r0), .inl x1] h (some (.inr (.inr q.1)), q.2) := by
  obtain ⟨d, rfl⟩ : ∃ e, d = e + 1 := ⟨d - 1, by omega⟩
  refine ⟨?_, Or.inl ⟨_, rfl⟩, Nat.le_of_ble_eq_true rfl⟩
  unfold fX6_spread at hf
  show Y l g miX6_spread (d + 1) 0 [some (.inr (.inr r0)), some (.inl x1), none, none] [] h _
  refine y_aload_n (i := 0) dX6_spread_0 rfl rfl ?_
  replace hf := bnd hf
  obtain ⟨a102, rfl, hf⟩ := hf
  replace hf := bnd hf
  obtain ⟨fs103, efs103, hf⟩ := hf
  replace hf := bnd hf
  obtain ⟨q101, eq101, hf⟩ := hf
  refine y_callV (mj := miX8_count) (args := []) (st := []) dX6_spread_1 (gd_of 313 rfl rfl) (gd_of 314 rfl rfl) (gd_of 315 rfl rfl) okX8_count (obO_spec efs103) rfl rfl (xX8_count (by omega) eq101) (Nat.le_of_ble_eq_true rfl) rfl ?_
  show Y l g miX6_spread (d + 1) 4 [some (.inr (.inr (some a102))), some (.inl x1), none, none] [.inl q101.1] q101.2 _
  refine y_iload_n (i := 1) dX6_spread_4 rfl rfl ?_
  refine y_isub dX6_spread_5 ?_
  refine y_istore_n (i := 2) (lv2 := [some (.inr (.inr (some a102))), some (.inl x1), some (.inl (q101.1 - x1)), none]) dX6_spread_6 rfl (by decide) rfl ?_
  refine y_iload_n (i := 2) dX6_spread_7 rfl rfl ?_
  refine y_if_ge (tgt := 13) dX6_spread_8 (by decide) (fun hc => ?_) (fun hc => ?_)
  · rw [if_pos hc] at hf
    refine y_iload_n (i := 2) dX6_spread_13 rfl rfl ?_
    refine y_istore_n (i := 3) (lv2 := [some (.inr (.inr (some a102))), some (.inl x1), some (.inl (q101.1 - x1)), some (.inl (q101.1 - x1))]) dX6_spread_14 rfl (by decide) rfl ?_
    refine Y.weak (lv2 := [some (.inr (.inr (some a102))), some (.inl x1), some (.inl (q101.1 - x1)), some (.inl (q101.1 - x1))]) [true, true, true, true] rfl ?_
    exact xX6_spread_15 hK 4000 _ _ _ _ _ _ hf
  · rw [if_neg hc] at hf
    refine y_null dX6_spread_11 ?_
    obtain rfl := Option.some.inj hf
    exact y_ret (v := some (.inr (.inr none))) dX6_spread_12 rfl
set_option maxRecDepth 100000 in
theorem dX6_takesNumberAnd_0 : decode prog_8_method_15_code 0 = .ok (.aload_n 0, 1) := by decide +kernel
set_option maxRecDepth 100000 in
theorem dX6_takesNumberAnd_1 : decode prog_8_method_15_code 1 = .ok (.invokevirtual 36, 3) := by decide +kernel
set_option maxRecDepth 100000 in
theorem dX6_takesNumberAnd_4 : decode prog_8_method_15_code 4 = .ok (.aload_n 1, 1) := by decide +kernel
set_option maxRecDepth 100000 in
theorem dX6_takesNumberAnd_5 : decode prog_8_method_15_code 5 = .ok (.invokevirtual 36, 3) := by decide +kernel
set_option maxRecDepth 100000 in
theorem dX6_takesNumberAnd_8 : decode prog_8_method_15_code 8 = .ok (.iconst 1, 1) := by decide +kernel
set_option maxRecDepth 100000 in
theorem dX6_takesNumberAnd_9 : decode prog_8_method_15_code 9 = .ok (.iadd, 1) := by decide +kernel
set_option maxRecDepth 100000 in
theorem dX6_takesNumberAnd_10 : decode prog_8_method_15_code 10 = .ok (.if_icmp .ne 24, 3) := by decide +kernel
set_option maxRecDepth 100000 in
theorem dX6_takesNumberAnd_13 : decode prog_8_method_15_code 13 = .ok (.aload_n 0, 1) := by decide +kernel
set_option maxRecDepth 100000 in
theorem dX6_takesNumberAnd_14 : decode prog_8_method_15_code 14 = .ok (.iconst 0, 1) := by decide +kernel
set_option maxRecDepth 100000 in
theorem dX6_takesNumberAnd_15 : decode prog_8_method_15_code 15 = .ok (.invokevirtual 75, 3) := by decide +kernel
set_option maxRecDepth 100000 in
theorem dX6_takesNumberAnd_18 : decode prog_8_method_15_code 18 = .ok (.ifCond .ne 16, 3) := by decide +kernel
set_option maxRecDepth 100000 in
theorem dX6_takesNumberAnd_21 : decode prog_8_method_15_code 21 = .ok (.aload_n 0, 1) := by decide +kernel
set_option maxRecDepth 100000 in
theorem dX6_takesNumberAnd_22 : decode prog_8_method_15_code 22 = .ok (.iconst 1, 1) := by decide +kernel
set_option maxRecDepth 100000 in
theorem dX6_takesNumberAnd_23 : decode prog_8_method_15_code 23 = .ok (.aload_n 1, 1) := by decide +kernel
set_option maxRecDepth 100000 in
theorem dX6_takesNumberAnd_24 : decode prog_8_method_15_code 24 = .ok (.invokevirtual 89, 3) := by decide +kernel
set_option maxRecDepth 100000 in
theorem dX6_takesNumberAnd_27 : decode prog_8_method_15_code 27 = .ok (.ifCond .eq 7, 3) := by decide +kernel
set_option maxRecDepth 100000 in
theorem dX6_takesNumberAnd_30 : decode prog_8_method_15_code 30 = .ok (.iconst 1, 1) := by decide +kernel
set_option maxRecDepth 100000 in
theorem dX6_takesNumberAnd_31 : decode prog_8_method_15_code 31 = .ok (.goto 4, 3) := by decide +kernel
set_option maxRecDepth 100000 in
theorem dX6_takesNumberAnd_34 : decode prog_8_method_15_code 34 = .ok (.iconst 0, 1) := by decide +kernel
set_option maxRecDepth 100000 in
theorem dX6_takesNumberAnd_35 : decode prog_8_method_15_code 35 = .ok (.ireturn, 1) := by decide +kernel

def fX6_takesNumberAnd_e (z : Nat → Nat) (r0 : Option Nat) (r1 : Option Nat) (h : aH) : Option (Int32 × aH) :=
  (r0).bind fun a102 =>
  (obO h a102 6).bind fun fs103 =>
  (fX8_count z a102 h).bind fun q101 =>
  (r1).bind fun a105 =>
  (obO q101.2 a105 6).bind fun fs106 =>
  (fX8_count z a105 q101.2).bind fun q104 =>
  (if q101.1 = (q104.1 + 1) then
  (obO q104.2 a102 6).bind fun fs108 =>
  (fX8_at z a102 0 q104.2).bind fun q107 =>
  (if q107.1 = 0 then
  (obO q107.2 a102 6).bind fun fs110 =>
  (fX8_hasFrom z a102 1 (some a105) q107.2).bind fun q109 =>
  (if q109.1 = 0 then
  some (0, q109.2)
  else
  some (1, q109.2))
  else
  some (0, q107.2))
  else
  some (0, q104.2))
def fX6_takesNumberAnd (z : Nat → Nat) (r0 : Option Nat) (r1 : Option Nat) (h : aH) : Option (Int32 × aH) := chkB (fX6_takesNumberAnd_e z r0 r1 h)
set_option maxHeartbeats 4000000 in
set_option maxRecDepth 100000 in
theorem xX6_takesNumberAnd {l : Launch} {g : aG} {d : Nat} (hK : 2 ≤ d) {r0 : Option Nat} {r1 : Option Nat} {h : aH} {q : Int32 × aH} (hf : fX6_takesNumberAnd g.2.2 r0 r1 h = some q) : Ev l g miX6_takesNumberAnd d [.inr (.inr r0), .inr (.inr r1)] h (some (.inl q.1), q.2) := by
  obtain ⟨d, rfl⟩ : ∃ e, d = e + 1 := ⟨d - 1, by omega⟩
  replace hf := chkB_spec hf
  obtain ⟨hf, hb⟩ := hf
  refine ⟨?_, Or.inr ⟨rfl, hb⟩, Nat.le_of_ble_eq_true rfl⟩
  unfold fX6_takesNumberAnd_e at hf
  show Y l g miX6_takesNumberAnd (d + 1) 0 [some (.inr (.inr r0)), some (.inr (.inr r1))] [] h _
  refine y_aload_n (i := 0) dX6_takesNumberAnd_0 rfl rfl ?_
  replace hf := bnd hf
  obtain ⟨a102, rfl, hf⟩ := hf
  replace hf := bnd hf
  obtain ⟨fs103, efs103, hf⟩ := hf
  replace hf := bnd hf
  obtain ⟨q101, eq101, hf⟩ := hf
  refine y_callV (mj := miX8_count) (args := []) (st := []) dX6_takesNumberAnd_1 (gd_of 313 rfl rfl) (gd_of 314 rfl rfl) (gd_of 315 rfl rfl) okX8_count (obO_spec efs103) rfl rfl (xX8_count (by omega) eq101) (Nat.le_of_ble_eq_true rfl) rfl ?_
  show Y l g miX6_takesNumberAnd (d + 1) 4 [some (.inr (.inr (some a102))), some (.inr (.inr r1))] [.inl q101.1] q101.2 _
  refine y_aload_n (i := 1) dX6_takesNumberAnd_4 rfl rfl ?_
  replace hf := bnd hf
  obtain ⟨a105, rfl, hf⟩ := hf
  replace hf := bnd hf
  obtain ⟨fs106, efs106, hf⟩ := hf
  replace hf := bnd hf
  obtain ⟨q104, eq104, hf⟩ := hf
  refine y_callV (mj := miX8_count) (args := []) (st := [.inl q101.1]) dX6_takesNumberAnd_5 (gd_of 313 rfl rfl) (gd_of 314 rfl rfl) (gd_of 315 rfl rfl) okX8_count (obO_spec efs106) rfl rfl (xX8_count (by omega) eq104) (Nat.le_of_ble_eq_true rfl) rfl ?_
  show Y l g miX6_takesNumberAnd (d + 1) 8 [some (.inr (.inr (some a102))), some (.inr (.inr (some a105)))] [.inl q104.1, .inl q101.1] q104.2 _
  refine y_iconst (v := 1) dX6_takesNumberAnd_8 (by decide) ?_
  refine y_iadd dX6_takesNumberAnd_9 ?_
  refine y_icmp_ne (tgt := 34) dX6_takesNumberAnd_10 (by decide) (fun hc => ?_) (fun hc => ?_)
  · rw [if_neg hc] at hf
    refine y_iconst (v := 0) dX6_takesNumberAnd_34 (by decide) ?_
    obtain rfl := Option.some.inj hf
    exact y_ret (v := some (.inl 0)) dX6_takesNumberAnd_35 rfl
  · rw [if_pos hc] at hf
    refine y_aload_n (i := 0) dX6_takesNumberAnd_13 rfl rfl ?_
    refine y_iconst (v := 0) dX6_takesNumberAnd_14 (by decide) ?_
    replace hf := bnd hf
    obtain ⟨fs108, efs108, hf⟩ := hf
    replace hf := bnd hf
    obtain ⟨q107, eq107, hf⟩ := hf
    refine y_callV (mj := miX8_at) (args := [.inl 0]) (st := []) dX6_takesNumberAnd_15 (gd_of 339 rfl rfl) (gd_of 340 rfl rfl) (gd_of 341 rfl rfl) okX8_at (obO_spec efs108) rfl rfl (xX8_at (by omega) eq107) (Nat.le_of_ble_eq_true rfl) rfl ?_
    show Y l g miX6_takesNumberAnd (d + 1) 18 [some (.inr (.inr (some a102))), some (.inr (.inr (some a105)))] [.inl q107.1] q107.2 _
    refine y_if_ne (tgt := 34) dX6_takesNumberAnd_18 (by decide) (fun hc => ?_) (fun hc => ?_)
    · rw [if_neg hc] at hf
      refine y_iconst (v := 0) dX6_takesNumberAnd_34 (by decide) ?_
      obtain rfl := Option.some.inj hf
      exact y_ret (v := some (.inl 0)) dX6_takesNumberAnd_35 rfl
    · rw [if_pos hc] at hf
      refine y_aload_n (i := 0) dX6_takesNumberAnd_21 rfl rfl ?_
      refine y_iconst (v := 1) dX6_takesNumberAnd_22 (by decide) ?_
      refine y_aload_n (i := 1) dX6_takesNumberAnd_23 rfl rfl ?_
      replace hf := bnd hf
      obtain ⟨fs110, efs110, hf⟩ := hf
      replace hf := bnd hf
      obtain ⟨q109, eq109, hf⟩ := hf
      refine y_callV (mj := miX8_hasFrom) (args := [.inl 1, .inr (.inr (some a105))]) (st := []) dX6_takesNumberAnd_24 (gd_of 346 rfl rfl) (gd_of 347 rfl rfl) (gd_of 348 rfl rfl) okX8_hasFrom (obO_spec efs110) rfl rfl (xX8_hasFrom (by omega) eq109) (Nat.le_of_ble_eq_true rfl) rfl ?_
      show Y l g miX6_takesNumberAnd (d + 1) 27 [some (.inr (.inr (some a102))), some (.inr (.inr (some a105)))] [.inl q109.1] q109.2 _
      refine y_if_eq (tgt := 34) dX6_takesNumberAnd_27 (by decide) (fun hc => ?_) (fun hc => ?_)
      · rw [if_pos hc] at hf
        refine y_iconst (v := 0) dX6_takesNumberAnd_34 (by decide) ?_
        obtain rfl := Option.some.inj hf
        exact y_ret (v := some (.inl 0)) dX6_takesNumberAnd_35 rfl
      · rw [if_neg hc] at hf
        refine y_iconst (v := 1) dX6_takesNumberAnd_30 (by decide) ?_
        refine y_goto (tgt := 35) dX6_takesNumberAnd_31 (by decide) ?_
        obtain rfl := Option.some.inj hf
        exact y_ret (v := some (.inl 1)) dX6_takesNumberAnd_35 rfl
set_option maxRecDepth 100000 in
theorem dX6_then_0 : decode prog_8_method_10_code 0 = .ok (.aload_n 0, 1) := by decide +kernel
set_option maxRecDepth 100000 in
theorem dX6_then_1 : decode prog_8_method_10_code 1 = .ok (.getfield 72, 3) := by decide +kernel
set_option maxRecDepth 100000 in
theorem dX6_then_4 : decode prog_8_method_10_code 4 = .ok (.iconst 4, 1) := by decide +kernel
set_option maxRecDepth 100000 in
theorem dX6_then_5 : decode prog_8_method_10_code 5 = .ok (.if_icmp .ne 18, 3) := by decide +kernel
set_option maxRecDepth 100000 in
theorem dX6_then_8 : decode prog_8_method_10_code 8 = .ok (.aload_n 1, 1) := by decide +kernel
set_option maxRecDepth 100000 in
theorem dX6_then_9 : decode prog_8_method_10_code 9 = .ok (.invokevirtual 36, 3) := by decide +kernel
set_option maxRecDepth 100000 in
theorem dX6_then_12 : decode prog_8_method_10_code 12 = .ok (.ifCond .ne 7, 3) := by decide +kernel
set_option maxRecDepth 100000 in
theorem dX6_then_15 : decode prog_8_method_10_code 15 = .ok (.iconst 1, 1) := by decide +kernel
set_option maxRecDepth 100000 in
theorem dX6_then_16 : decode prog_8_method_10_code 16 = .ok (.goto 32, 3) := by decide +kernel
set_option maxRecDepth 100000 in
theorem dX6_then_19 : decode prog_8_method_10_code 19 = .ok (.iconst 0, 1) := by decide +kernel
set_option maxRecDepth 100000 in
theorem dX6_then_20 : decode prog_8_method_10_code 20 = .ok (.goto 28, 3) := by decide +kernel
set_option maxRecDepth 100000 in
theorem dX6_then_23 : decode prog_8_method_10_code 23 = .ok (.aload_n 1, 1) := by decide +kernel
set_option maxRecDepth 100000 in
theorem dX6_then_24 : decode prog_8_method_10_code 24 = .ok (.invokevirtual 36, 3) := by decide +kernel
set_option maxRecDepth 100000 in
theorem dX6_then_27 : decode prog_8_method_10_code 27 = .ok (.iconst 1, 1) := by decide +kernel
set_option maxRecDepth 100000 in
theorem dX6_then_28 : decode prog_8_method_10_code 28 = .ok (.if_icmp .ne 19, 3) := by decide +kernel
set_option maxRecDepth 100000 in
theorem dX6_then_31 : decode prog_8_method_10_code 31 = .ok (.aload_n 1, 1) := by decide +kernel
set_option maxRecDepth 100000 in
theorem dX6_then_32 : decode prog_8_method_10_code 32 = .ok (.iconst 0, 1) := by decide +kernel
set_option maxRecDepth 100000 in
theorem dX6_then_33 : decode prog_8_method_10_code 33 = .ok (.invokevirtual 75, 3) := by decide +kernel
set_option maxRecDepth 100000 in
theorem dX6_then_36 : decode prog_8_method_10_code 36 = .ok (.aload_n 0, 1) := by decide +kernel
set_option maxRecDepth 100000 in
theorem dX6_then_37 : decode prog_8_method_10_code 37 = .ok (.getfield 72, 3) := by decide +kernel
set_option maxRecDepth 100000 in
theorem dX6_then_40 : decode prog_8_method_10_code 40 = .ok (.if_icmp .ne 7, 3) := by decide +kernel
set_option maxRecDepth 100000 in
theorem dX6_then_43 : decode prog_8_method_10_code 43 = .ok (.iconst 1, 1) := by decide +kernel
set_option maxRecDepth 100000 in
theorem dX6_then_44 : decode prog_8_method_10_code 44 = .ok (.goto 4, 3) := by decide +kernel
set_option maxRecDepth 100000 in
theorem dX6_then_47 : decode prog_8_method_10_code 47 = .ok (.iconst 0, 1) := by decide +kernel
set_option maxRecDepth 100000 in
theorem dX6_then_48 : decode prog_8_method_10_code 48 = .ok (.istore_n 2, 1) := by decide +kernel
set_option maxRecDepth 100000 in
theorem dX6_then_49 : decode prog_8_method_10_code 49 = .ok (.iload_n 2, 1) := by decide +kernel
set_option maxRecDepth 100000 in
theorem dX6_then_50 : decode prog_8_method_10_code 50 = .ok (.ifCond .eq 21, 3) := by decide +kernel
set_option maxRecDepth 100000 in
theorem dX6_then_53 : decode prog_8_method_10_code 53 = .ok (.new 15, 3) := by decide +kernel
set_option maxRecDepth 100000 in
theorem dX6_then_56 : decode prog_8_method_10_code 56 = .ok (.dup, 1) := by decide +kernel
set_option maxRecDepth 100000 in
theorem dX6_then_57 : decode prog_8_method_10_code 57 = .ok (.aload_n 0, 1) := by decide +kernel
set_option maxRecDepth 100000 in
theorem dX6_then_58 : decode prog_8_method_10_code 58 = .ok (.getfield 79, 3) := by decide +kernel
set_option maxRecDepth 100000 in
theorem dX6_then_61 : decode prog_8_method_10_code 61 = .ok (.aload_n 1, 1) := by decide +kernel
set_option maxRecDepth 100000 in
theorem dX6_then_62 : decode prog_8_method_10_code 62 = .ok (.getfield 72, 3) := by decide +kernel
set_option maxRecDepth 100000 in
theorem dX6_then_65 : decode prog_8_method_10_code 65 = .ok (.invokespecial 21, 3) := by decide +kernel
set_option maxRecDepth 100000 in
theorem dX6_then_68 : decode prog_8_method_10_code 68 = .ok (.goto 4, 3) := by decide +kernel
set_option maxRecDepth 100000 in
theorem dX6_then_71 : decode prog_8_method_10_code 71 = .ok (.aconst_null, 1) := by decide +kernel
set_option maxRecDepth 100000 in
theorem dX6_then_72 : decode prog_8_method_10_code 72 = .ok (.areturn, 1) := by decide +kernel
set_option maxRecDepth 100000 in
theorem fl6_79 : ∀ c ∈ ([6] : List Nat), FL "HandleModels$Shapes" 79 c 0 := fun c hc => by
  cases List.mem_singleton.mp hc
  exact ⟨_, "HandleModels$Types", rfl, by decide, (gd_of 222 rfl rfl), Or.inl rfl⟩
def fX6_then_48 (z : Nat → Nat) (r0 : Option Nat) (r1 : Option Nat) (sx0 : Int32) (h : aH) : Option (Option Nat × aH) :=
  (if sx0 = 0 then
  some (none, h)
  else
  (r0).bind fun a101 =>
  (rdR (hnew h 2 (.inr (6, dz6))) a101 [6] 0).bind fun r102 =>
  (r1).bind fun a103 =>
  (rdI (hnew h 2 (.inr (6, dz6))) a103 [6] 1).bind fun x104 =>
  (fX8_init z h.1 r102 x104 (hnew h 2 (.inr (6, dz6)))).bind fun q105 =>
  some ((some h.1), q105))
set_option maxHeartbeats 4000000 in
set_option maxRecDepth 100000 in
theorem xX6_then_48 {l : Launch} {g : aG} {d : Nat} (hK : 2 ≤ d + 1) {r0 : Option Nat} {r1 : Option Nat} {sx0 : Int32} {h : aH} {q : Option Nat × aH} (hf : fX6_then_48 g.2.2 r0 r1 sx0 h = some q) : Y l g miX6_then (d + 1) 48 [some (.inr (.inr r0)), some (.inr (.inr r1)), none] [.inl sx0] h (some (.inr (.inr q.1)), q.2) := by
  unfold fX6_then_48 at hf
  refine y_istore_n (i := 2) (lv2 := [some (.inr (.inr r0)), some (.inr (.inr r1)), some (.inl sx0)]) dX6_then_48 rfl (by decide) rfl ?_
  refine y_iload_n (i := 2) dX6_then_49 rfl rfl ?_
  refine y_if_eq (tgt := 71) dX6_then_50 (by decide) (fun hc => ?_) (fun hc => ?_)
  · rw [if_pos hc] at hf
    refine y_null dX6_then_71 ?_
    obtain rfl := Option.some.inj hf
    exact y_ret (v := some (.inr (.inr none))) dX6_then_72 rfl
  · rw [if_neg hc] at hf
    refine y_new (c := 6) (fs := dz6) rfl tyX8 tyX8_ok rfl dz6_ok (gd_of 213 rfl rfl) (gd_of 214 rfl rfl) (gd_of 79 rfl rfl) dX6_then_53 ?_
    refine y_dup dX6_then_56 rfl ?_
    refine y_aload_n (i := 0) dX6_then_57 rfl rfl ?_
    replace hf := bnd hf
    obtain ⟨a101, rfl, hf⟩ := hf
    replace hf := bnd hf
    obtain ⟨r102, er102, hf⟩ := hf
    refine y_getR er102 fl6_79 dX6_then_58 ?_
    refine y_aload_n (i := 1) dX6_then_61 rfl rfl ?_
    replace hf := bnd hf
    obtain ⟨a103, rfl, hf⟩ := hf
    replace hf := bnd hf
    obtain ⟨x104, ex104, hf⟩ := hf
    refine y_getI ex104 fl6_72 dX6_then_62 ?_
    replace hf := bnd hf
    obtain ⟨q105, eq105, hf⟩ := hf
    refine y_callI (mj := miX8_init) (args := [.inr (.inr r102), .inl x104]) (st := [.inr (.inr (some h.1))]) dX6_then_65 (Or.inl (gd_of 217 rfl rfl)) (gd_of 218 rfl rfl) rfl rfl okX8_init (xX8_init (by omega) eq105) (Nat.le_of_ble_eq_true rfl) rfl ?_
    show Y l g miX6_then (d + 1) 68 [some (.inr (.inr (some a101))), some (.inr (.inr (some a103))), some (.inl sx0)] [.inr (.inr (some h.1))] q105 _
    refine y_goto (tgt := 72) dX6_then_68 (by decide) ?_
    obtain rfl := Option.some.inj hf
    exact y_ret (v := some (.inr (.inr (some h.1)))) dX6_then_72 rfl
def fX6_then_47 (z : Nat → Nat) (r0 : Option Nat) (r1 : Option Nat) (h : aH) : Option (Option Nat × aH) :=
  fX6_then_48 z r0 r1 0 h
set_option maxHeartbeats 4000000 in
set_option maxRecDepth 100000 in
theorem xX6_then_47 {l : Launch} {g : aG} {d : Nat} (hK : 2 ≤ d + 1) {r0 : Option Nat} {r1 : Option Nat} {h : aH} {q : Option Nat × aH} (hf : fX6_then_47 g.2.2 r0 r1 h = some q) : Y l g miX6_then (d + 1) 47 [some (.inr (.inr r0)), some (.inr (.inr r1)), none] [] h (some (.inr (.inr q.1)), q.2) := by
  unfold fX6_then_47 at hf
  refine y_iconst (v := 0) dX6_then_47 (by decide) ?_
  refine Y.weak (lv2 := [some (.inr (.inr r0)), some (.inr (.inr r1)), none]) [true, true, false] rfl ?_
  exact xX6_then_48 hK hf
def fX6_then (z : Nat → Nat) (r0 : Option Nat) (r1 : Option Nat) (h : aH) : Option (Option Nat × aH) :=
  (r0).bind fun a101 =>
  (rdI h a101 [6] 1).bind fun x102 =>
  (if x102 = 4 then
  (r1).bind fun a110 =>
  (obO h a110 6).bind fun fs111 =>
  (fX8_count z a110 h).bind fun q109 =>
  (if q109.1 = 0 then
  fX6_then_48 z (some a101) (some a110) 1 q109.2
  else
  fX6_then_48 z (some a101) (some a110) 0 q109.2)
  else
  (r1).bind fun a104 =>
  (obO h a104 6).bind fun fs105 =>
  (fX8_count z a104 h).bind fun q103 =>
  (if q103.1 = 1 then
  (obO q103.2 a104 6).bind fun fs107 =>
  (fX8_at z a104 0 q103.2).bind fun q106 =>
  (rdI q106.2 a101 [6] 1).bind fun x108 =>
  (if q106.1 = x108 then
  fX6_then_48 z (some a101) (some a104) 1 q106.2
  else
  fX6_then_47 z (some a101) (some a104) q106.2)
  else
  fX6_then_47 z (some a101) (some a104) q103.2))
set_option maxHeartbeats 4000000 in
set_option maxRecDepth 100000 in
theorem xX6_then {l : Launch} {g : aG} {d : Nat} (hK : 2 ≤ d) {r0 : Option Nat} {r1 : Option Nat} {h : aH} {q : Option Nat × aH} (hf : fX6_then g.2.2 r0 r1 h = some q) : Ev l g miX6_then d [.inr (.inr r0), .inr (.inr r1)] h (some (.inr (.inr q.1)), q.2) := by
  obtain ⟨d, rfl⟩ : ∃ e, d = e + 1 := ⟨d - 1, by omega⟩
  refine ⟨?_, Or.inl ⟨_, rfl⟩, Nat.le_of_ble_eq_true rfl⟩
  unfold fX6_then at hf
  show Y l g miX6_then (d + 1) 0 [some (.inr (.inr r0)), some (.inr (.inr r1)), none] [] h _
  refine y_aload_n (i := 0) dX6_then_0 rfl rfl ?_
  replace hf := bnd hf
  obtain ⟨a101, rfl, hf⟩ := hf
  replace hf := bnd hf
  obtain ⟨x102, ex102, hf⟩ := hf
  refine y_getI ex102 fl6_72 dX6_then_1 ?_
  refine y_iconst (v := 4) dX6_then_4 (by decide) ?_
  refine y_icmp_ne (tgt := 23) dX6_then_5 (by decide) (fun hc => ?_) (fun hc => ?_)
  · rw [if_neg hc] at hf
    refine y_aload_n (i := 1) dX6_then_23 rfl rfl ?_
    replace hf := bnd hf
    obtain ⟨a104, rfl, hf⟩ := hf
    replace hf := bnd hf
    obtain ⟨fs105, efs105, hf⟩ := hf
    replace hf := bnd hf
    obtain ⟨q103, eq103, hf⟩ := hf
    refine y_callV (mj := miX8_count) (args := []) (st := []) dX6_then_24 (gd_of 313 rfl rfl) (gd_of 314 rfl rfl) (gd_of 315 rfl rfl) okX8_count (obO_spec efs105) rfl rfl (xX8_count (by omega) eq103) (Nat.le_of_ble_eq_true rfl) rfl ?_
    show Y l g miX6_then (d + 1) 27 [some (.inr (.inr (some a101))), some (.inr (.inr (some a104))), none] [.inl q103.1] q103.2 _
    refine y_iconst (v := 1) dX6_then_27 (by decide) ?_
    refine y_icmp_ne (tgt := 47) dX6_then_28 (by decide) (fun hc => ?_) (fun hc => ?_)
    · rw [if_neg hc] at hf
      refine Y.weak (lv2 := [some (.inr (.inr (some a101))), some (.inr (.inr (some a104))), none]) [true, true, false] rfl ?_
      exact xX6_then_47 hK hf
    · rw [if_pos hc] at hf
      refine y_aload_n (i := 1) dX6_then_31 rfl rfl ?_
      refine y_iconst (v := 0) dX6_then_32 (by decide) ?_
      replace hf := bnd hf
      obtain ⟨fs107, efs107, hf⟩ := hf
      replace hf := bnd hf
      obtain ⟨q106, eq106, hf⟩ := hf
      refine y_callV (mj := miX8_at) (args := [.inl 0]) (st := []) dX6_then_33 (gd_of 339 rfl rfl) (gd_of 340 rfl rfl) (gd_of 341 rfl rfl) okX8_at (obO_spec efs107) rfl rfl (xX8_at (by omega) eq106) (Nat.le_of_ble_eq_true rfl) rfl ?_
      show Y l g miX6_then (d + 1) 36 [some (.inr (.inr (some a101))), some (.inr (.inr (some a104))), none] [.inl q106.1] q106.2 _
      refine y_aload_n (i := 0) dX6_then_36 rfl rfl ?_
      replace hf := bnd hf
      obtain ⟨x108, ex108, hf⟩ := hf
      refine y_getI ex108 fl6_72 dX6_then_37 ?_
      refine y_icmp_ne (tgt := 47) dX6_then_40 (by decide) (fun hc => ?_) (fun hc => ?_)
      · rw [if_neg hc] at hf
        refine Y.weak (lv2 := [some (.inr (.inr (some a101))), some (.inr (.inr (some a104))), none]) [true, true, false] rfl ?_
        exact xX6_then_47 hK hf
      · rw [if_pos hc] at hf
        refine y_iconst (v := 1) dX6_then_43 (by decide) ?_
        refine y_goto (tgt := 48) dX6_then_44 (by decide) ?_
        refine Y.weak (lv2 := [some (.inr (.inr (some a101))), some (.inr (.inr (some a104))), none]) [true, true, false] rfl ?_
        exact xX6_then_48 hK hf
  · rw [if_pos hc] at hf
    refine y_aload_n (i := 1) dX6_then_8 rfl rfl ?_
    replace hf := bnd hf
    obtain ⟨a110, rfl, hf⟩ := hf
    replace hf := bnd hf
    obtain ⟨fs111, efs111, hf⟩ := hf
    replace hf := bnd hf
    obtain ⟨q109, eq109, hf⟩ := hf
    refine y_callV (mj := miX8_count) (args := []) (st := []) dX6_then_9 (gd_of 313 rfl rfl) (gd_of 314 rfl rfl) (gd_of 315 rfl rfl) okX8_count (obO_spec efs111) rfl rfl (xX8_count (by omega) eq109) (Nat.le_of_ble_eq_true rfl) rfl ?_
    show Y l g miX6_then (d + 1) 12 [some (.inr (.inr (some a101))), some (.inr (.inr (some a110))), none] [.inl q109.1] q109.2 _
    refine y_if_ne (tgt := 19) dX6_then_12 (by decide) (fun hc => ?_) (fun hc => ?_)
    · rw [if_neg hc] at hf
      refine y_iconst (v := 0) dX6_then_19 (by decide) ?_
      refine y_goto (tgt := 48) dX6_then_20 (by decide) ?_
      refine Y.weak (lv2 := [some (.inr (.inr (some a101))), some (.inr (.inr (some a110))), none]) [true, true, false] rfl ?_
      exact xX6_then_48 hK hf
    · rw [if_pos hc] at hf
      refine y_iconst (v := 1) dX6_then_15 (by decide) ?_
      refine y_goto (tgt := 48) dX6_then_16 (by decide) ?_
      refine Y.weak (lv2 := [some (.inr (.inr (some a101))), some (.inr (.inr (some a110))), none]) [true, true, false] rfl ?_
      exact xX6_then_48 hK hf
set_option maxRecDepth 100000 in
theorem dX6_ofOther_0 : decode prog_8_method_7_code 0 = .ok (.aload_n 0, 1) := by decide +kernel
set_option maxRecDepth 100000 in
theorem dX6_ofOther_1 : decode prog_8_method_7_code 1 = .ok (.getfield 24, 3) := by decide +kernel
set_option maxRecDepth 100000 in
theorem dX6_ofOther_4 : decode prog_8_method_7_code 4 = .ok (.getfield 30, 3) := by decide +kernel
set_option maxRecDepth 100000 in
theorem dX6_ofOther_7 : decode prog_8_method_7_code 7 = .ok (.astore_n 1, 1) := by decide +kernel
set_option maxRecDepth 100000 in
theorem dX6_ofOther_8 : decode prog_8_method_7_code 8 = .ok (.aload_n 0, 1) := by decide +kernel
set_option maxRecDepth 100000 in
theorem dX6_ofOther_9 : decode prog_8_method_7_code 9 = .ok (.getfield 54, 3) := by decide +kernel
set_option maxRecDepth 100000 in
theorem dX6_ofOther_12 : decode prog_8_method_7_code 12 = .ok (.getfield 30, 3) := by decide +kernel
set_option maxRecDepth 100000 in
theorem dX6_ofOther_15 : decode prog_8_method_7_code 15 = .ok (.astore_n 2, 1) := by decide +kernel
set_option maxRecDepth 100000 in
theorem dX6_ofOther_16 : decode prog_8_method_7_code 16 = .ok (.aload_n 0, 1) := by decide +kernel
set_option maxRecDepth 100000 in
theorem dX6_ofOther_17 : decode prog_8_method_7_code 17 = .ok (.getfield 57, 3) := by decide +kernel
set_option maxRecDepth 100000 in
theorem dX6_ofOther_20 : decode prog_8_method_7_code 20 = .ok (.getfield 30, 3) := by decide +kernel
set_option maxRecDepth 100000 in
theorem dX6_ofOther_23 : decode prog_8_method_7_code 23 = .ok (.astore_n 3, 1) := by decide +kernel
set_option maxRecDepth 100000 in
theorem dX6_ofOther_24 : decode prog_8_method_7_code 24 = .ok (.aload_n 0, 1) := by decide +kernel
set_option maxRecDepth 100000 in
theorem dX6_ofOther_25 : decode prog_8_method_7_code 25 = .ok (.getfield 44, 3) := by decide +kernel
set_option maxRecDepth 100000 in
theorem dX6_ofOther_28 : decode prog_8_method_7_code 28 = .ok (.tableswitch 279 0 12 #[68, 81, 101, 110, 116, 157, 163, 193, 218, 240, 247, 256, 265], 68) := by decide +kernel
set_option maxRecDepth 100000 in
theorem dX6_ofOther_96 : decode prog_8_method_7_code 96 = .ok (.aload_n 1, 1) := by decide +kernel
set_option maxRecDepth 100000 in
theorem dX6_ofOther_97 : decode prog_8_method_7_code 97 = .ok (.aload_n 0, 1) := by decide +kernel
set_option maxRecDepth 100000 in
theorem dX6_ofOther_98 : decode prog_8_method_7_code 98 = .ok (.getfield 40, 3) := by decide +kernel
set_option maxRecDepth 100000 in
theorem dX6_ofOther_101 : decode prog_8_method_7_code 101 = .ok (.iconst 1, 1) := by decide +kernel
set_option maxRecDepth 100000 in
theorem dX6_ofOther_102 : decode prog_8_method_7_code 102 = .ok (.getstatic 17, 3) := by decide +kernel
set_option maxRecDepth 100000 in
theorem dX6_ofOther_105 : decode prog_8_method_7_code 105 = .ok (.invokevirtual 60, 3) := by decide +kernel
set_option maxRecDepth 100000 in
theorem dX6_ofOther_108 : decode prog_8_method_7_code 108 = .ok (.areturn, 1) := by decide +kernel
set_option maxRecDepth 100000 in
theorem dX6_ofOther_109 : decode prog_8_method_7_code 109 = .ok (.aload_n 1, 1) := by decide +kernel
set_option maxRecDepth 100000 in
theorem dX6_ofOther_110 : decode prog_8_method_7_code 110 = .ok (.aload_n 0, 1) := by decide +kernel
set_option maxRecDepth 100000 in
theorem dX6_ofOther_111 : decode prog_8_method_7_code 111 = .ok (.getfield 40, 3) := by decide +kernel
set_option maxRecDepth 100000 in
theorem dX6_ofOther_114 : decode prog_8_method_7_code 114 = .ok (.iconst 0, 1) := by decide +kernel
set_option maxRecDepth 100000 in
theorem dX6_ofOther_115 : decode prog_8_method_7_code 115 = .ok (.iconst 1, 1) := by decide +kernel
set_option maxRecDepth 100000 in
theorem dX6_ofOther_116 : decode prog_8_method_7_code 116 = .ok (.newarray .int, 2) := by decide +kernel
set_option maxRecDepth 100000 in
theorem dX6_ofOther_118 : decode prog_8_method_7_code 118 = .ok (.dup, 1) := by decide +kernel
set_option maxRecDepth 100000 in
theorem dX6_ofOther_119 : decode prog_8_method_7_code 119 = .ok (.iconst 0, 1) := by decide +kernel
set_option maxRecDepth 100000 in
theorem dX6_ofOther_120 : decode prog_8_method_7_code 120 = .ok (.aload_n 0, 1) := by decide +kernel
set_option maxRecDepth 100000 in
theorem dX6_ofOther_121 : decode prog_8_method_7_code 121 = .ok (.getfield 47, 3) := by decide +kernel
set_option maxRecDepth 100000 in
theorem dX6_ofOther_124 : decode prog_8_method_7_code 124 = .ok (.iastore, 1) := by decide +kernel
set_option maxRecDepth 100000 in
theorem dX6_ofOther_125 : decode prog_8_method_7_code 125 = .ok (.invokevirtual 60, 3) := by decide +kernel
set_option maxRecDepth 100000 in
theorem dX6_ofOther_128 : decode prog_8_method_7_code 128 = .ok (.areturn, 1) := by decide +kernel
set_option maxRecDepth 100000 in
theorem dX6_ofOther_129 : decode prog_8_method_7_code 129 = .ok (.aload_n 1, 1) := by decide +kernel
set_option maxRecDepth 100000 in
theorem dX6_ofOther_130 : decode prog_8_method_7_code 130 = .ok (.aload_n 0, 1) := by decide +kernel
set_option maxRecDepth 100000 in
theorem dX6_ofOther_131 : decode prog_8_method_7_code 131 = .ok (.getfield 40, 3) := by decide +kernel
set_option maxRecDepth 100000 in
theorem dX6_ofOther_134 : decode prog_8_method_7_code 134 = .ok (.invokestatic 64, 3) := by decide +kernel
set_option maxRecDepth 100000 in
theorem dX6_ofOther_137 : decode prog_8_method_7_code 137 = .ok (.areturn, 1) := by decide +kernel
set_option maxRecDepth 100000 in
theorem dX6_ofOther_138 : decode prog_8_method_7_code 138 = .ok (.aload_n 1, 1) := by decide +kernel
set_option maxRecDepth 100000 in
theorem dX6_ofOther_139 : decode prog_8_method_7_code 139 = .ok (.aload_n 2, 1) := by decide +kernel
set_option maxRecDepth 100000 in
theorem dX6_ofOther_140 : decode prog_8_method_7_code 140 = .ok (.invokestatic 68, 3) := by decide +kernel
set_option maxRecDepth 100000 in
theorem dX6_ofOther_143 : decode prog_8_method_7_code 143 = .ok (.areturn, 1) := by decide +kernel
set_option maxRecDepth 100000 in
theorem dX6_ofOther_144 : decode prog_8_method_7_code 144 = .ok (.aload_n 2, 1) := by decide +kernel
set_option maxRecDepth 100000 in
theorem dX6_ofOther_145 : decode prog_8_method_7_code 145 = .ok (.invokevirtual 36, 3) := by decide +kernel
set_option maxRecDepth 100000 in
theorem dX6_ofOther_148 : decode prog_8_method_7_code 148 = .ok (.iconst 1, 1) := by decide +kernel
set_option maxRecDepth 100000 in
theorem dX6_ofOther_149 : decode prog_8_method_7_code 149 = .ok (.if_icmp .ne 34, 3) := by decide +kernel
set_option maxRecDepth 100000 in
theorem dX6_ofOther_152 : decode prog_8_method_7_code 152 = .ok (.aload_n 2, 1) := by decide +kernel
set_option maxRecDepth 100000 in
theorem dX6_ofOther_153 : decode prog_8_method_7_code 153 = .ok (.getfield 72, 3) := by decide +kernel
set_option maxRecDepth 100000 in
theorem dX6_ofOther_156 : decode prog_8_method_7_code 156 = .ok (.aload_n 1, 1) := by decide +kernel
set_option maxRecDepth 100000 in
theorem dX6_ofOther_157 : decode prog_8_method_7_code 157 = .ok (.aload_n 0, 1) := by decide +kernel
set_option maxRecDepth 100000 in
theorem dX6_ofOther_158 : decode prog_8_method_7_code 158 = .ok (.getfield 40, 3) := by decide +kernel
set_option maxRecDepth 100000 in
theorem dX6_ofOther_161 : decode prog_8_method_7_code 161 = .ok (.invokevirtual 75, 3) := by decide +kernel
set_option maxRecDepth 100000 in
theorem dX6_ofOther_164 : decode prog_8_method_7_code 164 = .ok (.if_icmp .ne 19, 3) := by decide +kernel
set_option maxRecDepth 100000 in
theorem dX6_ofOther_167 : decode prog_8_method_7_code 167 = .ok (.aload_n 1, 1) := by decide +kernel
set_option maxRecDepth 100000 in
theorem dX6_ofOther_168 : decode prog_8_method_7_code 168 = .ok (.aload_n 0, 1) := by decide +kernel
set_option maxRecDepth 100000 in
theorem dX6_ofOther_169 : decode prog_8_method_7_code 169 = .ok (.getfield 40, 3) := by decide +kernel
set_option maxRecDepth 100000 in
theorem dX6_ofOther_172 : decode prog_8_method_7_code 172 = .ok (.iconst 1, 1) := by decide +kernel
set_option maxRecDepth 100000 in
theorem dX6_ofOther_173 : decode prog_8_method_7_code 173 = .ok (.aload_n 2, 1) := by decide +kernel
set_option maxRecDepth 100000 in
theorem dX6_ofOther_174 : decode prog_8_method_7_code 174 = .ok (.getfield 79, 3) := by decide +kernel
set_option maxRecDepth 100000 in
theorem dX6_ofOther_177 : decode prog_8_method_7_code 177 = .ok (.invokevirtual 60, 3) := by decide +kernel
set_option maxRecDepth 100000 in
theorem dX6_ofOther_180 : decode prog_8_method_7_code 180 = .ok (.goto 4, 3) := by decide +kernel
set_option maxRecDepth 100000 in
theorem dX6_ofOther_183 : decode prog_8_method_7_code 183 = .ok (.aconst_null, 1) := by decide +kernel
set_option maxRecDepth 100000 in
theorem dX6_ofOther_184 : decode prog_8_method_7_code 184 = .ok (.areturn, 1) := by decide +kernel
set_option maxRecDepth 100000 in
theorem dX6_ofOther_185 : decode prog_8_method_7_code 185 = .ok (.aload_n 1, 1) := by decide +kernel
set_option maxRecDepth 100000 in
theorem dX6_ofOther_186 : decode prog_8_method_7_code 186 = .ok (.aload_n 2, 1) := by decide +kernel
set_option maxRecDepth 100000 in
theorem dX6_ofOther_187 : decode prog_8_method_7_code 187 = .ok (.invokestatic 82, 3) := by decide +kernel
set_option maxRecDepth 100000 in
theorem dX6_ofOther_190 : decode prog_8_method_7_code 190 = .ok (.areturn, 1) := by decide +kernel
set_option maxRecDepth 100000 in
theorem dX6_ofOther_191 : decode prog_8_method_7_code 191 = .ok (.aload_n 1, 1) := by decide +kernel
set_option maxRecDepth 100000 in
theorem dX6_ofOther_192 : decode prog_8_method_7_code 192 = .ok (.getfield 72, 3) := by decide +kernel
set_option maxRecDepth 100000 in
theorem dX6_ofOther_195 : decode prog_8_method_7_code 195 = .ok (.ifCond .ne 24, 3) := by decide +kernel
set_option maxRecDepth 100000 in
theorem dX6_ofOther_198 : decode prog_8_method_7_code 198 = .ok (.aload_n 2, 1) := by decide +kernel
set_option maxRecDepth 100000 in
theorem dX6_ofOther_199 : decode prog_8_method_7_code 199 = .ok (.aload_n 3, 1) := by decide +kernel
set_option maxRecDepth 100000 in
theorem dX6_ofOther_200 : decode prog_8_method_7_code 200 = .ok (.invokevirtual 85, 3) := by decide +kernel
set_option maxRecDepth 100000 in
theorem dX6_ofOther_203 : decode prog_8_method_7_code 203 = .ok (.ifCond .eq 16, 3) := by decide +kernel
set_option maxRecDepth 100000 in
theorem dX6_ofOther_206 : decode prog_8_method_7_code 206 = .ok (.aload_n 2, 1) := by decide +kernel
set_option maxRecDepth 100000 in
theorem dX6_ofOther_207 : decode prog_8_method_7_code 207 = .ok (.iconst 0, 1) := by decide +kernel
set_option maxRecDepth 100000 in
theorem dX6_ofOther_208 : decode prog_8_method_7_code 208 = .ok (.aload_n 1, 1) := by decide +kernel
set_option maxRecDepth 100000 in
theorem dX6_ofOther_209 : decode prog_8_method_7_code 209 = .ok (.invokevirtual 89, 3) := by decide +kernel
set_option maxRecDepth 100000 in
theorem dX6_ofOther_212 : decode prog_8_method_7_code 212 = .ok (.ifCond .eq 7, 3) := by decide +kernel
set_option maxRecDepth 100000 in
theorem dX6_ofOther_215 : decode prog_8_method_7_code 215 = .ok (.aload_n 2, 1) := by decide +kernel
set_option maxRecDepth 100000 in
theorem dX6_ofOther_216 : decode prog_8_method_7_code 216 = .ok (.goto 4, 3) := by decide +kernel
set_option maxRecDepth 100000 in
theorem dX6_ofOther_219 : decode prog_8_method_7_code 219 = .ok (.aconst_null, 1) := by decide +kernel
set_option maxRecDepth 100000 in
theorem dX6_ofOther_220 : decode prog_8_method_7_code 220 = .ok (.areturn, 1) := by decide +kernel
set_option maxRecDepth 100000 in
theorem dX6_ofOther_221 : decode prog_8_method_7_code 221 = .ok (.aload_n 2, 1) := by decide +kernel
set_option maxRecDepth 100000 in
theorem dX6_ofOther_222 : decode prog_8_method_7_code 222 = .ok (.getfield 72, 3) := by decide +kernel
set_option maxRecDepth 100000 in
theorem dX6_ofOther_225 : decode prog_8_method_7_code 225 = .ok (.aload_n 1, 1) := by decide +kernel
set_option maxRecDepth 100000 in
theorem dX6_ofOther_226 : decode prog_8_method_7_code 226 = .ok (.getfield 72, 3) := by decide +kernel
set_option maxRecDepth 100000 in
theorem dX6_ofOther_229 : decode prog_8_method_7_code 229 = .ok (.if_icmp .ne 15, 3) := by decide +kernel
set_option maxRecDepth 100000 in
theorem dX6_ofOther_232 : decode prog_8_method_7_code 232 = .ok (.aload_n 2, 1) := by decide +kernel
set_option maxRecDepth 100000 in
theorem dX6_ofOther_233 : decode prog_8_method_7_code 233 = .ok (.aload_n 1, 1) := by decide +kernel
set_option maxRecDepth 100000 in
theorem dX6_ofOther_234 : decode prog_8_method_7_code 234 = .ok (.invokestatic 93, 3) := by decide +kernel
set_option maxRecDepth 100000 in
theorem dX6_ofOther_237 : decode prog_8_method_7_code 237 = .ok (.ifCond .eq 7, 3) := by decide +kernel
set_option maxRecDepth 100000 in
theorem dX6_ofOther_240 : decode prog_8_method_7_code 240 = .ok (.aload_n 1, 1) := by decide +kernel
set_option maxRecDepth 100000 in
theorem dX6_ofOther_241 : decode prog_8_method_7_code 241 = .ok (.goto 4, 3) := by decide +kernel
set_option maxRecDepth 100000 in
theorem dX6_ofOther_244 : decode prog_8_method_7_code 244 = .ok (.aconst_null, 1) := by decide +kernel
set_option maxRecDepth 100000 in
theorem dX6_ofOther_245 : decode prog_8_method_7_code 245 = .ok (.areturn, 1) := by decide +kernel
set_option maxRecDepth 100000 in
theorem dX6_ofOther_246 : decode prog_8_method_7_code 246 = .ok (.aload_n 2, 1) := by decide +kernel
set_option maxRecDepth 100000 in
theorem dX6_ofOther_247 : decode prog_8_method_7_code 247 = .ok (.getfield 72, 3) := by decide +kernel
set_option maxRecDepth 100000 in
theorem dX6_ofOther_250 : decode prog_8_method_7_code 250 = .ok (.iconst 4, 1) := by decide +kernel
set_option maxRecDepth 100000 in
theorem dX6_ofOther_251 : decode prog_8_method_7_code 251 = .ok (.if_icmp .ne 15, 3) := by decide +kernel
set_option maxRecDepth 100000 in
theorem dX6_ofOther_254 : decode prog_8_method_7_code 254 = .ok (.aload_n 2, 1) := by decide +kernel
set_option maxRecDepth 100000 in
theorem dX6_ofOther_255 : decode prog_8_method_7_code 255 = .ok (.aload_n 1, 1) := by decide +kernel
set_option maxRecDepth 100000 in
theorem dX6_ofOther_256 : decode prog_8_method_7_code 256 = .ok (.invokestatic 93, 3) := by decide +kernel
set_option maxRecDepth 100000 in
theorem dX6_ofOther_259 : decode prog_8_method_7_code 259 = .ok (.ifCond .eq 7, 3) := by decide +kernel
set_option maxRecDepth 100000 in
theorem dX6_ofOther_262 : decode prog_8_method_7_code 262 = .ok (.aload_n 1, 1) := by decide +kernel
set_option maxRecDepth 100000 in
theorem dX6_ofOther_263 : decode prog_8_method_7_code 263 = .ok (.goto 4, 3) := by decide +kernel
set_option maxRecDepth 100000 in
theorem dX6_ofOther_266 : decode prog_8_method_7_code 266 = .ok (.aconst_null, 1) := by decide +kernel
set_option maxRecDepth 100000 in
theorem dX6_ofOther_267 : decode prog_8_method_7_code 267 = .ok (.areturn, 1) := by decide +kernel
set_option maxRecDepth 100000 in
theorem dX6_ofOther_268 : decode prog_8_method_7_code 268 = .ok (.aload_n 1, 1) := by decide +kernel
set_option maxRecDepth 100000 in
theorem dX6_ofOther_269 : decode prog_8_method_7_code 269 = .ok (.aload_n 2, 1) := by decide +kernel
set_option maxRecDepth 100000 in
theorem dX6_ofOther_270 : decode prog_8_method_7_code 270 = .ok (.aload_n 3, 1) := by decide +kernel
set_option maxRecDepth 100000 in
theorem dX6_ofOther_271 : decode prog_8_method_7_code 271 = .ok (.invokestatic 97, 3) := by decide +kernel
set_option maxRecDepth 100000 in
theorem dX6_ofOther_274 : decode prog_8_method_7_code 274 = .ok (.areturn, 1) := by decide +kernel
set_option maxRecDepth 100000 in
theorem dX6_ofOther_275 : decode prog_8_method_7_code 275 = .ok (.aload_n 1, 1) := by decide +kernel
set_option maxRecDepth 100000 in
theorem dX6_ofOther_276 : decode prog_8_method_7_code 276 = .ok (.aload_n 0, 1) := by decide +kernel
set_option maxRecDepth 100000 in
theorem dX6_ofOther_277 : decode prog_8_method_7_code 277 = .ok (.getfield 40, 3) := by decide +kernel
set_option maxRecDepth 100000 in
theorem dX6_ofOther_280 : decode prog_8_method_7_code 280 = .ok (.invokestatic 101, 3) := by decide +kernel
set_option maxRecDepth 100000 in
theorem dX6_ofOther_283 : decode prog_8_method_7_code 283 = .ok (.areturn, 1) := by decide +kernel
set_option maxRecDepth 100000 in
theorem dX6_ofOther_284 : decode prog_8_method_7_code 284 = .ok (.aload_n 1, 1) := by decide +kernel
set_option maxRecDepth 100000 in
theorem dX6_ofOther_285 : decode prog_8_method_7_code 285 = .ok (.aload_n 0, 1) := by decide +kernel
set_option maxRecDepth 100000 in
theorem dX6_ofOther_286 : decode prog_8_method_7_code 286 = .ok (.getfield 40, 3) := by decide +kernel
set_option maxRecDepth 100000 in
theorem dX6_ofOther_289 : decode prog_8_method_7_code 289 = .ok (.invokestatic 104, 3) := by decide +kernel
set_option maxRecDepth 100000 in
theorem dX6_ofOther_292 : decode prog_8_method_7_code 292 = .ok (.areturn, 1) := by decide +kernel
set_option maxRecDepth 100000 in
theorem dX6_ofOther_293 : decode prog_8_method_7_code 293 = .ok (.aload_n 1, 1) := by decide +kernel
set_option maxRecDepth 100000 in
theorem dX6_ofOther_294 : decode prog_8_method_7_code 294 = .ok (.aload_n 2, 1) := by decide +kernel
set_option maxRecDepth 100000 in
theorem dX6_ofOther_295 : decode prog_8_method_7_code 295 = .ok (.invokestatic 107, 3) := by decide +kernel
set_option maxRecDepth 100000 in
theorem dX6_ofOther_298 : decode prog_8_method_7_code 298 = .ok (.ifCond .eq 7, 3) := by decide +kernel
set_option maxRecDepth 100000 in
theorem dX6_ofOther_301 : decode prog_8_method_7_code 301 = .ok (.aload_n 2, 1) := by decide +kernel
set_option maxRecDepth 100000 in
theorem dX6_ofOther_302 : decode prog_8_method_7_code 302 = .ok (.goto 4, 3) := by decide +kernel
set_option maxRecDepth 100000 in
theorem dX6_ofOther_305 : decode prog_8_method_7_code 305 = .ok (.aconst_null, 1) := by decide +kernel
set_option maxRecDepth 100000 in
theorem dX6_ofOther_306 : decode prog_8_method_7_code 306 = .ok (.areturn, 1) := by decide +kernel
set_option maxRecDepth 100000 in
theorem dX6_ofOther_307 : decode prog_8_method_7_code 307 = .ok (.aconst_null, 1) := by decide +kernel
set_option maxRecDepth 100000 in
theorem dX6_ofOther_308 : decode prog_8_method_7_code 308 = .ok (.areturn, 1) := by decide +kernel
set_option maxRecDepth 100000 in
theorem fl6_24 : ∀ c ∈ ([2] : List Nat), FL "HandleModels$Shapes" 24 c 1 := fun c hc => by
  cases List.mem_singleton.mp hc
  exact ⟨_, "HandleModels$Parts", rfl, by decide, (gd_of 283 rfl rfl), Or.inl rfl⟩
set_option maxRecDepth 100000 in
theorem fl6_30 : ∀ c ∈ ([0, 1] : List Nat), FL "HandleModels$Shapes" 30 c 1 := fun c hc => by
  simp only [List.mem_cons, List.not_mem_nil, or_false] at hc
  rcases hc with rfl | rfl
  · exact ⟨_, "HandleModels$Handle", rfl, by decide, (gd_of 242 rfl rfl), Or.inl rfl⟩
  · exact ⟨_, "HandleModels$Handle", rfl, by decide, (gd_of 242 rfl rfl), Or.inl rfl⟩
set_option maxRecDepth 100000 in
theorem fl6_54 : ∀ c ∈ ([2] : List Nat), FL "HandleModels$Shapes" 54 c 2 := fun c hc => by
  cases List.mem_singleton.mp hc
  exact ⟨_, "HandleModels$Parts", rfl, by decide, (gd_of 286 rfl rfl), Or.inl rfl⟩
set_option maxRecDepth 100000 in
theorem fl6_57 : ∀ c ∈ ([2] : List Nat), FL "HandleModels$Shapes" 57 c 3 := fun c hc => by
  cases List.mem_singleton.mp hc
  exact ⟨_, "HandleModels$Parts", rfl, by decide, (gd_of 289 rfl rfl), Or.inl rfl⟩
set_option maxRecDepth 100000 in
theorem fl6_44 : ∀ c ∈ ([2] : List Nat), FL "HandleModels$Shapes" 44 c 0 := fun c hc => by
  cases List.mem_singleton.mp hc
  exact ⟨_, "HandleModels$Parts", rfl, by decide, (gd_of 281 rfl rfl), Or.inl rfl⟩
set_option maxRecDepth 100000 in
theorem fl6_40 : ∀ c ∈ ([2] : List Nat), FL "HandleModels$Shapes" 40 c 4 := fun c hc => by
  cases List.mem_singleton.mp hc
  exact ⟨_, "HandleModels$Parts", rfl, by decide, (gd_of 292 rfl rfl), Or.inl rfl⟩
set_option maxRecDepth 100000 in
theorem fl6_47 : ∀ c ∈ ([2] : List Nat), FL "HandleModels$Shapes" 47 c 5 := fun c hc => by
  cases List.mem_singleton.mp hc
  exact ⟨_, "HandleModels$Parts", rfl, by decide, (gd_of 296 rfl rfl), Or.inl rfl⟩
set_option maxRecDepth 100000 in
theorem okX6_moved : mOk miX6_moved 2 := ⟨(gd_of 335 rfl rfl), (gd_of 77 rfl rfl), by decide +kernel, ⟨by decide +kernel, by decide +kernel, by decide +kernel⟩, by decide⟩
set_option maxRecDepth 100000 in
theorem okX6_folded : mOk miX6_folded 2 := ⟨(gd_of 345 rfl rfl), (gd_of 77 rfl rfl), by decide +kernel, ⟨by decide +kernel, by decide +kernel, by decide +kernel⟩, by decide⟩
set_option maxRecDepth 100000 in
theorem okX6_then : mOk miX6_then 2 := ⟨(gd_of 353 rfl rfl), (gd_of 77 rfl rfl), by decide +kernel, ⟨by decide +kernel, by decide +kernel, by decide +kernel⟩, by decide⟩
set_option maxRecDepth 100000 in
theorem okX6_takesNumberAnd : mOk miX6_takesNumberAnd 2 := ⟨(gd_of 361 rfl rfl), (gd_of 77 rfl rfl), by decide +kernel, ⟨by decide +kernel, by decide +kernel, by decide +kernel⟩, by decide⟩
set_option maxRecDepth 100000 in
theorem okX6_round : mOk miX6_round 3 := ⟨(gd_of 364 rfl rfl), (gd_of 77 rfl rfl), by decide +kernel, ⟨by decide +kernel, by decide +kernel, by decide +kernel⟩, by decide⟩
set_option maxRecDepth 100000 in
theorem okX6_spread : mOk miX6_spread 2 := ⟨(gd_of 367 rfl rfl), (gd_of 77 rfl rfl), by decide +kernel, ⟨by decide +kernel, by decide +kernel, by decide +kernel⟩, by decide⟩
set_option maxRecDepth 100000 in
theorem okX6_gathered : mOk miX6_gathered 2 := ⟨(gd_of 370 rfl rfl), (gd_of 77 rfl rfl), by decide +kernel, ⟨by decide +kernel, by decide +kernel, by decide +kernel⟩, by decide⟩
set_option maxRecDepth 100000 in
theorem okX6_canAdaptAll : mOk miX6_canAdaptAll 2 := ⟨(gd_of 373 rfl rfl), (gd_of 77 rfl rfl), by decide +kernel, ⟨by decide +kernel, by decide +kernel, by decide +kernel⟩, by decide⟩
def fX6_ofOther (z : Nat → Nat) (r0 : Option Nat) (h : aH) : Option (Option Nat × aH) :=
  (r0).bind fun a101 =>
  (rdR h a101 [2] 1).bind fun r102 =>
  (r102).bind fun a103 =>
  (rdR h a103 [0, 1] 1).bind fun r104 =>
  (rdR h a101 [2] 2).bind fun r105 =>
  (r105).bind fun a106 =>
  (rdR h a106 [0, 1] 1).bind fun r107 =>
  (rdR h a101 [2] 3).bind fun r108 =>
  (r108).bind fun a109 =>
  (rdR h a109 [0, 1] 1).bind fun r110 =>
  (rdI h a101 [2] 0).bind fun x111 =>
  (if x111 = 0 then
  (rdI h a101 [2] 4).bind fun x112 =>
  (r104).bind fun a114 =>
  (obO h a114 6).bind fun fs115 =>
  (fX8_spliced z a114 x112 1 (some (z 0)) h).bind fun q113 =>
  some (q113.1, q113.2)
  else
  (if x111 = 1 then
  (rdI h a101 [2] 4).bind fun x116 =>
  (nwI h 1).bind fun h117 =>
  (rdI h117 a101 [2] 5).bind fun x118 =>
  (awI h117 h.1 0 x118).bind fun h119 =>
  (r104).bind fun a121 =>
  (obO h119 a121 6).bind fun fs122 =>
  (fX8_spliced z a121 x116 0 (some h.1) h119).bind fun q120 =>
  some (q120.1, q120.2)
  else
  (if x111 = 2 then
  (rdI h a101 [2] 4).bind fun x123 =>
  (fX6_moved z r104 x123 h).bind fun q124 =>
  some (q124.1, q124.2)
  else
  (if x111 = 3 then
  (fX6_folded z r104 r107 h).bind fun q125 =>
  some (q125.1, q125.2)
  else
  (if x111 = 4 then
  (r107).bind fun a127 =>
  (obO h a127 6).bind fun fs128 =>
  (fX8_count z a127 h).bind fun q126 =>
  (if q126.1 = 1 then
  (rdI q126.2 a127 [6] 1).bind fun x129 =>
  (rdI q126.2 a101 [2] 4).bind fun x130 =>
  (r104).bind fun a132 =>
  (obO q126.2 a132 6).bind fun fs133 =>
  (fX8_at z a132 x130 q126.2).bind fun q131 =>
  (if x129 = q131.1 then
  (rdI q131.2 a101 [2] 4).bind fun x134 =>
  (rdR q131.2 a127 [6] 0).bind fun r135 =>
  (obO q131.2 a132 6).bind fun fs137 =>
  (fX8_spliced z a132 x134 1 r135 q131.2).bind fun q136 =>
  some (q136.1, q136.2)
  else
  some (none, q131.2))
  else
  some (none, q126.2))
  else
  (if x111 = 5 then
  (fX6_then z r104 r107 h).bind fun q138 =>
  some (q138.1, q138.2)
  else
  (if x111 = 6 then
  (r104).bind fun a139 =>
  (rdI h a139 [6] 1).bind fun x140 =>
  (if x140 = 0 then
  (r107).bind fun a142 =>
  (obO h a142 6).bind fun fs143 =>
  (fX8_alike z a142 r110 h).bind fun q141 =>
  (if q141.1 = 0 then
  some (none, q141.2)
  else
  (obO q141.2 a142 6).bind fun fs145 =>
  (fX8_hasFrom z a142 0 (some a139) q141.2).bind fun q144 =>
  (if q144.1 = 0 then
  some (none, q144.2)
  else
  some ((some a142), q144.2)))
  else
  some (none, h))
  else
  (if x111 = 7 then
  (r107).bind fun a146 =>
  (rdI h a146 [6] 1).bind fun x147 =>
  (r104).bind fun a148 =>
  (rdI h a148 [6] 1).bind fun x149 =>
  (if x147 = x149 then
  (fX6_takesNumberAnd z (some a146) (some a148) h).bind fun q150 =>
  (if q150.1 = 0 then
  some (none, q150.2)
  else
  some ((some a148), q150.2))
  else
  some (none, h))
  else
  (if x111 = 8 then
  (r107).bind fun a151 =>
  (rdI h a151 [6] 1).bind fun x152 =>
  (if x152 = 4 then
  (fX6_takesNumberAnd z (some a151) r104 h).bind fun q153 =>
  (if q153.1 = 0 then
  some (none, q153.2)
  else
  some (r104, q153.2))
  else
  some (none, h))
  else
  (if x111 = 9 then
  (fX6_round z r104 r107 r110 h).bind fun q154 =>
  some (q154.1, q154.2)
  else
  (if x111 = 10 then
  (rdI h a101 [2] 4).bind fun x155 =>
  (fX6_spread z r104 x155 h).bind fun q156 =>
  some (q156.1, q156.2)
  else
  (if x111 = 11 then
  (rdI h a101 [2] 4).bind fun x157 =>
  (fX6_gathered z r104 x157 h).bind fun q158 =>
  some (q158.1, q158.2)
  else
  (if x111 = 12 then
  (fX6_canAdaptAll z r104 r107 h).bind fun q159 =>
  (if q159.1 = 0 then
  some (none, q159.2)
  else
  some (r107, q159.2))
  else
  some (none, h))))))))))))))
set_option maxHeartbeats 4000000 in
set_option maxRecDepth 100000 in
theorem xX6_ofOther {l : Launch} {g : aG} {d : Nat} (hK : 4 ≤ d) {r0 : Option Nat} {h : aH} {q : Option Nat × aH} (hf : fX6_ofOther g.2.2 r0 h = some q) : Ev l g miX6_ofOther d [.inr (.inr r0)] h (some (.inr (.inr q.1)), q.2) := by
  obtain ⟨d, rfl⟩ : ∃ e, d = e + 1 := ⟨d - 1, by omega⟩
  refine ⟨?_, Or.inl ⟨_, rfl⟩, Nat.le_of_ble_eq_true rfl⟩
  unfold fX6_ofOther at hf
  show Y l g miX6_ofOther (d + 1) 0 [some (.inr (.inr r0)), none, none, none] [] h _
  refine y_aload_n (i := 0) dX6_ofOther_0 rfl rfl ?_
  replace hf := bnd hf
  obtain ⟨a101, rfl, hf⟩ := hf
  replace hf := bnd hf
  obtain ⟨r102, er102, hf⟩ := hf
  refine y_getR er102 fl6_24 dX6_ofOther_1 ?_
  replace hf := bnd hf
  obtain ⟨a103, rfl, hf⟩ := hf
  replace hf := bnd hf
  obtain ⟨r104, er104, hf⟩ := hf
  refine y_getR er104 fl6_30 dX6_ofOther_4 ?_
  refine y_astore_n (i := 1) (lv2 := [some (.inr (.inr (some a101))), some (.inr (.inr r104)), none, none]) dX6_ofOther_7 rfl (by decide) rfl ?_
  refine y_aload_n (i := 0) dX6_ofOther_8 rfl rfl ?_
  replace hf := bnd hf
  obtain ⟨r105, er105, hf⟩ := hf
  refine y_getR er105 fl6_54 dX6_ofOther_9 ?_
  replace hf := bnd hf
  obtain ⟨a106, rfl, hf⟩ := hf
  replace hf := bnd hf
  obtain ⟨r107, er107, hf⟩ := hf
  refine y_getR er107 fl6_30 dX6_ofOther_12 ?_
  refine y_astore_n (i := 2) (lv2 := [some (.inr (.inr (some a101))), some (.inr (.inr r104)), some (.inr (.inr r107)), none]) dX6_ofOther_15 rfl (by decide) rfl ?_
  refine y_aload_n (i := 0) dX6_ofOther_16 rfl rfl ?_
  replace hf := bnd hf
  obtain ⟨r108, er108, hf⟩ := hf
  refine y_getR er108 fl6_57 dX6_ofOther_17 ?_
  replace hf := bnd hf
  obtain ⟨a109, rfl, hf⟩ := hf
  replace hf := bnd hf
  obtain ⟨r110, er110, hf⟩ := hf
  refine y_getR er110 fl6_30 dX6_ofOther_20 ?_
  refine y_astore_n (i := 3) (lv2 := [some (.inr (.inr (some a101))), some (.inr (.inr r104)), some (.inr (.inr r107)), some (.inr (.inr r110))]) dX6_ofOther_23 rfl (by decide) rfl ?_
  refine y_aload_n (i := 0) dX6_ofOther_24 rfl rfl ?_
  replace hf := bnd hf
  obtain ⟨x111, ex111, hf⟩ := hf
  refine y_getI ex111 fl6_44 dX6_ofOther_25 ?_
  refine y_table dX6_ofOther_28 [(0, 96), (1, 109), (2, 129), (3, 138), (4, 144), (5, 185), (6, 191), (7, 221), (8, 246), (9, 268), (10, 275), (11, 284), (12, 293)] 307 (by decide) (by decide) (by decide) (by decide) ?_
  refine y_swc (fun hc => ?_) (fun hc => ?_)
  · rw [if_pos hc] at hf
    refine y_aload_n (i := 1) dX6_ofOther_96 rfl rfl ?_
    refine y_aload_n (i := 0) dX6_ofOther_97 rfl rfl ?_
    replace hf := bnd hf
    obtain ⟨x112, ex112, hf⟩ := hf
    refine y_getI ex112 fl6_40 dX6_ofOther_98 ?_
    refine y_iconst (v := 1) dX6_ofOther_101 (by decide) ?_
    refine y_gets (i := 0) rfl (Or.inr ⟨"HandleModels", by simp [nWs]⟩) dX6_ofOther_102 ?_
    replace hf := bnd hf
    obtain ⟨a114, rfl, hf⟩ := hf
    replace hf := bnd hf
    obtain ⟨fs115, efs115, hf⟩ := hf
    replace hf := bnd hf
    obtain ⟨q113, eq113, hf⟩ := hf
    refine y_callV (mj := miX8_spliced) (args := [.inl x112, .inl 1, .inr (.inr (some (g.2.2 0)))]) (st := []) dX6_ofOther_105 (gd_of 323 rfl rfl) (gd_of 324 rfl rfl) (gd_of 325 rfl rfl) okX8_spliced (obO_spec efs115) rfl rfl (xX8_spliced (by omega) eq113) (Nat.le_of_ble_eq_true rfl) rfl ?_
    show Y l g miX6_ofOther (d + 1) 108 [some (.inr (.inr (some a101))), some (.inr (.inr (some a114))), some (.inr (.inr r107)), some (.inr (.inr r110))] [.inr (.inr q113.1)] q113.2 _
    obtain rfl := Option.some.inj hf
    exact y_ret (v := some (.inr (.inr q113.1))) dX6_ofOther_108 rfl
  rw [if_neg hc] at hf
  refine y_swc (fun hc => ?_) (fun hc => ?_)
  · rw [if_pos hc] at hf
    refine y_aload_n (i := 1) dX6_ofOther_109 rfl rfl ?_
    refine y_aload_n (i := 0) dX6_ofOther_110 rfl rfl ?_
    replace hf := bnd hf
    obtain ⟨x116, ex116, hf⟩ := hf
    refine y_getI ex116 fl6_40 dX6_ofOther_111 ?_
    refine y_iconst (v := 0) dX6_ofOther_114 (by decide) ?_
    refine y_iconst (v := 1) dX6_ofOther_115 (by decide) ?_
    replace hf := bnd hf
    obtain ⟨h117, eh117, hf⟩ := hf
    refine y_newI eh117 (gd_of 114 rfl rfl) dX6_ofOther_116 ?_
    refine y_dup dX6_ofOther_118 rfl ?_
    refine y_iconst (v := 0) dX6_ofOther_119 (by decide) ?_
    refine y_aload_n (i := 0) dX6_ofOther_120 rfl rfl ?_
    replace hf := bnd hf
    obtain ⟨x118, ex118, hf⟩ := hf
    refine y_getI ex118 fl6_47 dX6_ofOther_121 ?_
    replace hf := bnd hf
    obtain ⟨h119, eh119, hf⟩ := hf
    refine y_iastore eh119 dX6_ofOther_124 ?_
    replace hf := bnd hf
    obtain ⟨a121, rfl, hf⟩ := hf
    replace hf := bnd hf
    obtain ⟨fs122, efs122, hf⟩ := hf
    replace hf := bnd hf
    obtain ⟨q120, eq120, hf⟩ := hf
    refine y_callV (mj := miX8_spliced) (args := [.inl x116, .inl 0, .inr (.inr (some h.1))]) (st := []) dX6_ofOther_125 (gd_of 323 rfl rfl) (gd_of 324 rfl rfl) (gd_of 325 rfl rfl) okX8_spliced (obO_spec efs122) rfl rfl (xX8_spliced (by omega) eq120) (Nat.le_of_ble_eq_true rfl) rfl ?_
    show Y l g miX6_ofOther (d + 1) 128 [some (.inr (.inr (some a101))), some (.inr (.inr (some a121))), some (.inr (.inr r107)), some (.inr (.inr r110))] [.inr (.inr q120.1)] q120.2 _
    obtain rfl := Option.some.inj hf
    exact y_ret (v := some (.inr (.inr q120.1))) dX6_ofOther_128 rfl
  rw [if_neg hc] at hf
  refine y_swc (fun hc => ?_) (fun hc => ?_)
  · rw [if_pos hc] at hf
    refine y_aload_n (i := 1) dX6_ofOther_129 rfl rfl ?_
    refine y_aload_n (i := 0) dX6_ofOther_130 rfl rfl ?_
    replace hf := bnd hf
    obtain ⟨x123, ex123, hf⟩ := hf
    refine y_getI ex123 fl6_40 dX6_ofOther_131 ?_
    replace hf := bnd hf
    obtain ⟨q124, eq124, hf⟩ := hf
    refine y_callS (mj := miX6_moved) (args := [.inr (.inr r104), .inl x123]) (st := []) dX6_ofOther_134 (gd_of 333 rfl rfl) (gd_of 334 rfl rfl) okX6_moved (xX6_moved (by omega) eq124) (Nat.le_of_ble_eq_true rfl) rfl ?_
    show Y l g miX6_ofOther (d + 1) 137 [some (.inr (.inr (some a101))), some (.inr (.inr r104)), some (.inr (.inr r107)), some (.inr (.inr r110))] [.inr (.inr q124.1)] q124.2 _
    obtain rfl := Option.some.inj hf
    exact y_ret (v := some (.inr (.inr q124.1))) dX6_ofOther_137 rfl
  rw [if_neg hc] at hf
  refine y_swc (fun hc => ?_) (fun hc => ?_)
  · rw [if_pos hc] at hf
    refine y_aload_n (i := 1) dX6_ofOther_138 rfl rfl ?_
    refine y_aload_n (i := 2) dX6_ofOther_139 rfl rfl ?_
    replace hf := bnd hf
    obtain ⟨q125, eq125, hf⟩ := hf
    refine y_callS (mj := miX6_folded) (args := [.inr (.inr r104), .inr (.inr r107)]) (st := []) dX6_ofOther_140 (gd_of 343 rfl rfl) (gd_of 344 rfl rfl) okX6_folded (xX6_folded (by omega) eq125) (Nat.le_of_ble_eq_true rfl) rfl ?_
    show Y l g miX6_ofOther (d + 1) 143 [some (.inr (.inr (some a101))), some (.inr (.inr r104)), some (.inr (.inr r107)), some (.inr (.inr r110))] [.inr (.inr q125.1)] q125.2 _
    obtain rfl := Option.some.inj hf
    exact y_ret (v := some (.inr (.inr q125.1))) dX6_ofOther_143 rfl
  rw [if_neg hc] at hf
  refine y_swc (fun hc => ?_) (fun hc => ?_)
  · rw [if_pos hc] at hf
    refine y_aload_n (i := 2) dX6_ofOther_144 rfl rfl ?_
    replace hf := bnd hf
    obtain ⟨a127, rfl, hf⟩ := hf
    replace hf := bnd hf
    obtain ⟨fs128, efs128, hf⟩ := hf
    replace hf := bnd hf
    obtain ⟨q126, eq126, hf⟩ := hf
    refine y_callV (mj := miX8_count) (args := []) (st := []) dX6_ofOther_145 (gd_of 313 rfl rfl) (gd_of 314 rfl rfl) (gd_of 315 rfl rfl) okX8_count (obO_spec efs128) rfl rfl (xX8_count (by omega) eq126) (Nat.le_of_ble_eq_true rfl) rfl ?_
    show Y l g miX6_ofOther (d + 1) 148 [some (.inr (.inr (some a101))), some (.inr (.inr r104)), some (.inr (.inr (some a127))), some (.inr (.inr r110))] [.inl q126.1] q126.2 _
    refine y_iconst (v := 1) dX6_ofOther_148 (by decide) ?_
    refine y_icmp_ne (tgt := 183) dX6_ofOther_149 (by decide) (fun hc => ?_) (fun hc => ?_)
    · rw [if_neg hc] at hf
      refine y_null dX6_ofOther_183 ?_
      obtain rfl := Option.some.inj hf
      exact y_ret (v := some (.inr (.inr none))) dX6_ofOther_184 rfl
    · rw [if_pos hc] at hf
      refine y_aload_n (i := 2) dX6_ofOther_152 rfl rfl ?_
      replace hf := bnd hf
      obtain ⟨x129, ex129, hf⟩ := hf
      refine y_getI ex129 fl6_72 dX6_ofOther_153 ?_
      refine y_aload_n (i := 1) dX6_ofOther_156 rfl rfl ?_
      refine y_aload_n (i := 0) dX6_ofOther_157 rfl rfl ?_
      replace hf := bnd hf
      obtain ⟨x130, ex130, hf⟩ := hf
      refine y_getI ex130 fl6_40 dX6_ofOther_158 ?_
      replace hf := bnd hf
      obtain ⟨a132, rfl, hf⟩ := hf
      replace hf := bnd hf
      obtain ⟨fs133, efs133, hf⟩ := hf
      replace hf := bnd hf
      obtain ⟨q131, eq131, hf⟩ := hf
      refine y_callV (mj := miX8_at) (args := [.inl x130]) (st := [.inl x129]) dX6_ofOther_161 (gd_of 339 rfl rfl) (gd_of 340 rfl rfl) (gd_of 341 rfl rfl) okX8_at (obO_spec efs133) rfl rfl (xX8_at (by omega) eq131) (Nat.le_of_ble_eq_true rfl) rfl ?_
      show Y l g miX6_ofOther (d + 1) 164 [some (.inr (.inr (some a101))), some (.inr (.inr (some a132))), some (.inr (.inr (some a127))), some (.inr (.inr r110))] [.inl q131.1, .inl x129] q131.2 _
      refine y_icmp_ne (tgt := 183) dX6_ofOther_164 (by decide) (fun hc => ?_) (fun hc => ?_)
      · rw [if_neg hc] at hf
        refine y_null dX6_ofOther_183 ?_
        obtain rfl := Option.some.inj hf
        exact y_ret (v := some (.inr (.inr none))) dX6_ofOther_184 rfl
      · rw [if_pos hc] at hf
        refine y_aload_n (i := 1) dX6_ofOther_167 rfl rfl ?_
        refine y_aload_n (i := 0) dX6_ofOther_168 rfl rfl ?_
        replace hf := bnd hf
        obtain ⟨x134, ex134, hf⟩ := hf
        refine y_getI ex134 fl6_40 dX6_ofOther_169 ?_
        refine y_iconst (v := 1) dX6_ofOther_172 (by decide) ?_
        refine y_aload_n (i := 2) dX6_ofOther_173 rfl rfl ?_
        replace hf := bnd hf
        obtain ⟨r135, er135, hf⟩ := hf
        refine y_getR er135 fl6_79 dX6_ofOther_174 ?_
        replace hf := bnd hf
        obtain ⟨fs137, efs137, hf⟩ := hf
        replace hf := bnd hf
        obtain ⟨q136, eq136, hf⟩ := hf
        refine y_callV (mj := miX8_spliced) (args := [.inl x134, .inl 1, .inr (.inr r135)]) (st := []) dX6_ofOther_177 (gd_of 323 rfl rfl) (gd_of 324 rfl rfl) (gd_of 325 rfl rfl) okX8_spliced (obO_spec efs137) rfl rfl (xX8_spliced (by omega) eq136) (Nat.le_of_ble_eq_true rfl) rfl ?_
        show Y l g miX6_ofOther (d + 1) 180 [some (.inr (.inr (some a101))), some (.inr (.inr (some a132))), some (.inr (.inr (some a127))), some (.inr (.inr r110))] [.inr (.inr q136.1)] q136.2 _
        refine y_goto (tgt := 184) dX6_ofOther_180 (by decide) ?_
        obtain rfl := Option.some.inj hf
        exact y_ret (v := some (.inr (.inr q136.1))) dX6_ofOther_184 rfl
  rw [if_neg hc] at hf
  refine y_swc (fun hc => ?_) (fun hc => ?_)
  · rw [if_pos hc] at hf
    refine y_aload_n (i := 1) dX6_ofOther_185 rfl rfl ?_
    refine y_aload_n (i := 2) dX6_ofOther_186 rfl rfl ?_
    replace hf := bnd hf
    obtain ⟨q138, eq138, hf⟩ := hf
    refine y_callS (mj := miX6_then) (args := [.inr (.inr r104), .inr (.inr r107)]) (st := []) dX6_ofOther_187 (gd_of 351 rfl rfl) (gd_of 352 rfl rfl) okX6_then (xX6_then (by omega) eq138) (Nat.le_of_ble_eq_true rfl) rfl ?_
    show Y l g miX6_ofOther (d + 1) 190 [some (.inr (.inr (some a101))), some (.inr (.inr r104)), some (.inr (.inr r107)), some (.inr (.inr r110))] [.inr (.inr q138.1)] q138.2 _
    obtain rfl := Option.some.inj hf
    exact y_ret (v := some (.inr (.inr q138.1))) dX6_ofOther_190 rfl
  rw [if_neg hc] at hf
  refine y_swc (fun hc => ?_) (fun hc => ?_)
  · rw [if_pos hc] at hf
    refine y_aload_n (i := 1) dX6_ofOther_191 rfl rfl ?_
    replace hf := bnd hf
    obtain ⟨a139, rfl, hf⟩ := hf
    replace hf := bnd hf
    obtain ⟨x140, ex140, hf⟩ := hf
    refine y_getI ex140 fl6_72 dX6_ofOther_192 ?_
    refine y_if_ne (tgt := 219) dX6_ofOther_195 (by decide) (fun hc => ?_) (fun hc => ?_)
    · rw [if_neg hc] at hf
      refine y_null dX6_ofOther_219 ?_
      obtain rfl := Option.some.inj hf
      exact y_ret (v := some (.inr (.inr none))) dX6_ofOther_220 rfl
    · rw [if_pos hc] at hf
      refine y_aload_n (i := 2) dX6_ofOther_198 rfl rfl ?_
      refine y_aload_n (i := 3) dX6_ofOther_199 rfl rfl ?_
      replace hf := bnd hf
      obtain ⟨a142, rfl, hf⟩ := hf
      replace hf := bnd hf
      obtain ⟨fs143, efs143, hf⟩ := hf
      replace hf := bnd hf
      obtain ⟨q141, eq141, hf⟩ := hf
      refine y_callV (mj := miX8_alike) (args := [.inr (.inr r110)]) (st := []) dX6_ofOther_200 (gd_of 354 rfl rfl) (gd_of 355 rfl rfl) (gd_of 356 rfl rfl) okX8_alike (obO_spec efs143) rfl rfl (xX8_alike (by omega) eq141) (Nat.le_of_ble_eq_true rfl) rfl ?_
      show Y l g miX6_ofOther (d + 1) 203 [some (.inr (.inr (some a101))), some (.inr (.inr (some a139))), some (.inr (.inr (some a142))), some (.inr (.inr r110))] [.inl q141.1] q141.2 _
      refine y_if_eq (tgt := 219) dX6_ofOther_203 (by decide) (fun hc => ?_) (fun hc => ?_)
      · rw [if_pos hc] at hf
        refine y_null dX6_ofOther_219 ?_
        obtain rfl := Option.some.inj hf
        exact y_ret (v := some (.inr (.inr none))) dX6_ofOther_220 rfl
      · rw [if_neg hc] at hf
        refine y_aload_n (i := 2) dX6_ofOther_206 rfl rfl ?_
        refine y_iconst (v := 0) dX6_ofOther_207 (by decide) ?_
        refine y_aload_n (i := 1) dX6_ofOther_208 rfl rfl ?_
        replace hf := bnd hf
        obtain ⟨fs145, efs145, hf⟩ := hf
        replace hf := bnd hf
        obtain ⟨q144, eq144, hf⟩ := hf
        refine y_callV (mj := miX8_hasFrom) (args := [.inl 0, .inr (.inr (some a139))]) (st := []) dX6_ofOther_209 (gd_of 346 rfl rfl) (gd_of 347 rfl rfl) (gd_of 348 rfl rfl) okX8_hasFrom (obO_spec efs145) rfl rfl (xX8_hasFrom (by omega) eq144) (Nat.le_of_ble_eq_true rfl) rfl ?_
        show Y l g miX6_ofOther (d + 1) 212 [some (.inr (.inr (some a101))), some (.inr (.inr (some a139))), some (.inr (.inr (some a142))), some (.inr (.inr r110))] [.inl q144.1] q144.2 _
        refine y_if_eq (tgt := 219) dX6_ofOther_212 (by decide) (fun hc => ?_) (fun hc => ?_)
        · rw [if_pos hc] at hf
          refine y_null dX6_ofOther_219 ?_
          obtain rfl := Option.some.inj hf
          exact y_ret (v := some (.inr (.inr none))) dX6_ofOther_220 rfl
        · rw [if_neg hc] at hf
          refine y_aload_n (i := 2) dX6_ofOther_215 rfl rfl ?_
          refine y_goto (tgt := 220) dX6_ofOther_216 (by decide) ?_
          obtain rfl := Option.some.inj hf
          exact y_ret (v := some (.inr (.inr (some a142)))) dX6_ofOther_220 rfl
  rw [if_neg hc] at hf
  refine y_swc (fun hc => ?_) (fun hc => ?_)
  · rw [if_pos hc] at hf
    refine y_aload_n (i := 2) dX6_ofOther_221 rfl rfl ?_
    replace hf := bnd hf
    obtain ⟨a146, rfl, hf⟩ := hf
    replace hf := bnd hf
    obtain ⟨x147, ex147, hf⟩ := hf
    refine y_getI ex147 fl6_72 dX6_ofOther_222 ?_
    refine y_aload_n (i := 1) dX6_ofOther_225 rfl rfl ?_
    replace hf := bnd hf
    obtain ⟨a148, rfl, hf⟩ := hf
    replace hf := bnd hf
    obtain ⟨x149, ex149, hf⟩ := hf
    refine y_getI ex149 fl6_72 dX6_ofOther_226 ?_
    refine y_icmp_ne (tgt := 244) dX6_ofOther_229 (by decide) (fun hc => ?_) (fun hc => ?_)
    · rw [if_neg hc] at hf
      refine y_null dX6_ofOther_244 ?_
      obtain rfl := Option.some.inj hf
      exact y_ret (v := some (.inr (.inr none))) dX6_ofOther_245 rfl
    · rw [if_pos hc] at hf
      refine y_aload_n (i := 2) dX6_ofOther_232 rfl rfl ?_
      refine y_aload_n (i := 1) dX6_ofOther_233 rfl rfl ?_
      replace hf := bnd hf
      obtain ⟨q150, eq150, hf⟩ := hf
      refine y_callS (mj := miX6_takesNumberAnd) (args := [.inr (.inr (some a146)), .inr (.inr (some a148))]) (st := []) dX6_ofOther_234 (gd_of 359 rfl rfl) (gd_of 360 rfl rfl) okX6_takesNumberAnd (xX6_takesNumberAnd (by omega) eq150) (Nat.le_of_ble_eq_true rfl) rfl ?_
      show Y l g miX6_ofOther (d + 1) 237 [some (.inr (.inr (some a101))), some (.inr (.inr (some a148))), some (.inr (.inr (some a146))), some (.inr (.inr r110))] [.inl q150.1] q150.2 _
      refine y_if_eq (tgt := 244) dX6_ofOther_237 (by decide) (fun hc => ?_) (fun hc => ?_)
      · rw [if_pos hc] at hf
        refine y_null dX6_ofOther_244 ?_
        obtain rfl := Option.some.inj hf
        exact y_ret (v := some (.inr (.inr none))) dX6_ofOther_245 rfl
      · rw [if_neg hc] at hf
        refine y_aload_n (i := 1) dX6_ofOther_240 rfl rfl ?_
        refine y_goto (tgt := 245) dX6_ofOther_241 (by decide) ?_
        obtain rfl := Option.some.inj hf
        exact y_ret (v := some (.inr (.inr (some a148)))) dX6_ofOther_245 rfl
  rw [if_neg hc] at hf
  refine y_swc (fun hc => ?_) (fun hc => ?_)
  · rw [if_pos hc] at hf
    refine y_aload_n (i := 2) dX6_ofOther_246 rfl rfl ?_
    replace hf := bnd hf
    obtain ⟨a151, rfl, hf⟩ := hf
    replace hf := bnd hf
    obtain ⟨x152, ex152, hf⟩ := hf
    refine y_getI ex152 fl6_72 dX6_ofOther_247 ?_
    refine y_iconst (v := 4) dX6_ofOther_250 (by decide) ?_
    refine y_icmp_ne (tgt := 266) dX6_ofOther_251 (by decide) (fun hc => ?_) (fun hc => ?_)
    · rw [if_neg hc] at hf
      refine y_null dX6_ofOther_266 ?_
      obtain rfl := Option.some.inj hf
      exact y_ret (v := some (.inr (.inr none))) dX6_ofOther_267 rfl
    · rw [if_pos hc] at hf
      refine y_aload_n (i := 2) dX6_ofOther_254 rfl rfl ?_
      refine y_aload_n (i := 1) dX6_ofOther_255 rfl rfl ?_
      replace hf := bnd hf
      obtain ⟨q153, eq153, hf⟩ := hf
      refine y_callS (mj := miX6_takesNumberAnd) (args := [.inr (.inr (some a151)), .inr (.inr r104)]) (st := []) dX6_ofOther_256 (gd_of 359 rfl rfl) (gd_of 360 rfl rfl) okX6_takesNumberAnd (xX6_takesNumberAnd (by omega) eq153) (Nat.le_of_ble_eq_true rfl) rfl ?_
      show Y l g miX6_ofOther (d + 1) 259 [some (.inr (.inr (some a101))), some (.inr (.inr r104)), some (.inr (.inr (some a151))), some (.inr (.inr r110))] [.inl q153.1] q153.2 _
      refine y_if_eq (tgt := 266) dX6_ofOther_259 (by decide) (fun hc => ?_) (fun hc => ?_)
      · rw [if_pos hc] at hf
        refine y_null dX6_ofOther_266 ?_
        obtain rfl := Option.some.inj hf
        exact y_ret (v := some (.inr (.inr none))) dX6_ofOther_267 rfl
      · rw [if_neg hc] at hf
        refine y_aload_n (i := 1) dX6_ofOther_262 rfl rfl ?_
        refine y_goto (tgt := 267) dX6_ofOther_263 (by decide) ?_
        obtain rfl := Option.some.inj hf
        exact y_ret (v := some (.inr (.inr r104))) dX6_ofOther_267 rfl
  rw [if_neg hc] at hf
  refine y_swc (fun hc => ?_) (fun hc => ?_)
  · rw [if_pos hc] at hf
    refine y_aload_n (i := 1) dX6_ofOther_268 rfl rfl ?_
    refine y_aload_n (i := 2) dX6_ofOther_269 rfl rfl ?_
    refine y_aload_n (i := 3) dX6_ofOther_270 rfl rfl ?_
    replace hf := bnd hf
    obtain ⟨q154, eq154, hf⟩ := hf
    refine y_callS (mj := miX6_round) (args := [.inr (.inr r104), .inr (.inr r107), .inr (.inr r110)]) (st := []) dX6_ofOther_271 (gd_of 362 rfl rfl) (gd_of 363 rfl rfl) okX6_round (xX6_round (by omega) eq154) (Nat.le_of_ble_eq_true rfl) rfl ?_
    show Y l g miX6_ofOther (d + 1) 274 [some (.inr (.inr (some a101))), some (.inr (.inr r104)), some (.inr (.inr r107)), some (.inr (.inr r110))] [.inr (.inr q154.1)] q154.2 _
    obtain rfl := Option.some.inj hf
    exact y_ret (v := some (.inr (.inr q154.1))) dX6_ofOther_274 rfl
  rw [if_neg hc] at hf
  refine y_swc (fun hc => ?_) (fun hc => ?_)
  · rw [if_pos hc] at hf
    refine y_aload_n (i := 1) dX6_ofOther_275 rfl rfl ?_
    refine y_aload_n (i := 0) dX6_ofOther_276 rfl rfl ?_
    replace hf := bnd hf
    obtain ⟨x155, ex155, hf⟩ := hf
    refine y_getI ex155 fl6_40 dX6_ofOther_277 ?_
    replace hf := bnd hf
    obtain ⟨q156, eq156, hf⟩ := hf
    refine y_callS (mj := miX6_spread) (args := [.inr (.inr r104), .inl x155]) (st := []) dX6_ofOther_280 (gd_of 365 rfl rfl) (gd_of 366 rfl rfl) okX6_spread (xX6_spread (by omega) eq156) (Nat.le_of_ble_eq_true rfl) rfl ?_
    show Y l g miX6_ofOther (d + 1) 283 [some (.inr (.inr (some a101))), some (.inr (.inr r104)), some (.inr (.inr r107)), some (.inr (.inr r110))] [.inr (.inr q156.1)] q156.2 _
    obtain rfl := Option.some.inj hf
    exact y_ret (v := some (.inr (.inr q156.1))) dX6_ofOther_283 rfl
  rw [if_neg hc] at hf
  refine y_swc (fun hc => ?_) (fun hc => ?_)
  · rw [if_pos hc] at hf
    refine y_aload_n (i := 1) dX6_ofOther_284 rfl rfl ?_
    refine y_aload_n (i := 0) dX6_ofOther_285 rfl rfl ?_
    replace hf := bnd hf
    obtain ⟨x157, ex157, hf⟩ := hf
    refine y_getI ex157 fl6_40 dX6_ofOther_286 ?_
    replace hf := bnd hf
    obtain ⟨q158, eq158, hf⟩ := hf
    refine y_callS (mj := miX6_gathered) (args := [.inr (.inr r104), .inl x157]) (st := []) dX6_ofOther_289 (gd_of 368 rfl rfl) (gd_of 369 rfl rfl) okX6_gathered (xX6_gathered (by omega) eq158) (Nat.le_of_ble_eq_true rfl) rfl ?_
    show Y l g miX6_ofOther (d + 1) 292 [some (.inr (.inr (some a101))), some (.inr (.inr r104)), some (.inr (.inr r107)), some (.inr (.inr r110))] [.inr (.inr q158.1)] q158.2 _
    obtain rfl := Option.some.inj hf
    exact y_ret (v := some (.inr (.inr q158.1))) dX6_ofOther_292 rfl
  rw [if_neg hc] at hf
  refine y_swc (fun hc => ?_) (fun hc => ?_)
  · rw [if_pos hc] at hf
    refine y_aload_n (i := 1) dX6_ofOther_293 rfl rfl ?_
    refine y_aload_n (i := 2) dX6_ofOther_294 rfl rfl ?_
    replace hf := bnd hf
    obtain ⟨q159, eq159, hf⟩ := hf
    refine y_callS (mj := miX6_canAdaptAll) (args := [.inr (.inr r104), .inr (.inr r107)]) (st := []) dX6_ofOther_295 (gd_of 371 rfl rfl) (gd_of 372 rfl rfl) okX6_canAdaptAll (xX6_canAdaptAll (by omega) eq159) (Nat.le_of_ble_eq_true rfl) rfl ?_
    show Y l g miX6_ofOther (d + 1) 298 [some (.inr (.inr (some a101))), some (.inr (.inr r104)), some (.inr (.inr r107)), some (.inr (.inr r110))] [.inl q159.1] q159.2 _
    refine y_if_eq (tgt := 305) dX6_ofOther_298 (by decide) (fun hc => ?_) (fun hc => ?_)
    · rw [if_pos hc] at hf
      refine y_null dX6_ofOther_305 ?_
      obtain rfl := Option.some.inj hf
      exact y_ret (v := some (.inr (.inr none))) dX6_ofOther_306 rfl
    · rw [if_neg hc] at hf
      refine y_aload_n (i := 2) dX6_ofOther_301 rfl rfl ?_
      refine y_goto (tgt := 306) dX6_ofOther_302 (by decide) ?_
      obtain rfl := Option.some.inj hf
      exact y_ret (v := some (.inr (.inr r107))) dX6_ofOther_306 rfl
  rw [if_neg hc] at hf
  refine y_swn ?_
  refine y_null dX6_ofOther_307 ?_
  obtain rfl := Option.some.inj hf
  exact y_ret (v := some (.inr (.inr none))) dX6_ofOther_308 rfl
