/-! THE CLASS'S FIXED OBJECTS: reading and writing. My own rows. -/
theorem q_hc (ac : Nat) (C : cS) (r : aH) : rdI (co ac C r) ac [8] 1 = some (C.1 0) := by
  rw [rdI, rdF, co_z ac C r]
  rfl
theorem q_sc (ac : Nat) (C : cS) (r : aH) : rdI (co ac C r) ac [8] 3 = some (C.1 1) := by
  rw [rdI, rdF, co_z ac C r]
  rfl
theorem q_lk (ac : Nat) (C : cS) (r : aH) : rdI (co ac C r) ac [8] 7 = some (C.1 2) := by
  rw [rdI, rdF, co_z ac C r]
  rfl
theorem q_lf (ac : Nat) (C : cS) (r : aH) : rdI (co ac C r) ac [8] 9 = some (C.1 3) := by
  rw [rdI, rdF, co_z ac C r]
  rfl
theorem q_ln (ac : Nat) (C : cS) (r : aH) : rdJ (co ac C r) ac [8] 8 = some (C.2.1 0) := by
  rw [rdJ, rdF, co_z ac C r]
  rfl
theorem q_hs (ac : Nat) (C : cS) (r : aH) : rdR (co ac C r) ac [8] 0 = some (some (ac + 1)) := by
  rw [rdR, rdF, co_z ac C r]
  rfl
theorem q_ss (ac : Nat) (C : cS) (r : aH) : rdR (co ac C r) ac [8] 2 = some (some (ac + 2)) := by
  rw [rdR, rdF, co_z ac C r]
  rfl
theorem q_ro (ac : Nat) (C : cS) (r : aH) : rdR (co ac C r) ac [8] 4 = some (some (ac + 3)) := by
  rw [rdR, rdF, co_z ac C r]
  rfl
theorem q_gv (ac : Nat) (C : cS) (r : aH) : rdR (co ac C r) ac [8] 5 = some (some (ac + vO 0)) := by
  rw [rdR, rdF, co_z ac C r]
  rfl
theorem q_rn (ac : Nat) (C : cS) (r : aH) : rdR (co ac C r) ac [8] 6 = some (some (ac + 9)) := by
  rw [rdR, rdF, co_z ac C r]
  rfl
theorem q_it (ac : Nat) (C : cS) (r : aH) : rdR (co ac C r) (ac + 3) [3] 0 = some (some (ac + 4)) := by
  rw [rdR, rdF, co_at ac C r (o := 3) (by decide)]
  rfl
theorem q_le (ac : Nat) (C : cS) (r : aH) : rdR (co ac C r) (ac + 3) [3] 1 = some (some (ac + 5)) := by
  rw [rdR, rdF, co_at ac C r (o := 3) (by decide)]
  rfl
theorem q_rc (ac : Nat) (C : cS) (r : aH) : rdI (co ac C r) (ac + 3) [3] 2 = some (C.1 4) := by
  rw [rdI, rdF, co_at ac C r (o := 3) (by decide)]
  rfl
theorem q_rr (ac : Nat) (C : cS) (r : aH) : rdR (co ac C r) (ac + 9) [4] 0 = some (some (ac + 3)) := by
  rw [rdR, rdF, co_at ac C r (o := 9) (by decide)]
  rfl
theorem q_fr (ac : Nat) (C : cS) (r : aH) : rdR (co ac C r) (ac + 9) [4] 1 = some (some (ac + 10)) := by
  rw [rdR, rdF, co_at ac C r (o := 9) (by decide)]
  rfl
theorem q_st (ac : Nat) (C : cS) (r : aH) : rdI (co ac C r) (ac + 9) [4] 2 = some (C.1 5) := by
  rw [rdI, rdF, co_at ac C r (o := 9) (by decide)]
  rfl
theorem q_co (ac : Nat) (C : cS) (r : aH) : rdI (co ac C r) (ac + 9) [4] 3 = some (C.1 6) := by
  rw [rdI, rdF, co_at ac C r (o := 9) (by decide)]
  rfl
theorem q_gk (ac : Nat) (C : cS) (r : aH) : rdI (co ac C r) (ac + 9) [4] 4 = some (C.1 7) := by
  rw [rdI, rdF, co_at ac C r (o := 9) (by decide)]
  rfl
theorem q_gn (ac : Nat) (C : cS) (r : aH) : rdJ (co ac C r) (ac + 9) [4] 5 = some (C.2.1 1) := by
  rw [rdJ, rdF, co_at ac C r (o := 9) (by decide)]
  rfl
theorem q_o8 (ac : Nat) (C : cS) (r : aH) : ∃ fs, obO (co ac C r) ac 8 = some fs := by
  rw [obO, co_z ac C r]
  exact ⟨_, rfl⟩
theorem q_o3 (ac : Nat) (C : cS) (r : aH) : ∃ fs, obO (co ac C r) (ac + 3) 3 = some fs := by
  rw [obO, co_at ac C r (o := 3) (by decide)]
  exact ⟨_, rfl⟩
theorem q_o4 (ac : Nat) (C : cS) (r : aH) : ∃ fs, obO (co ac C r) (ac + 9) 4 = some fs := by
  rw [obO, co_at ac C r (o := 9) (by decide)]
  exact ⟨_, rfl⟩
theorem q_vk (ac : Nat) (C : cS) (r : aH) {j : Nat} (hj : j < 63) : rdR (co ac C r) (ac + vO j) [7] 0 = some (some (ac + (vO j + 1))) := by
  rw [rdR, rdF, co_at ac C r (Nat.lt_of_le_of_lt (Nat.le_add_right _ 2) (v_lt hj)), cC_v0]
  rfl
theorem q_vn (ac : Nat) (C : cS) (r : aH) {j : Nat} (hj : j < 63) : rdR (co ac C r) (ac + vO j) [7] 1 = some (some (ac + (vO j + 2))) := by
  rw [rdR, rdF, co_at ac C r (Nat.lt_of_le_of_lt (Nat.le_add_right _ 2) (v_lt hj)), cC_v0]
  rfl
theorem q_vs (ac : Nat) (C : cS) (r : aH) {j : Nat} (hj : j < 63) : rdI (co ac C r) (ac + vO j) [7] 2 = some (C.1 (8 + j)) := by
  rw [rdI, rdF, co_at ac C r (Nat.lt_of_le_of_lt (Nat.le_add_right _ 2) (v_lt hj)), cC_v0]
  rfl
theorem q_o7 (ac : Nat) (C : cS) (r : aH) {j : Nat} (hj : j < 63) : ∃ fs, obO (co ac C r) (ac + vO j) 7 = some fs := by
  rw [obO, co_at ac C r (Nat.lt_of_le_of_lt (Nat.le_add_right _ 2) (v_lt hj)), cC_v0]
  exact ⟨_, rfl⟩
theorem w_hc (ac : Nat) (C : cS) (r : aH) (v : Int32) : wrF (co ac C r) ac [8] 1 (.inl v) = some (co ac (cI C 0 v) r) := by
  rw [wrF, co_z ac C r]
  exact congrArg some (co_hup (o := 0) (by decide) (by simp [cC, cI, va_up]) (n_I ac C 0 v))
theorem w_sc (ac : Nat) (C : cS) (r : aH) (v : Int32) : wrF (co ac C r) ac [8] 3 (.inl v) = some (co ac (cI C 1 v) r) := by
  rw [wrF, co_z ac C r]
  exact congrArg some (co_hup (o := 0) (by decide) (by simp [cC, cI, va_up]) (n_I ac C 1 v))
theorem w_lk (ac : Nat) (C : cS) (r : aH) (v : Int32) : wrF (co ac C r) ac [8] 7 (.inl v) = some (co ac (cI C 2 v) r) := by
  rw [wrF, co_z ac C r]
  exact congrArg some (co_hup (o := 0) (by decide) (by simp [cC, cI, va_up]) (n_I ac C 2 v))
theorem w_lf (ac : Nat) (C : cS) (r : aH) (v : Int32) : wrF (co ac C r) ac [8] 9 (.inl v) = some (co ac (cI C 3 v) r) := by
  rw [wrF, co_z ac C r]
  exact congrArg some (co_hup (o := 0) (by decide) (by simp [cC, cI, va_up]) (n_I ac C 3 v))
theorem w_ln (ac : Nat) (C : cS) (r : aH) (v : Int64) : wrF (co ac C r) ac [8] 8 (.inr (.inl v)) = some (co ac (cJ C 0 v) r) := by
  rw [wrF, co_z ac C r]
  exact congrArg some (co_hup (o := 0) (by decide) (by simp [cC, cJ, va_up]) (n_J ac C 0 (by decide) v))
theorem w_rc (ac : Nat) (C : cS) (r : aH) (v : Int32) : wrF (co ac C r) (ac + 3) [3] 2 (.inl v) = some (co ac (cI C 4 v) r) := by
  rw [wrF, co_at ac C r (o := 3) (by decide)]
  exact congrArg some (co_hup (o := 3) (by decide) (by simp [cC, cI, va_up]) (n_I ac C 4 v))
theorem w_st (ac : Nat) (C : cS) (r : aH) (v : Int32) : wrF (co ac C r) (ac + 9) [4] 2 (.inl v) = some (co ac (cI C 5 v) r) := by
  rw [wrF, co_at ac C r (o := 9) (by decide)]
  exact congrArg some (co_hup (o := 9) (by decide) (by simp [cC, cI, va_up]) (n_I ac C 5 v))
theorem w_co (ac : Nat) (C : cS) (r : aH) (v : Int32) : wrF (co ac C r) (ac + 9) [4] 3 (.inl v) = some (co ac (cI C 6 v) r) := by
  rw [wrF, co_at ac C r (o := 9) (by decide)]
  exact congrArg some (co_hup (o := 9) (by decide) (by simp [cC, cI, va_up]) (n_I ac C 6 v))
theorem w_gk (ac : Nat) (C : cS) (r : aH) (v : Int32) : wrF (co ac C r) (ac + 9) [4] 4 (.inl v) = some (co ac (cI C 7 v) r) := by
  rw [wrF, co_at ac C r (o := 9) (by decide)]
  exact congrArg some (co_hup (o := 9) (by decide) (by simp [cC, cI, va_up]) (n_I ac C 7 v))
theorem w_gn (ac : Nat) (C : cS) (r : aH) (v : Int64) : wrF (co ac C r) (ac + 9) [4] 5 (.inr (.inl v)) = some (co ac (cJ C 1 v) r) := by
  rw [wrF, co_at ac C r (o := 9) (by decide)]
  exact congrArg some (co_hup (o := 9) (by decide) (by simp [cC, cJ, va_up]) (n_J ac C 1 (by decide) v))
theorem w_vs (ac : Nat) (C : cS) (r : aH) {j : Nat} (hj : j < 63) (v : Int32) : wrF (co ac C r) (ac + vO j) [7] 2 (.inl v) = some (co ac (cI C (8 + j) v) r) := by
  rw [wrF, co_at ac C r (Nat.lt_of_le_of_lt (Nat.le_add_right _ 2) (v_lt hj)), cC_v0]
  refine congrArg some (co_hup (o := vO j) (Nat.lt_of_le_of_lt (Nat.le_add_right _ 2) (v_lt hj)) ?_ ?_)
  · rw [cC_v0]; simp [cI, va_up]
  · have h := n_I ac C (8 + j) v
    unfold wI at h
    rw [if_neg (by omega), if_neg (by omega), if_neg (by omega), Nat.add_sub_cancel_left] at h
    exact h
theorem r_it (ac : Nat) (C : cS) (r : aH) {i : Nat} (hi : i < 1200) : arI (co ac C r) (ac + 4) (nI i) = some (C.2.2.1 0 i) := by
  rw [arI, co_at ac C r (o := 4) (by decide)]
  show (if _ then _ else _) = _
  rw [nI_clamp (by omega), if_pos ⟨nI_pos (by omega), hi⟩]
theorem w_it (ac : Nat) (C : cS) (r : aH) {i : Nat} (hi : i < 1200) (v : Int32) : awI (co ac C r) (ac + 4) (nI i) v = some (co ac (cA C 0 i v) r) := by
  rw [awI, co_at ac C r (o := 4) (by decide)]
  show (if _ then _ else _) = _
  rw [nI_clamp (by omega), if_pos ⟨by decide, nI_pos (by omega), hi⟩]
  exact congrArg some (co_hup (o := 4) (by decide) (by simp [cC, cA, va_up]) (n_A ac C 0 i v))
theorem r_le (ac : Nat) (C : cS) (r : aH) {i : Nat} (hi : i < 60) : arI (co ac C r) (ac + 5) (nI i) = some (C.2.2.1 1 i) := by
  rw [arI, co_at ac C r (o := 5) (by decide)]
  show (if _ then _ else _) = _
  rw [nI_clamp (by omega), if_pos ⟨nI_pos (by omega), hi⟩]
theorem w_le (ac : Nat) (C : cS) (r : aH) {i : Nat} (hi : i < 60) (v : Int32) : awI (co ac C r) (ac + 5) (nI i) v = some (co ac (cA C 1 i v) r) := by
  rw [awI, co_at ac C r (o := 5) (by decide)]
  show (if _ then _ else _) = _
  rw [nI_clamp (by omega), if_pos ⟨by decide, nI_pos (by omega), hi⟩]
  exact congrArg some (co_hup (o := 5) (by decide) (by simp [cC, cA, va_up]) (n_A ac C 1 i v))
theorem r_vk (ac : Nat) (C : cS) (r : aH) {j i : Nat} (hj : j < 63) (hi : i < 6) : arI (co ac C r) (ac + (vO j + 1)) (nI i) = some (C.2.2.1 (2 + j) i) := by
  rw [arI, co_at ac C r (by have := v_lt hj; omega), cC_v1]
  show (if _ then _ else _) = _
  rw [nI_clamp (by omega), if_pos ⟨nI_pos (by omega), hi⟩]
theorem r_vn (ac : Nat) (C : cS) (r : aH) {j i : Nat} (hj : j < 63) (hi : i < 6) : arJ (co ac C r) (ac + (vO j + 2)) (nI i) = some (C.2.2.2.1 j i) := by
  rw [arJ, co_at ac C r (by have := v_lt hj; omega), cC_v2]
  show (if _ then _ else _) = _
  rw [nI_clamp (by omega), if_pos ⟨nI_pos (by omega), hi⟩]
theorem w_vk (ac : Nat) (C : cS) (r : aH) {j i : Nat} (hj : j < 63) (hi : i < 6) (v : Int32) : awI (co ac C r) (ac + (vO j + 1)) (nI i) v = some (co ac (cA C (2 + j) i v) r) := by
  rw [awI, co_at ac C r (by have := v_lt hj; omega), cC_v1]
  show (if _ then _ else _) = _
  rw [nI_clamp (by omega), if_pos ⟨by decide, nI_pos (by omega), hi⟩]
  refine congrArg some (co_hup (o := vO j + 1) (by have := v_lt hj; omega) ?_ ?_)
  · rw [cC_v1]; simp [cA, va_up]
  · have h := n_A ac C (2 + j) i v
    unfold wA at h
    rw [if_neg (by omega), if_neg (by omega), Nat.add_sub_cancel_left] at h
    exact h
theorem w_vn (ac : Nat) (C : cS) (r : aH) {j i : Nat} (hj : j < 63) (hi : i < 6) (v : Int64) : awJ (co ac C r) (ac + (vO j + 2)) (nI i) v = some (co ac (cB C j i v) r) := by
  rw [awJ, co_at ac C r (by have := v_lt hj; omega), cC_v2]
  show (if _ then _ else _) = _
  rw [nI_clamp (by omega), if_pos ⟨by decide, nI_pos (by omega), hi⟩]
  refine congrArg some (co_hup (o := vO j + 2) (by have := v_lt hj; omega) ?_ (n_B ac C j i v))
  rw [cC_v2]; simp [cB, va_up]
theorem r_hs (ac : Nat) (C : cS) (r : aH) {i : Nat} (hi : i < 60) : arR (co ac C r) (ac + 1) (nI i) = some (C.2.2.2.2 0 i) := by
  rw [arR, co_at ac C r (o := 1) (by decide)]
  show (if _ then _ else _) = _
  rw [nI_clamp (by omega), if_pos ⟨nI_pos (by omega), hi⟩]
theorem r_ss (ac : Nat) (C : cS) (r : aH) {i : Nat} (hi : i < 10) : arR (co ac C r) (ac + 2) (nI i) = some (C.2.2.2.2 1 i) := by
  rw [arR, co_at ac C r (o := 2) (by decide)]
  show (if _ then _ else _) = _
  rw [nI_clamp (by omega), if_pos ⟨nI_pos (by omega), hi⟩]
theorem r_fr (ac : Nat) (C : cS) (r : aH) {d : Nat} (hi : d < 62) : arR (co ac C r) (ac + 10) (nI d) = some (some (ac + vO (d + 1))) := by
  rw [arR, co_at ac C r (o := 10) (by decide)]
  show (if _ then some (frA ac _) else _) = _
  rw [nI_clamp (by omega), if_pos ⟨nI_pos (by omega), hi⟩, frA, if_pos hi]
theorem w_hs (ac : Nat) (C : cS) (r : aH) {i b c : Nat} {fs : List aV} (hi : i < 60) (hb : ¬ (ac ≤ b ∧ b < ac + 197)) (hc : r.2.2 b = some (.inr (c, fs))) (h01 : c ∈ [0, 1]) : awR (co ac C r) (ac + 1) (nI i) 0 [0, 1] b = some (co ac (cR C 0 i (some b)) r) := by
  rw [awR, co_at ac C r (o := 1) (by decide), co_out ac C r hb, hc]
  show (if _ then _ else _) = _
  rw [nI_clamp (by omega), if_pos ⟨rfl, by decide, h01, nI_pos (by omega), hi⟩]
  exact congrArg some (co_hup (o := 1) (by decide) (by simp [cC, cR, va_up]) (n_R ac C 0 i (by decide) (some b)))
theorem w_ss (ac : Nat) (C : cS) (r : aH) {i b : Nat} {fs : List aV} {cs : List Nat} (hi : i < 10) (hb : ¬ (ac ≤ b ∧ b < ac + 197)) (hc : r.2.2 b = some (.inr (5, fs))) (h01 : 5 ∈ cs) : awR (co ac C r) (ac + 2) (nI i) 1 cs b = some (co ac (cR C 1 i (some b)) r) := by
  rw [awR, co_at ac C r (o := 2) (by decide), co_out ac C r hb, hc]
  show (if _ then _ else _) = _
  rw [nI_clamp (by omega), if_pos ⟨rfl, by decide, h01, nI_pos (by omega), hi⟩]
  exact congrArg some (co_hup (o := 2) (by decide) (by simp [cC, cR, va_up]) (n_R ac C 1 i (by decide) (some b)))
