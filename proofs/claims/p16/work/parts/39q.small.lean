/-! THE REFERENCE: set and item that are refused, item, clear, value. My own rows. -/
theorem g_set0 {T S : mS} {nh ns : Nat} {vs : List aVl} {R : aRS} (M : MI T S nh ns vs R) {x y : Int32} (v : Int32) (h : inI x.toInt64 0 (nI R.2.1 - 1).toInt64 = 0 ∨ (inI x.toInt64 0 (nI R.2.1 - 1).toInt64 = 1 ∧ ∃ m, mrA (sI S 0 0) 14 x = some (nI m) ∧ inI y.toInt64 0 (nI m - 1).toInt64 = 0)) : gX11_set x y v S = some (-2, sI S 0 0) := by
  unfold gX11_set
  rw [g_isRow M.z.2.2.1.2.2.1, o_bs]
  rcases h with h | ⟨h, m, e1, e2⟩
  · rw [h, if_pos rfl]
  · rw [h, if_neg (show ¬ (1 : Int32) = 0 by decide), e1, o_bs, g_in, o_bs, e2, if_pos rfl]
theorem g_item0 {T S : mS} {nh ns : Nat} {vs : List aVl} {R : aRS} (M : MI T S nh ns vs R) {x y : Int32} (h : inI x.toInt64 0 (nI R.2.1 - 1).toInt64 = 0 ∨ (inI x.toInt64 0 (nI R.2.1 - 1).toInt64 = 1 ∧ ∃ m, mrA (sI S 0 0) 14 x = some (nI m) ∧ inI y.toInt64 0 (nI m - 1).toInt64 = 0)) : gX11_item x y S = some (-2, sI S 0 0) := by
  unfold gX11_item
  rw [g_isRow M.z.2.2.1.2.2.1, o_bs]
  rcases h with h | ⟨h, m, e1, e2⟩
  · rw [h, if_pos rfl]
  · rw [h, if_neg (show ¬ (1 : Int32) = 0 by decide), e1, o_bs, g_in, o_bs, e2, if_pos rfl]
theorem g_item1 {T S : mS} {nh ns : Nat} {vs : List aVl} {R : aRS} (M : MI T S nh ns vs R) {r k m : Nat} (hr : r < R.2.1) (hk : k < m) (hm : m ≤ 20) (em : R.2.2.1 r = nI m) : ∃ S2, gX11_item (nI r) (nI k) S = some (1, S2) ∧ MI T S2 nh ns vs R ∧ S2.1 23 = 0 ∧ S2.2.1 24 = (R.2.2.2.1 (20 * r + k)).toInt64 ∧ eqB (fun k => k == 0 || k == 23 || k == 24) S S2 := by
  have M0 := M.z
  have h60 := M.2.2.1.1.1
  unfold gX11_item
  rw [g_isRow M0.2.2.1.2.2.1, o_bs, in_1 hr h60, if_neg (show ¬ (1 : Int32) = 0 by decide), mrA_n _ 14 _ (by rw [ml_14]; omega) (by omega), o_bs, M0.2.2.1.2.2.2.2.1, em, g_in, o_bs, in_1 hk (by omega), if_neg (show ¬ (1 : Int32) = 0 by decide), nI_20, mrA_n _ 15 _ (by rw [ml_15]; omega) (by omega), o_bs]
  have e15 : (sI (sI S 0 0) 23 0).2.2.1 15 = R.2.2.2.1 := M0.2.2.1.2.2.2.2.2.1
  rw [e15]
  have q1 : eqB (fun k => k == 23 || k == 24) (sI S 0 0) (sJ (sI (sI S 0 0) 23 0) 24 (R.2.2.2.1 (20 * r + k)).toInt64) := (eqB.I rfl).tr (eqB.J rfl)
  refine ⟨_, rfl, M0.to q1 (fun k h1 h2 h3 h4 h5 => by simp; omega) (M0.2.2.1.2.eq q1 rfl rfl rfl rfl rfl) M.2.2.1.1 (Nat.le_refl _), by simp [sJ, sI, va_up], by simp [sJ, va_up], ((zEq S).mono fun k hk => by simp at hk; simp; omega).tr (q1.mono fun k hk => by simp at hk; simp; omega)⟩
theorem g_clear {T S : mS} {nh ns : Nat} {vs : List aVl} {R : aRS} (M : MI T S nh ns vs R) : ∃ S2, gX11_clear S = some (nI vs.length, S2) ∧ MI T S2 nh ns [] R ∧ eqB (fun k => k == 0 || k == 20) S S2 := by
  obtain ⟨⟨m1, m2⟩, ⟨m3, m4, m5, m6⟩, ⟨m7, m8⟩, ⟨m9, m10⟩, m11, m12, m13⟩ := id M
  have q1 : eqB (fun k => k == 0 || k == 20) S (sI (sI S 0 0) 20 0) := (eqB.I rfl).tr (eqB.I rfl)
  refine ⟨_, by unfold gX11_clear; rw [show (sI S 0 0).1 20 = nI vs.length by simpa [sI, va_up] using m9.2.1], ⟨⟨m1.eq q1 (fun k h1 h2 => by simp; omega), by rw [← (q1 1 rfl).1]; exact m2⟩, ⟨m3, m4, m5, m6⟩, ⟨m7, m8.eq q1 rfl rfl rfl rfl rfl⟩, ⟨⟨by simp, by simp [sI, va_up, nI_0], fun i v hi => by simp at hi⟩, fun v hv => by simp at hv⟩, m11, by rw [← (q1 16 rfl).1]; exact m12, m13⟩, q1⟩
/-- what value puts at place k -/
theorem g_value76 {T S : mS} {nh ns k : Nat} {vs : List aVl} {R : aRS} (M : MI T S nh ns vs R) (hk : k ≤ vs.length) (h5 : k < 6) (kd : Int32) (j : Int64) (hv : VK R.2.1 (kd, if kd = 3 then 0 else j)) : ∃ S2, gX11_value_76 (nI k) kd j S = some (nI (k + 1), S2) ∧ MI T S2 nh ns (vs.take k ++ [(kd, if kd = 3 then 0 else j)]) R ∧ eqB (fun k => k == 20 || k == 21 || k == 22) S S2 := by
  obtain ⟨⟨m1, m2⟩, ⟨m3, m4, m5, m6⟩, ⟨m7, m8⟩, ⟨m9, m10⟩, m11, m12, m13⟩ := id M
  have e98 : gX11_value_76 (nI k) kd j S = gX11_value_98 (nI k) (nI k) (if kd = 3 then 0 else j) (sA S 21 k kd) := by
    unfold gX11_value_76
    rw [mwA_n S 21 _ _ (by rw [ml_21]; omega) (by omega), o_bs]
    by_cases h3 : kd = 3
    · rw [if_pos h3, if_pos h3]
    · rw [if_neg h3, if_neg h3]
  rw [e98]
  unfold gX11_value_98
  rw [mwB_n _ 22 _ _ (by rw [ml_22]; omega) (by omega), o_bs, nI_1]
  generalize (if kd = 3 then 0 else j) = w at hv
  have q1 : eqB (fun k => k == 20 || k == 21 || k == 22) S (sI (sB (sA S 21 k kd) 22 k w) 20 (nI (k + 1))) := (eqB.A rfl).tr ((eqB.B rfl).tr (eqB.I rfl))
  have hl : (vs.take k ++ [(kd, w)]).length = k + 1 := by simp; omega
  refine ⟨_, by rw [show (sI (sB (sA S 21 k kd) 22 k w) 20 (nI (k + 1))).1 20 = nI (k + 1) by simp [sI, va_up]], ⟨⟨m1.eq q1 (fun k h1 h2 => by simp; omega), by rw [← (q1 1 rfl).1]; exact m2⟩, ⟨m3, m4, m5, m6⟩, ⟨m7, m8.eq q1 rfl rfl rfl rfl rfl⟩, ⟨⟨by rw [hl]; omega, by rw [hl]; simp [sI, va_up], fun i v hi => ?_⟩, fun v hv2 => ?_⟩, m11, by rw [← (q1 16 rfl).1]; exact m12, ?_⟩, q1⟩
  · have hil := (List.getElem?_eq_some_iff.mp hi).1
    rw [hl] at hil
    by_cases hik : i = k
    · subst hik
      rw [List.getElem?_append_right (by simp; omega)] at hi
      have e0 : i - (vs.take i).length = 0 := by simp; omega
      rw [e0] at hi
      cases hi
      exact ⟨by simp [sI, sA, sB, va_up], by simp [sI, sA, sB, va_up]⟩
    · have hlt : i < k := by omega
      rw [List.getElem?_append_left (by simp; omega), List.getElem?_take, if_pos hlt] at hi
      obtain ⟨a, b⟩ := m9.2.2 i v hi
      exact ⟨by simp [sI, sA, sB, va_up, hik, a], by simp [sI, sA, sB, va_up, hik, b]⟩
  · rcases List.mem_append.mp hv2 with a | a
    · exact m10 v (List.mem_of_mem_take a)
    · rw [List.mem_singleton.mp a]; exact hv
  · intro s hs
    rw [← (q1 17 rfl).2.2.1, ← (q1 18 rfl).2.2.1, ← (q1 19 rfl).2.2.1]
    exact m13 s hs
