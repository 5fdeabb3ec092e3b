/-! THE CLASS'S FIXED OBJECTS. My own rows. -/
/-- ints: 0 handles, 1 sites, 2 latest kind, 3 latest failure, 4 rows, 5 steps, 6 counted, 7 kind got, 8 + j size of the values j; longs: 0 latest, 1 got; int arrays: 0 items, 1 lengths, 2 + j kinds; long arrays: j numbers; references: 0 handles, 1 sites. Values 0 are those at hand, values d + 1 those of depth d. -/
abbrev cS : Type := (Nat → Int32) × (Nat → Int64) × (Nat → Nat → Int32) × (Nat → Nat → Int64) × (Nat → Nat → Option Nat)
abbrev rfV (a : Nat) : aV := .inr (.inr (some a))
def vO (j : Nat) : Nat := if j = 0 then 6 else 8 + 3 * j
def oJ (o : Nat) : Nat := if o < 9 then 0 else (o - 8) / 3
def oM (o : Nat) : Nat := if o < 9 then o - 6 else (o - 8) % 3
def vCell (ac : Nat) (C : cS) (j m : Nat) : aE := if m = 0 then .inr (7, [rfV (ac + (vO j + 1)), rfV (ac + (vO j + 2)), .inl (C.1 (8 + j))]) else if m = 1 then .inl (0, 6, .inl (C.2.2.1 (2 + j))) else .inl (0, 6, .inr (.inl (C.2.2.2.1 j)))
def frA (ac : Nat) (d : Nat) : Option Nat := if d < 62 then some (ac + vO (d + 1)) else none
def cC (ac : Nat) (C : cS) (o : Nat) : aE :=
  if o = 0 then .inr (8, [rfV (ac + 1), .inl (C.1 0), rfV (ac + 2), .inl (C.1 1), rfV (ac + 3), rfV (ac + 6), rfV (ac + 9), .inl (C.1 2), .inr (.inl (C.2.1 0)), .inl (C.1 3)]) else
  if o = 1 then .inl (0, 60, .inr (.inr (C.2.2.2.2 0))) else
  if o = 2 then .inl (1, 10, .inr (.inr (C.2.2.2.2 1))) else
  if o = 3 then .inr (3, [rfV (ac + 4), rfV (ac + 5), .inl (C.1 4)]) else
  if o = 4 then .inl (0, 1200, .inl (C.2.2.1 0)) else
  if o = 5 then .inl (0, 60, .inl (C.2.2.1 1)) else
  if o = 9 then .inr (4, [rfV (ac + 3), rfV (ac + 10), .inl (C.1 5), .inl (C.1 6), .inl (C.1 7), .inr (.inl (C.2.1 1))]) else
  if o = 10 then .inl (2, 62, .inr (.inr (frA ac))) else vCell ac C (oJ o) (oM o)
def co (ac : Nat) (C : cS) (r : aH) : aH := (r.1, r.2.1, fun x => if ac ≤ x ∧ x < ac + 197 then some (cC ac C (x - ac)) else r.2.2 x)
theorem co_at (ac : Nat) (C : cS) (r : aH) {o : Nat} (h : o < 197) : (co ac C r).2.2 (ac + o) = some (cC ac C o) := by
  show (if ac ≤ ac + o ∧ ac + o < ac + 197 then some (cC ac C (ac + o - ac)) else r.2.2 (ac + o)) = _
  rw [if_pos (by omega), Nat.add_sub_cancel_left]
theorem co_z (ac : Nat) (C : cS) (r : aH) : (co ac C r).2.2 ac = some (cC ac C 0) := co_at ac C r (o := 0) (by decide)
theorem co_out (ac : Nat) (C : cS) (r : aH) {x : Nat} (h : ¬ (ac ≤ x ∧ x < ac + 197)) : (co ac C r).2.2 x = r.2.2 x := if_neg h
theorem co_hup {ac : Nat} {C C2 : cS} {r : aH} {o : Nat} {e : aE} (ho : o < 197) (he : e = cC ac C2 o) (hn : ∀ q, q ≠ o → cC ac C q = cC ac C2 q) : hup (co ac C r) (ac + o) e = co ac C2 r := by
  unfold hup co
  simp only
  congr 2
  funext x
  by_cases hx : x = ac + o
  · rw [if_pos hx, if_pos (by omega), he, hx, Nat.add_sub_cancel_left]
  · rw [if_neg hx]
    by_cases hc : ac ≤ x ∧ x < ac + 197
    · rw [if_pos hc, if_pos hc, hn _ (by omega)]
    · rw [if_neg hc, if_neg hc]
theorem co_hupo {ac : Nat} {C : cS} {r : aH} {x : Nat} {e : aE} (h : ¬ (ac ≤ x ∧ x < ac + 197)) : hup (co ac C r) x e = co ac C (hup r x e) := by
  unfold hup co
  simp only
  congr 2
  funext y
  by_cases hx : y = x
  · rw [if_pos hx, if_neg (by rw [hx]; exact h), if_pos hx]
  · rw [if_neg hx, if_neg hx]
theorem co_hnew {ac : Nat} {C : cS} {r : aH} {n : Nat} {e : aE} (h : ac + 197 ≤ r.1) : hnew (co ac C r) n e = co ac C (hnew r n e) := by
  unfold hnew co
  simp only
  congr 2
  funext y
  by_cases hx : y = r.1
  · rw [if_pos hx, if_neg (by omega), if_pos hx]
  · rw [if_neg hx, if_neg hx]
theorem coh1 (ac : Nat) (C : cS) (r : aH) : (co ac C r).1 = r.1 := rfl
theorem coh2 (ac : Nat) (C : cS) (r : aH) : (co ac C r).2.1 = r.2.1 := rfl
theorem v_lt {j : Nat} (h : j < 63) : vO j + 2 < 197 := by unfold vO; split <;> omega
theorem v_ne (j : Nat) : vO j ≠ 0 ∧ vO j ≠ 1 ∧ vO j ≠ 2 ∧ vO j ≠ 3 ∧ vO j ≠ 4 ∧ vO j ≠ 5 ∧ vO j ≠ 9 ∧ vO j ≠ 10 ∧ vO j + 1 ≠ 0 ∧ vO j + 1 ≠ 1 ∧ vO j + 1 ≠ 2 ∧ vO j + 1 ≠ 3 ∧ vO j + 1 ≠ 4 ∧ vO j + 1 ≠ 5 ∧ vO j + 1 ≠ 9 ∧ vO j + 1 ≠ 10 ∧ vO j + 2 ≠ 0 ∧ vO j + 2 ≠ 1 ∧ vO j + 2 ≠ 2 ∧ vO j + 2 ≠ 3 ∧ vO j + 2 ≠ 4 ∧ vO j + 2 ≠ 5 ∧ vO j + 2 ≠ 9 ∧ vO j + 2 ≠ 10 := by
  unfold vO; split <;> omega
theorem v_j (j m : Nat) (h : m < 3) : oJ (vO j + m) = j ∧ oM (vO j + m) = m := by
  unfold oJ oM vO
  by_cases hj : j = 0
  · subst hj; rw [if_pos rfl, if_pos (by omega), if_pos (by omega)]; omega
  · rw [if_neg hj, if_neg (by omega), if_neg (by omega)]; omega
/-- where the cells of values stand, and nowhere else -/
theorem v_in {o : Nat} (h : o ≠ 0 ∧ o ≠ 1 ∧ o ≠ 2 ∧ o ≠ 3 ∧ o ≠ 4 ∧ o ≠ 5 ∧ o ≠ 9 ∧ o ≠ 10) : o = vO (oJ o) + oM o ∧ oM o < 3 := by
  unfold oJ oM vO
  by_cases h9 : o < 9
  · rw [if_pos h9, if_pos h9, if_pos rfl]; omega
  · rw [if_neg h9, if_neg h9]
    rw [if_neg (by omega)]
    omega
theorem cC_v0 (ac : Nat) (C : cS) (j : Nat) : cC ac C (vO j) = .inr (7, [rfV (ac + (vO j + 1)), rfV (ac + (vO j + 2)), .inl (C.1 (8 + j))]) := by
  obtain ⟨a0, a1, a2, a3, a4, a5, a9, a10, -⟩ := v_ne j
  unfold cC
  obtain ⟨h1, h2⟩ := v_j j 0 (by decide)
  rw [Nat.add_zero] at h1 h2
  rw [if_neg a0, if_neg a1, if_neg a2, if_neg a3, if_neg a4, if_neg a5, if_neg a9, if_neg a10, h1, h2]
  rfl
theorem cC_v1 (ac : Nat) (C : cS) (j : Nat) : cC ac C (vO j + 1) = .inl (0, 6, .inl (C.2.2.1 (2 + j))) := by
  obtain ⟨-, -, -, -, -, -, -, -, a0, a1, a2, a3, a4, a5, a9, a10, -⟩ := v_ne j
  unfold cC
  obtain ⟨h1, h2⟩ := v_j j 1 (by decide)
  rw [if_neg a0, if_neg a1, if_neg a2, if_neg a3, if_neg a4, if_neg a5, if_neg a9, if_neg a10, h1, h2]
  rfl
theorem cC_v2 (ac : Nat) (C : cS) (j : Nat) : cC ac C (vO j + 2) = .inl (0, 6, .inr (.inl (C.2.2.2.1 j))) := by
  obtain ⟨-, -, -, -, -, -, -, -, -, -, -, -, -, -, -, -, a0, a1, a2, a3, a4, a5, a9, a10⟩ := v_ne j
  unfold cC
  obtain ⟨h1, h2⟩ := v_j j 2 (by decide)
  rw [if_neg a0, if_neg a1, if_neg a2, if_neg a3, if_neg a4, if_neg a5, if_neg a9, if_neg a10, h1, h2]
  rfl
def cI (C : cS) (k : Nat) (v : Int32) : cS := (va_up C.1 k v, C.2)
def cJ (C : cS) (k : Nat) (v : Int64) : cS := (C.1, va_up C.2.1 k v, C.2.2)
def cA (C : cS) (k i : Nat) (v : Int32) : cS := (C.1, C.2.1, va_up C.2.2.1 k (va_up (C.2.2.1 k) i v), C.2.2.2)
def cB (C : cS) (k i : Nat) (v : Int64) : cS := (C.1, C.2.1, C.2.2.1, va_up C.2.2.2.1 k (va_up (C.2.2.2.1 k) i v), C.2.2.2.2)
def cR (C : cS) (k i : Nat) (v : Option Nat) : cS := (C.1, C.2.1, C.2.2.1, C.2.2.2.1, va_up C.2.2.2.2 k (va_up (C.2.2.2.2 k) i v))
/-- the cell that holds an int, a long, an array -/
def wI (k : Nat) : Nat := if k < 4 then 0 else if k = 4 then 3 else if k < 8 then 9 else vO (k - 8)
def wJ (k : Nat) : Nat := if k = 0 then 0 else 9
def wA (k : Nat) : Nat := if k = 0 then 4 else if k = 1 then 5 else vO (k - 2) + 1
def wB (k : Nat) : Nat := vO k + 2
def wR (k : Nat) : Nat := if k = 0 then 1 else 2
theorem up_ne {β : Type} (f : Nat → β) {k q : Nat} (v : β) (h : q ≠ k) : va_up f k v q = f q := by simp [va_up, h]
theorem up_eq {β : Type} (f : Nat → β) (k : Nat) (v : β) : va_up f k v k = v := by simp [va_up]
theorem n_I (ac : Nat) (C : cS) (k : Nat) (v : Int32) : ∀ q, q ≠ wI k → cC ac C q = cC ac (cI C k v) q := by
  intro q hq
  by_cases h : q ≠ 0 ∧ q ≠ 1 ∧ q ≠ 2 ∧ q ≠ 3 ∧ q ≠ 4 ∧ q ≠ 5 ∧ q ≠ 9 ∧ q ≠ 10
  · obtain ⟨e, l⟩ := v_in h
    generalize oJ q = j at e
    generalize oM q = m at e l
    subst e
    obtain rfl | rfl | rfl : m = 0 ∨ m = 1 ∨ m = 2 := by omega
    · rw [Nat.add_zero] at hq ⊢
      rw [cC_v0, cC_v0]
      have : 8 + j ≠ k := by
        rintro rfl
        apply hq
        unfold wI
        rw [if_neg (by omega), if_neg (by omega), if_neg (by omega), Nat.add_sub_cancel_left]
      unfold cI
      simp only
      rw [up_ne _ _ this]
    · rw [cC_v1, cC_v1]; rfl
    · rw [cC_v2, cC_v2]; rfl
  · have : q = 0 ∨ q = 1 ∨ q = 2 ∨ q = 3 ∨ q = 4 ∨ q = 5 ∨ q = 9 ∨ q = 10 := by omega
    rcases this with rfl | rfl | rfl | rfl | rfl | rfl | rfl | rfl
    · have : 4 ≤ k := by
        rcases Nat.lt_or_ge k 4 with z | z
        · exact absurd (by unfold wI; rw [if_pos z]) hq
        · exact z
      simp [cC, cI, va_up, show ¬ (0 = k) by omega, show ¬ (1 = k) by omega, show ¬ (2 = k) by omega, show ¬ (3 = k) by omega]
    · rfl
    · rfl
    · have : k ≠ 4 := by rintro rfl; exact hq rfl
      simp [cC, cI, va_up, Ne.symm this]
    · rfl
    · rfl
    · have : k < 5 ∨ 8 ≤ k := by
        rcases Nat.lt_or_ge k 5 with z | z
        · exact Or.inl z
        · rcases Nat.lt_or_ge k 8 with z2 | z2
          · exact absurd (by unfold wI; rw [if_neg (by omega), if_neg (by omega), if_pos z2]) hq
          · exact Or.inr z2
      simp [cC, cI, va_up, show ¬ (5 = k) by omega, show ¬ (6 = k) by omega, show ¬ (7 = k) by omega]
    · rfl
theorem n_J (ac : Nat) (C : cS) (k : Nat) (hk : k < 2) (v : Int64) : ∀ q, q ≠ wJ k → cC ac C q = cC ac (cJ C k v) q := by
  intro q hq
  obtain rfl | rfl : k = 0 ∨ k = 1 := by omega
  · have hq : q ≠ 0 := hq
    unfold cC vCell
    simp [cJ, va_up, hq]
  · have hq : q ≠ 9 := hq
    unfold cC vCell
    simp [cJ, va_up, hq]
theorem n_A (ac : Nat) (C : cS) (k i : Nat) (v : Int32) : ∀ q, q ≠ wA k → cC ac C q = cC ac (cA C k i v) q := by
  intro q hq
  by_cases h : q ≠ 0 ∧ q ≠ 1 ∧ q ≠ 2 ∧ q ≠ 3 ∧ q ≠ 4 ∧ q ≠ 5 ∧ q ≠ 9 ∧ q ≠ 10
  · obtain ⟨e, l⟩ := v_in h
    generalize oJ q = j at e
    generalize oM q = m at e l
    subst e
    obtain rfl | rfl | rfl : m = 0 ∨ m = 1 ∨ m = 2 := by omega
    · rw [Nat.add_zero] at hq ⊢
      rw [cC_v0, cC_v0]; rfl
    · rw [cC_v1, cC_v1]
      have : 2 + j ≠ k := by
        rintro rfl
        apply hq
        unfold wA
        rw [if_neg (by omega), if_neg (by omega), Nat.add_sub_cancel_left]
      unfold cA
      simp only
      rw [up_ne _ _ this]
    · rw [cC_v2, cC_v2]; rfl
  · have : q = 0 ∨ q = 1 ∨ q = 2 ∨ q = 3 ∨ q = 4 ∨ q = 5 ∨ q = 9 ∨ q = 10 := by omega
    rcases this with rfl | rfl | rfl | rfl | rfl | rfl | rfl | rfl
    · rfl
    · rfl
    · rfl
    · rfl
    · have : k ≠ 0 := by rintro rfl; exact hq rfl
      simp [cC, cA, va_up, Ne.symm this]
    · have : k ≠ 1 := by rintro rfl; exact hq rfl
      simp [cC, cA, va_up, Ne.symm this]
    · rfl
    · rfl
theorem n_B (ac : Nat) (C : cS) (k i : Nat) (v : Int64) : ∀ q, q ≠ wB k → cC ac C q = cC ac (cB C k i v) q := by
  intro q hq
  by_cases h : q ≠ 0 ∧ q ≠ 1 ∧ q ≠ 2 ∧ q ≠ 3 ∧ q ≠ 4 ∧ q ≠ 5 ∧ q ≠ 9 ∧ q ≠ 10
  · obtain ⟨e, l⟩ := v_in h
    generalize oJ q = j at e
    generalize oM q = m at e l
    subst e
    obtain rfl | rfl | rfl : m = 0 ∨ m = 1 ∨ m = 2 := by omega
    · rw [Nat.add_zero] at hq ⊢
      rw [cC_v0, cC_v0]; rfl
    · rw [cC_v1, cC_v1]; rfl
    · rw [cC_v2, cC_v2]
      have : j ≠ k := by rintro rfl; exact hq rfl
      unfold cB
      simp only
      rw [up_ne _ _ this]
  · have : q = 0 ∨ q = 1 ∨ q = 2 ∨ q = 3 ∨ q = 4 ∨ q = 5 ∨ q = 9 ∨ q = 10 := by omega
    rcases this with rfl | rfl | rfl | rfl | rfl | rfl | rfl | rfl <;> rfl
theorem n_R (ac : Nat) (C : cS) (k i : Nat) (hk : k < 2) (v : Option Nat) : ∀ q, q ≠ wR k → cC ac C q = cC ac (cR C k i v) q := by
  intro q hq
  obtain rfl | rfl : k = 0 ∨ k = 1 := by omega
  · have hq : q ≠ 1 := hq
    unfold cC vCell
    simp [cR, va_up, hq]
  · have hq : q ≠ 2 := hq
    unfold cC vCell
    simp [cR, va_up, hq]
