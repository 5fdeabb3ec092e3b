/-! THE CLASS'S ROWS. My own rows. -/
/-- what a run changes, as the class holds it -/
def rc (R : aRS) (C : cS) : Prop := C.1 5 = nI R.1 ∧ C.1 4 = nI R.2.1 ∧ C.2.2.1 1 = R.2.2.1 ∧ C.2.2.1 0 = R.2.2.2.1 ∧ C.1 6 = R.2.2.2.2
/-- items behind the last row are 0 -/
def RZ (R : aRS) : Prop := ∀ i, 20 * R.2.1 ≤ i → R.2.2.2.1 i = 0
def VF (C : cS) : Prop := ∀ j, j < 63 → ∃ as, CV C j as
/-- kept: all but what a run changes, and the values above j0 -/
def kpt (j0 : Nat) (C C2 : cS) : Prop := (∀ k, k < 4 → C2.1 k = C.1 k) ∧ C2.2.1 0 = C.2.1 0 ∧ C2.2.2.2.2 = C.2.2.2.2 ∧ ∀ j, j ≤ j0 → C2.1 (8 + j) = C.1 (8 + j) ∧ C2.2.2.1 (2 + j) = C.2.2.1 (2 + j) ∧ C2.2.2.2.1 j = C.2.2.2.1 j
theorem kpt.rf (j : Nat) (C : cS) : kpt j C C := ⟨fun _ _ => rfl, rfl, rfl, fun _ _ => ⟨rfl, rfl, rfl⟩⟩
theorem kpt.tr {j : Nat} {C C2 C3 : cS} (h : kpt j C C2) (h2 : kpt j C2 C3) : kpt j C C3 := ⟨fun k z => (h2.1 k z).trans (h.1 k z), h2.2.1.trans h.2.1, h2.2.2.1.trans h.2.2.1, fun k z => ⟨(h2.2.2.2 k z).1.trans (h.2.2.2 k z).1, (h2.2.2.2 k z).2.1.trans (h.2.2.2 k z).2.1, (h2.2.2.2 k z).2.2.trans (h.2.2.2 k z).2.2⟩⟩
theorem kpt.dn {i j : Nat} {C C2 : cS} (h : kpt j C C2) (hl : i ≤ j) : kpt i C C2 := ⟨h.1, h.2.1, h.2.2.1, fun k z => h.2.2.2 k (Nat.le_trans z hl)⟩
theorem xpt.k {i j : Nat} {C C2 : cS} (h : xpt j C C2) (hl : i < j) : kpt i C C2 := ⟨fun k z => h.1 k (by omega), by rw [h.2.1], h.2.2.2.2, fun k z => ⟨h.1 _ (by omega), h.2.2.1 _ (by omega), h.2.2.2.1 _ (by omega)⟩⟩
theorem CV.k {i j : Nat} {C C2 : cS} {as : List aVl} (h : CV C i as) (k : kpt j C C2) (hl : i ≤ j) : CV C2 i as := by
  obtain ⟨a, b, c⟩ := k.2.2.2 i hl
  exact ⟨h.1, by rw [a]; exact h.2.1, fun n v e => by rw [b, c]; exact h.2.2 n v e⟩
theorem rc.x {j : Nat} {C C2 : cS} {R : aRS} (h : rc R C) (x : xpt j C C2) : rc R C2 := ⟨by rw [x.1 _ (by omega)]; exact h.1, by rw [x.1 _ (by omega)]; exact h.2.1, by rw [x.2.2.1 _ (by omega)]; exact h.2.2.1, by rw [x.2.2.1 _ (by omega)]; exact h.2.2.2.1, by rw [x.1 _ (by omega)]; exact h.2.2.2.2⟩
theorem VF.x {j : Nat} {C C2 : cS} {as : List aVl} (h : VF C) (x : xpt j C C2) (c : CV C2 j as) : VF C2 := by
  intro i hi
  by_cases e : i = j
  · subst e; exact ⟨as, c⟩
  · obtain ⟨bs, hb⟩ := h i hi
    exact ⟨bs, hb.x x e⟩
/-- nothing of the values is changed -/
def zpt (C C2 : cS) : Prop := ∀ j, kpt j C C2
theorem VF.z {C C2 : cS} (h : VF C) (x : zpt C C2) : VF C2 := fun i hi => by
  obtain ⟨bs, hb⟩ := h i hi
  exact ⟨bs, hb.k (x i) (Nat.le_refl _)⟩
theorem zpt.rf (C : cS) : zpt C C := fun j => kpt.rf j C
theorem zpt.tr {C C2 C3 : cS} (h : zpt C C2) (h2 : zpt C2 C3) : zpt C C3 := fun j => (h j).tr (h2 j)
theorem zpt.I {C : cS} {k : Nat} {v : Int32} (h : 4 ≤ k ∧ k < 8) : zpt C (cI C k v) := fun j => ⟨fun i z => by simp only [cI]; rw [up_ne _ _ (by omega)], rfl, rfl, fun i z => ⟨by simp only [cI]; rw [up_ne _ _ (by omega)], rfl, rfl⟩⟩
theorem zpt.J {C : cS} {v : Int64} : zpt C (cJ C 1 v) := fun j => ⟨fun i z => rfl, by simp only [cJ]; rw [up_ne _ _ (by omega)], rfl, fun i z => ⟨rfl, rfl, rfl⟩⟩
theorem zpt.A {C : cS} {k i : Nat} {v : Int32} (h : k < 2) : zpt C (cA C k i v) := fun j => ⟨fun i z => rfl, rfl, rfl, fun n z => ⟨rfl, by simp only [cA]; rw [up_ne _ _ (by omega)], rfl⟩⟩
theorem chk_1 (h : aH) : chkB (some (1, h)) = some (1, h) := rfl
theorem chk_0 (h : aH) : chkB (some (0, h)) = some (0, h) := rfl
section
variable {z : Nat → Nat} {ac : Nat} {C : cS} {r : aH} {R : aRS}
theorem c_has1 {k : Nat} (h : rc R C) (h60 : R.2.1 ≤ 60) (hk : k < R.2.1) : fX4_has z (ac + 3) (lN k) (co ac C r) = some (1, co ac C r) := by
  unfold fX4_has fX4_has_e
  rw [if_neg (by rw [lg_cmp_lt, show (0 : Int64) = lN 0 from rfl, lN_lt (by omega) (by omega)]; omega), q_rc, o_bs, h.2.1, nI_l (by omega), if_neg (by rw [lg_cmp_ge, lN_le (by omega) (by omega)]; omega), chk_1]
theorem c_has0 {j : Int64} (h : rc R C) (h60 : R.2.1 ≤ 60) (hn : ∀ k, k < R.2.1 → j ≠ lN k) : fX4_has z (ac + 3) j (co ac C r) = some (0, co ac C r) := by
  unfold fX4_has fX4_has_e
  by_cases h0 : lg_cmp j 0 < 0
  · rw [if_pos h0, chk_0]
  · rw [if_neg h0, q_rc, o_bs, h.2.1, nI_l (by omega), if_pos, chk_0]
    rw [lg_cmp_ge]
    rw [lg_cmp_lt] at h0
    obtain ⟨k, hk, rfl⟩ := pk_lOf h0
    have : ¬ k < R.2.1 := fun q => hn k q rfl
    rw [pk_lLE (by omega) hk]
    omega
theorem c_hi1 {a k m : Nat} (h : rc R C) (h60 : R.2.1 ≤ 60) (ha : a < R.2.1) (hm : R.2.2.1 a = nI m) (hm2 : m ≤ 20) (hk : k < m) : fX4_hasItem z (ac + 3) (nI a) (nI k) (co ac C r) = some (1, co ac C r) := by
  unfold fX4_hasItem fX4_hasItem_e
  obtain ⟨f, e⟩ := q_o3 ac C r
  rw [e, o_bs, nI_l (by omega), c_has1 h h60 ha, o_bs]
  simp only
  rw [if_neg (by decide), if_neg (nI_pos (by omega)), q_le, o_bs, o_bs, r_le ac C r (by omega), o_bs, h.2.2.1, hm, if_neg (by rw [nI_leI (by omega) (by omega)]; omega), chk_1]
theorem c_hi0 {a m : Nat} {y : Int32} (h : rc R C) (h60 : R.2.1 ≤ 60) (ha : a < R.2.1) (hm : R.2.2.1 a = nI m) (hm2 : m ≤ 20) (hy : ∀ k, k < m → y ≠ nI k) : fX4_hasItem z (ac + 3) (nI a) y (co ac C r) = some (0, co ac C r) := by
  unfold fX4_hasItem fX4_hasItem_e
  obtain ⟨f, e⟩ := q_o3 ac C r
  rw [e, o_bs, nI_l (by omega), c_has1 h h60 ha, o_bs]
  simp only
  rw [if_neg (by decide)]
  by_cases h0 : y < 0
  · rw [if_pos h0, chk_0]
  · rw [if_neg h0, q_le, o_bs, o_bs, r_le ac C r (by omega), o_bs, h.2.2.1, hm, if_pos, chk_0]
    obtain ⟨k, hk, rfl⟩ := nI_of h0
    have : ¬ k < m := fun q => hy k q rfl
    rw [nI_leI (by omega) hk]
    omega
theorem c_hin {x y : Int32} (h : rc R C) (h60 : R.2.1 ≤ 60) (hx : ∀ a, a < R.2.1 → x ≠ nI a) : fX4_hasItem z (ac + 3) x y (co ac C r) = some (0, co ac C r) := by
  unfold fX4_hasItem fX4_hasItem_e
  obtain ⟨f, e⟩ := q_o3 ac C r
  rw [e, o_bs, c_has0 h h60 (fun k hk e => hx k hk (by rw [← Int32.toInt32_toInt64 x, e, lN_i])), o_bs]
  simp only
  rw [if_pos trivial, chk_0]
theorem ix20 (a k : Nat) : nI a * 20 + nI k = nI (20 * a + k) := by rw [show (20 : Int32) = nI 20 from rfl, pk_mul, nI_add, Nat.mul_comm]
theorem c_item {a k m : Nat} (h : rc R C) (h60 : R.2.1 ≤ 60) (ha : a < R.2.1) (hm : R.2.2.1 a = nI m) (hm2 : m ≤ 20) (hk : k < m) : fX4_itemAt z (ac + 3) (nI a) (nI k) (co ac C r) = some (R.2.2.2.1 (20 * a + k), co ac C r) := by
  unfold fX4_itemAt
  obtain ⟨f, e⟩ := q_o3 ac C r
  rw [e, o_bs, c_hi1 h h60 ha hm hm2 hk, o_bs]
  simp only
  rw [if_neg (by decide), q_it, o_bs, o_bs, ix20, r_it ac C r (by omega), o_bs, h.2.2.2.1]
theorem c_len {a : Nat} (h : rc R C) (h60 : R.2.1 ≤ 60) (ha : a < R.2.1) : fX4_lengthOf z (ac + 3) (nI a) (co ac C r) = some (R.2.2.1 a, co ac C r) := by
  unfold fX4_lengthOf
  obtain ⟨f, e⟩ := q_o3 ac C r
  rw [e, o_bs, nI_l (by omega), c_has1 h h60 ha, o_bs]
  simp only
  rw [if_neg (by decide), q_le, o_bs, o_bs, r_le ac C r (by omega), o_bs, h.2.2.1]
theorem c_put {a k m : Nat} (h : rc R C) (h60 : R.2.1 ≤ 60) (ha : a < R.2.1) (hm : R.2.2.1 a = nI m) (hm2 : m ≤ 20) (hk : k < m) (v : Int32) : ∃ C2, fX4_put z (ac + 3) (nI a) (nI k) v (co ac C r) = some (co ac C2 r) ∧ rc (R.1, R.2.1, R.2.2.1, va_up R.2.2.2.1 (20 * a + k) v, R.2.2.2.2) C2 ∧ zpt C C2 ∧ C2.1 = C.1 ∧ C2.2.1 = C.2.1 := by
  unfold fX4_put
  obtain ⟨f, e⟩ := q_o3 ac C r
  rw [e, o_bs, c_hi1 h h60 ha hm hm2 hk, o_bs]
  simp only
  rw [if_neg (by decide), q_it, o_bs, o_bs, ix20, w_it ac C r (by omega), o_bs]
  refine ⟨_, rfl, ⟨h.1, h.2.1, ?_, ?_, h.2.2.2.2⟩, zpt.A (by decide), rfl, rfl⟩
  · simp only [cA]
    rw [up_ne _ _ (by decide)]
    exact h.2.2.1
  · simp only [cA, up_eq]
    rw [h.2.2.2.1]
theorem RZ.put {a k m : Nat} {v : Int32} (hz : RZ R) (ha : a < R.2.1) (hm2 : m ≤ 20) (hk : k < m) : RZ (R.1, R.2.1, R.2.2.1, va_up R.2.2.2.1 (20 * a + k) v, R.2.2.2.2) := by
  intro i hi
  have hi : 20 * R.2.1 ≤ i := hi
  show va_up R.2.2.2.1 (20 * a + k) v i = 0
  rw [up_ne _ _ (by omega)]
  exact hz i hi
theorem RZ.new {m : Nat} (hz : RZ R) : RZ (rnew R m) := by
  intro i hi
  have hi : 20 * (R.2.1 + 1) ≤ i := hi
  show zr R.2.2.2.1 (20 * R.2.1) m i = 0
  unfold zr
  split
  · rfl
  · exact hz i (by omega)
theorem c_make {m : Nat} (h : rc R C) (hz : RZ R) (h60 : R.2.1 < 60) (hm : m ≤ 20) : ∃ C2, fX4_make z (ac + 3) (nI m) (co ac C r) = some (nI R.2.1, co ac C2 r) ∧ rc (rnew R m) C2 ∧ zpt C C2 ∧ C2.2.1 = C.2.1 ∧ C2.1 7 = C.1 7 := by
  unfold fX4_make
  rw [q_rc, o_bs, h.2.1, if_neg (show ¬ (60 : Int32) ≤ nI R.2.1 by rw [show (60 : Int32) = nI 60 from rfl, nI_leI (by decide) (by omega)]; omega), if_neg (nI_pos (by omega)), if_pos (show nI m ≤ (20 : Int32) by rw [show (20 : Int32) = nI 20 from rfl, nI_leI (by omega) (by decide)]; omega), q_le, o_bs, o_bs, o_bs, w_le ac C r h60, o_bs, q_rc, o_bs, w_rc, o_bs, q_rc, o_bs]
  refine ⟨cI (cA C 1 R.2.1 (nI m)) 4 ((cA C 1 R.2.1 (nI m)).1 4 + 1), by rw [show (cI (cA C 1 R.2.1 (nI m)) 4 ((cA C 1 R.2.1 (nI m)).1 4 + 1)).1 4 = nI R.2.1 + 1 from by simp only [cI, up_eq, cA]; rw [h.2.1], nI_1, nI_pred], ⟨?_, ?_, ?_, ?_, ?_⟩, (zpt.A (by decide)).tr (zpt.I (by decide)), rfl, ?_⟩
  · simp only [cI, cA]
    rw [up_ne _ _ (by decide)]
    exact h.1
  · simp only [cI, cA, up_eq]
    rw [h.2.1, nI_1]
    rfl
  · simp only [cI, cA, up_eq]
    rw [h.2.2.1]
    rfl
  · simp only [cI, cA]
    rw [up_ne _ _ (by decide), h.2.2.2.1]
    show R.2.2.2.1 = zr R.2.2.2.1 (20 * R.2.1) m
    funext i
    unfold zr
    split
    · exact hz i (by omega)
    · rfl
  · simp only [cI, cA]
    rw [up_ne _ _ (by decide)]
    exact h.2.2.2.2
  · simp only [cI, cA]
    rw [up_ne _ _ (by decide)]
theorem c_full {x : Int32} (h : rc R C) (h60 : R.2.1 = 60) : fX4_make z (ac + 3) x (co ac C r) = some (-1, co ac C r) := by
  unfold fX4_make
  rw [q_rc, o_bs, h.2.1, h60, if_pos (by decide)]
theorem c_give (kd : Int32) (n : Int64) : ∃ C2, fX5_give z (ac + 9) kd n (co ac C r) = some (0, co ac C2 r) ∧ zpt C C2 ∧ C2.1 7 = kd ∧ C2.2.1 1 = n ∧ (∀ R, rc R C → rc R C2) := by
  unfold fX5_give
  rw [w_gk, o_bs, w_gn, o_bs]
  refine ⟨_, rfl, (zpt.I (by decide)).tr zpt.J, ?_, ?_, fun R h => ⟨?_, ?_, h.2.2.1, h.2.2.2.1, ?_⟩⟩
  · simp [cJ, cI, va_up]
  · simp [cJ, cI, va_up]
  · simp only [cJ, cI]; rw [up_ne _ _ (by decide)]; exact h.1
  · simp only [cJ, cI]; rw [up_ne _ _ (by decide)]; exact h.2.1
  · simp only [cJ, cI]; rw [up_ne _ _ (by decide)]; exact h.2.2.2.2
end
