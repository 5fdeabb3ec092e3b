/-! THE CLASS'S VALUES. My own rows. -/
def CV (C : cS) (j : Nat) (as : List aVl) : Prop := as.length ≤ 6 ∧ C.1 (8 + j) = nI as.length ∧ ∀ (i : Nat) (v : aVl), as[i]? = some v → C.2.2.1 (2 + j) i = v.1 ∧ C.2.2.2.1 j i = v.2
/-- all but the values j is as it was -/
def xpt (j : Nat) (C C2 : cS) : Prop := (∀ k, k ≠ 8 + j → C2.1 k = C.1 k) ∧ C2.2.1 = C.2.1 ∧ (∀ k, k ≠ 2 + j → C2.2.2.1 k = C.2.2.1 k) ∧ (∀ k, k ≠ j → C2.2.2.2.1 k = C.2.2.2.1 k) ∧ C2.2.2.2.2 = C.2.2.2.2
theorem xpt.rf (j : Nat) (C : cS) : xpt j C C := ⟨fun _ _ => rfl, rfl, fun _ _ => rfl, fun _ _ => rfl, rfl⟩
theorem xpt.tr {j : Nat} {C C2 C3 : cS} (h : xpt j C C2) (h2 : xpt j C2 C3) : xpt j C C3 := ⟨fun k z => (h2.1 k z).trans (h.1 k z), h2.2.1.trans h.2.1, fun k z => (h2.2.2.1 k z).trans (h.2.2.1 k z), fun k z => (h2.2.2.2.1 k z).trans (h.2.2.2.1 k z), h2.2.2.2.2.trans h.2.2.2.2⟩
theorem CV.x {C C2 : cS} {i j : Nat} {as : List aVl} (h : CV C i as) (x : xpt j C C2) (hn : i ≠ j) : CV C2 i as := ⟨h.1, by rw [x.1 _ (by omega)]; exact h.2.1, fun k v e => by rw [x.2.2.1 _ (by omega), x.2.2.2.1 _ hn]; exact h.2.2 k v e⟩
theorem v_count {z : Nat → Nat} {ac j : Nat} {C : cS} {r : aH} {as : List aVl} (hj : j < 63) (h : CV C j as) : fX9_count z (ac + vO j) (co ac C r) = some (nI as.length, co ac C r) := by
  unfold fX9_count
  rw [q_vs ac C r hj, o_bs, h.2.1]
theorem v_kind {z : Nat → Nat} {ac j i : Nat} {C : cS} {r : aH} {as : List aVl} {v : aVl} (hj : j < 63) (h : CV C j as) (e : as[i]? = some v) : fX9_kindAt z (ac + vO j) (nI i) (co ac C r) = some (v.1, co ac C r) := by
  have hi := (List.getElem?_eq_some_iff.mp e).1
  have h6 := h.1
  unfold fX9_kindAt
  rw [if_neg (nI_pos (by omega)), q_vs ac C r hj, o_bs, h.2.1, if_neg (by rw [nI_leI (by omega) (by omega)]; omega), q_vk ac C r hj, o_bs, o_bs, r_vk ac C r hj (by omega), o_bs, (h.2.2 i v e).1]
theorem v_num {z : Nat → Nat} {ac j i : Nat} {C : cS} {r : aH} {as : List aVl} {v : aVl} (hj : j < 63) (h : CV C j as) (e : as[i]? = some v) : fX9_numberAt z (ac + vO j) (nI i) (co ac C r) = some (v.2, co ac C r) := by
  have hi := (List.getElem?_eq_some_iff.mp e).1
  have h6 := h.1
  unfold fX9_numberAt
  rw [if_neg (nI_pos (by omega)), q_vs ac C r hj, o_bs, h.2.1, if_neg (by rw [nI_leI (by omega) (by omega)]; omega), q_vn ac C r hj, o_bs, o_bs, r_vn ac C r hj (by omega), o_bs, (h.2.2 i v e).2]
theorem v_int {z : Nat → Nat} {ac j i : Nat} {C : cS} {r : aH} {as : List aVl} {v : aVl} (hj : j < 63) (h : CV C j as) (e : as[i]? = some v) : fX9_intAt z (ac + vO j) (nI i) (co ac C r) = some (v.2.toInt32, co ac C r) := by
  unfold fX9_intAt
  obtain ⟨fs, e1⟩ := q_o7 ac C r hj
  rw [e1, o_bs, v_num hj h e, o_bs]
theorem v_cut {z : Nat → Nat} {ac j n : Nat} {C : cS} {r : aH} {as : List aVl} (hj : j < 63) (h : CV C j as) (hn : n ≤ as.length) : ∃ C2, fX9_cutTo z (ac + vO j) (nI n) (co ac C r) = some (co ac C2 r) ∧ CV C2 j (as.take n) ∧ xpt j C C2 := by
  have h6 := h.1
  unfold fX9_cutTo
  rw [if_neg (nI_pos (by omega)), q_vs ac C r hj, o_bs, h.2.1]
  by_cases hl : as.length ≤ n
  · rw [if_pos (by rw [nI_leI (by omega) (by omega)]; exact hl)]
    exact ⟨C, rfl, by rw [List.take_of_length_le hl]; exact h, xpt.rf _ _⟩
  · rw [if_neg (by rw [nI_leI (by omega) (by omega)]; exact hl), w_vs ac C r hj, o_bs]
    refine ⟨_, rfl, ⟨by rw [List.length_take]; omega, ?_, fun i v e => ?_⟩, fun k z => ?_, rfl, fun _ _ => rfl, fun _ _ => rfl, rfl⟩
    · simp only [cI, up_eq]
      rw [List.length_take, Nat.min_eq_left hn]
    · rw [List.getElem?_take] at e
      split at e
      · exact h.2.2 i v e
      · cases e
    · simp only [cI]
      rw [up_ne _ _ z]
theorem v_cut0 {z : Nat → Nat} {ac j : Nat} {C : cS} {r : aH} {as : List aVl} (hj : j < 63) (h : CV C j as) : ∃ C2, fX9_cutTo z (ac + vO j) 0 (co ac C r) = some (co ac C2 r) ∧ CV C2 j [] ∧ xpt j C C2 := by
  have := v_cut (z := z) (ac := ac) (r := r) (n := 0) hj h (Nat.zero_le _)
  rw [List.take_zero, nI_0] at this
  exact this
/-- any values are cut to none -/
theorem v_cutE {z : Nat → Nat} {ac j : Nat} {C : cS} {r : aH} (hj : j < 63) (h : ∃ as, CV C j as) : ∃ C2, fX9_cutTo z (ac + vO j) 0 (co ac C r) = some (co ac C2 r) ∧ CV C2 j [] ∧ xpt j C C2 := by
  obtain ⟨as, h⟩ := h
  exact v_cut0 hj h
theorem v_add {z : Nat → Nat} {ac j : Nat} {C : cS} {r : aH} {as : List aVl} (hj : j < 63) (h : CV C j as) (hl : as.length < 6) (kd : Int32) (n : Int64) : ∃ C2, fX9_add z (ac + vO j) kd n (co ac C r) = some (co ac C2 r) ∧ CV C2 j (as ++ [(kd, n)]) ∧ xpt j C C2 := by
  unfold fX9_add
  rw [q_vs ac C r hj, o_bs, h.2.1, if_neg (show ¬ (6 : Int32) ≤ nI as.length by rw [show (6 : Int32) = nI 6 from rfl, nI_leI (by decide) (by omega)]; omega), q_vk ac C r hj, o_bs, o_bs, o_bs, w_vk ac C r hj hl, o_bs, q_vn ac _ r hj, o_bs, q_vs ac _ r hj, o_bs, o_bs, show (cA C (2 + j) as.length kd).1 (8 + j) = nI as.length from h.2.1, w_vn ac _ r hj hl, o_bs, q_vs ac _ r hj, o_bs, w_vs ac _ r hj, o_bs]
  refine ⟨_, rfl, ⟨by rw [List.length_append]; simp; omega, ?_, fun i v e => ?_⟩, fun k z => ?_, rfl, fun k z => ?_, fun k z => ?_, rfl⟩
  · simp only [cI, up_eq]
    show C.1 (8 + j) + 1 = _
    rw [h.2.1, nI_1, List.length_append]
    rfl
  · simp only [cI, cB, cA, up_eq]
    by_cases hi : i < as.length
    · rw [List.getElem?_append_left hi] at e
      rw [up_ne _ _ (by omega), up_ne _ _ (by omega)]
      exact h.2.2 i v e
    · have hi2 := (List.getElem?_eq_some_iff.mp e).1
      rw [List.length_append] at hi2
      simp at hi2
      have : i = as.length := by omega
      subst this
      rw [List.getElem?_append_right (Nat.le_refl _), Nat.sub_self] at e
      cases e
      rw [up_eq, up_eq]
      exact ⟨rfl, rfl⟩
  · simp only [cI]
    rw [up_ne _ _ z]
    rfl
  · simp only [cI, cB, cA]
    rw [up_ne _ _ z]
  · simp only [cI, cB, cA]
    rw [up_ne _ _ z]
theorem v_some3 {z : Nat → Nat} {ac i j : Nat} {r : aH} {as : List aVl} (hi : i < 63) (hj : j < 63) (hn : i ≠ j) : ∀ (m n a : Nat) (C : cS) (ws : List aVl), m < n → a + m ≤ as.length → ws.length + m ≤ 6 → CV C i as → CV C j ws → ∃ C2, fX9_addSome_3 z n (ac + vO j) (some (ac + vO i)) (nI (a + m)) (nI a) (co ac C r) = some (co ac C2 r) ∧ CV C2 j (ws ++ (as.drop a).take m) ∧ xpt j C C2 := by
  intro m
  induction m with
  | zero =>
    intro n a C ws h1 h2 h3 h4 h5
    obtain ⟨n, rfl⟩ : ∃ e, n = e + 1 := ⟨n - 1, by omega⟩
    have := h4.1
    rw [fX9_addSome_3, if_pos (by rw [nI_leI (by omega) (by omega)]; omega)]
    exact ⟨C, rfl, by simpa using h5, xpt.rf _ _⟩
  | succ m ih =>
    intro n a C ws h1 h2 h3 h4 h5
    obtain ⟨n, rfl⟩ : ∃ e, n = e + 1 := ⟨n - 1, by omega⟩
    have h6 := h4.1
    obtain ⟨v, ev⟩ : ∃ v, as[a]? = some v := ⟨as[a]'(by omega), List.getElem?_eq_getElem (by omega)⟩
    obtain ⟨f1, e1⟩ := q_o7 ac C r hi
    obtain ⟨f2, e2⟩ := q_o7 ac C r hj
    obtain ⟨C1, e3, g1, g2⟩ := v_add (z := z) (ac := ac) (r := r) hj h5 (by omega) v.1 v.2
    rw [fX9_addSome_3, if_neg (by rw [nI_leI (by omega) (by omega)]; omega), o_bs, e1, o_bs, v_kind hi h4 ev, o_bs]
    simp only
    rw [e1, o_bs, v_num hi h4 ev, o_bs]
    simp only
    rw [e2, o_bs, e3, o_bs, nI_1]
    obtain ⟨C2, e4, k1, k2⟩ := ih n (a + 1) C1 (ws ++ [(v.1, v.2)]) (by omega) (by omega) (by rw [List.length_append]; simp; omega) (h4.x g2 hn) g1
    rw [show a + (m + 1) = a + 1 + m by omega, e4]
    refine ⟨C2, rfl, ?_, g2.tr k2⟩
    have : (as.drop a).take (m + 1) = v :: (as.drop (a + 1)).take m := by
      rw [show as.drop a = v :: as.drop (a + 1) from by
        obtain ⟨hl, he⟩ := List.getElem?_eq_some_iff.mp ev
        rw [List.drop_eq_getElem_cons hl, he], List.take_succ_cons]
    rw [this]
    simpa using k1
theorem v_some {z : Nat → Nat} {ac i j a b : Nat} {C : cS} {r : aH} {as ws : List aVl} (hi : i < 63) (hj : j < 63) (hn : i ≠ j) (h : CV C i as) (h2 : CV C j ws) (hab : a ≤ b) (hb : b ≤ as.length) (hl : ws.length + (b - a) ≤ 6) : ∃ C2, fX9_addSome z (ac + vO j) (some (ac + vO i)) (nI a) (nI b) (co ac C r) = some (co ac C2 r) ∧ CV C2 j (ws ++ (as.drop a).take (b - a)) ∧ xpt j C C2 := by
  have h6 := h.1
  have := v_some3 (z := z) (ac := ac) (r := r) hi hj hn (b - a) 4000 a C ws (by omega) (by omega) hl h h2
  rw [show a + (b - a) = b by omega] at this
  exact this
/-- from the first on -/
theorem v_some0 {z : Nat → Nat} {ac i j b : Nat} {C : cS} {r : aH} {as ws : List aVl} (hi : i < 63) (hj : j < 63) (hn : i ≠ j) (h : CV C i as) (h2 : CV C j ws) (hb : b ≤ as.length) (hl : ws.length + b ≤ 6) : ∃ C2, fX9_addSome z (ac + vO j) (some (ac + vO i)) 0 (nI b) (co ac C r) = some (co ac C2 r) ∧ CV C2 j (ws ++ as.take b) ∧ xpt j C C2 := by
  have := v_some (z := z) (ac := ac) (r := r) (a := 0) hi hj hn h h2 (Nat.zero_le _) hb (by omega)
  rw [List.drop_zero, Nat.sub_zero, nI_0] at this
  exact this
