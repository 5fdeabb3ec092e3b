/-! CLASS AND REFERENCE: row, set, item, value, clear. My own rows. -/
/-- both answer alike, and what holds between calls holds again -/
def JR (ac : Nat) (T : mS) (r : aH) (ha sa : Nat → Nat) (nh ns : Nat) (y : Option (Int32 × aH)) (g : Option (Int32 × mS)) : Prop := ∃ a C2 S2 vs2 R2, y = some (a, co ac C2 r) ∧ g = some (a, S2) ∧ MI T S2 nh ns vs2 R2 ∧ CX ac T r ha sa nh ns vs2 R2 S2 C2
section
variable {z : Nat → Nat} {ac : Nat} {T S : mS} {r : aH} {ha sa : Nat → Nat} {nh ns : Nat} {vs : List aVl} {R : aRS} {C : cS}
theorem j_no (M : MI T S nh ns vs R) (X : CX ac T r ha sa nh ns vs R S C) {a : Int32} {y : Option (Int32 × aH)} {g : Option (Int32 × mS)} (hy : y = some (a, co ac C r)) (hg : g = some (a, sI S 0 0)) : JR ac T r ha sa nh ns y g := ⟨a, C, sI S 0 0, vs, R, hy, hg, M.z, X.sq (sq_z S)⟩
theorem nI_m1 {n : Nat} (h : n < 2 ^ 31) : ¬ nI n = -1 := fun e => by
  have : decide (nI n < 0) = decide ((-1 : Int32) < 0) := by rw [e]
  rw [decide_eq_false (nI_pos h)] at this
  exact absurd this (by decide)
theorem j_row (M : MI T S nh ns vs R) (X : CX ac T r ha sa nh ns vs R S C) (x : Int32) : JR ac T r ha sa nh ns (fX10_row z ac x (co ac C r)) (gX11_row x S) := by
  obtain ⟨-, -, ⟨hv, hV⟩, ⟨hrc, hz⟩, l1, l2, l3⟩ := id X
  by_cases hx : ∃ m, m < 21 ∧ x = nI m
  · obtain ⟨m, hm, rfl⟩ := hx
    have hc : fX10_row z ac (nI m) (co ac C r) = (fX4_make z (ac + 3) (nI m) (co ac C r)).bind fun q102 => if q102.1 = (-1) then some ((-5), q102.2) else some (q102.1, q102.2) := by
      unfold fX10_row
      rw [if_neg (nI_pos (by omega)), if_pos (show nI m ≤ 20 from nI_le (a := m) (b := 20) (by omega) (by decide)), q_ro, o_bs, o_bs, o3, o_bs]
    rcases g_row M hm with ⟨h60, e⟩ | ⟨h60, S2, e, M2, q⟩
    · refine j_no M X ?_ e
      rw [hc, c_full hrc h60, o_bs, if_pos rfl]
    · obtain ⟨C2, e2, k1, k2, k3, k4⟩ := c_make (z := z) (ac := ac) (r := r) hrc hz h60 (show m ≤ 20 by omega)
      refine ⟨nI R.2.1, C2, S2, vs, rnew R m, ?_, e, M2, ?_⟩
      · rw [hc, e2, o_bs, if_neg (show ¬ nI R.2.1 = -1 from nI_m1 (by omega))]
      · have sq := sq_e q rfl rfl rfl rfl rfl rfl
        obtain ⟨z1, z2, z3, z4⟩ := k2 0
        exact X.to ⟨z1 0 (by decide), z1 1 (by decide), z3⟩ ⟨sq.1, sq.2.1, sq.2.2.1⟩ ⟨hv.k (k2 0) (Nat.le_refl _), hV.z k2⟩ ⟨k1, hz.new⟩ ⟨by rw [z1 2 (by decide), sq.2.2.2.1]; exact l1, by rw [z2, sq.2.2.2.2.1]; exact l2, by rw [z1 3 (by decide), sq.2.2.2.2.2]; exact l3⟩
  · have hx2 : ∀ m, m < 21 → x ≠ nI m := fun m hm e => hx ⟨m, hm, e⟩
    refine j_no M X ?_ (g_row0 hx2)
    unfold fX10_row
    by_cases h0 : x < 0
    · rw [if_pos h0]
    · rw [if_neg h0, if_neg]
      intro h20
      obtain ⟨m, hm, rfl⟩ := nI_of2 (n := 20) rfl h0 h20
      exact hx2 m (by omega) rfl
theorem c_noitem (hrc : rc R C) (hR : RT R) {x y : Int32} (h : ∀ r k m, r < R.2.1 → x = nI r → y = nI k → R.2.2.1 r = nI m → ¬ k < m ∨ 20 < m) : fX4_hasItem z (ac + 3) x y (co ac C r) = some (0, co ac C r) := by
  by_cases hx : ∃ a, a < R.2.1 ∧ x = nI a
  · obtain ⟨a, ha, rfl⟩ := hx
    obtain ⟨m, hm, e⟩ := hR.2 a ha
    exact c_hi0 hrc hR.1 ha e hm fun k hk e2 => by
      rcases h a k m ha rfl e2 e with q | q <;> omega
  · exact c_hin hrc hR.1 fun a ha e => hx ⟨a, ha, e⟩
theorem j_set (M : MI T S nh ns vs R) (X : CX ac T r ha sa nh ns vs R S C) (x y v : Int32) : JR ac T r ha sa nh ns (fX10_set z ac x y v (co ac C r)) (gX11_set x y v S) := by
  obtain ⟨-, -, ⟨hv, hV⟩, ⟨hrc, hz⟩, l1, l2, l3⟩ := id X
  have hR := M.2.2.1.1
  have hS0 : RSt R (sI S 0 0) := M.z.2.2.1.2
  rcases i_itm hR hS0 x y with ⟨a, k, m, h1, rfl, rfl, h2, h3, h4, -⟩ | ⟨h1, h2⟩
  · obtain ⟨S2, e, M2, q⟩ := g_set1 M h1 h2 h3 h4 v
    obtain ⟨C2, e2, k1, k2, k3, k4⟩ := c_put (z := z) (ac := ac) (r := r) hrc hR.1 h1 h4 h3 h2 v
    refine ⟨1, C2, S2, vs, _, ?_, e, M2, ?_⟩
    · unfold fX10_set
      simp only [q_ro, o_bs, o3, c_hi1 hrc hR.1 h1 h4 h3 h2, e2]
      rw [if_neg (by decide)]
    · have sq := sq_e q rfl rfl rfl rfl rfl rfl
      obtain ⟨z1, z2, z3, z4⟩ := k2 0
      exact X.to ⟨z1 0 (by decide), z1 1 (by decide), z3⟩ ⟨sq.1, sq.2.1, sq.2.2.1⟩ ⟨hv.k (k2 0) (Nat.le_refl _), hV.z k2⟩ ⟨k1, hz.put h1 h3 h2⟩ ⟨by rw [z1 2 (by decide), sq.2.2.2.1]; exact l1, by rw [z2, sq.2.2.2.2.1]; exact l2, by rw [z1 3 (by decide), sq.2.2.2.2.2]; exact l3⟩
  · refine j_no M X ?_ (g_set0 M v h2)
    unfold fX10_set
    simp only [q_ro, o_bs, o3, c_noitem hrc hR h1, if_true]
theorem c_keep (kd : Int32) (n : Int64) : fX10_keepResult z ac kd n (co ac C r) = some (co ac (cJ (cI C 2 kd) 0 n) r) := by
  unfold fX10_keepResult
  rw [w_lk, o_bs, w_ln, o_bs]
theorem o8 (ac : Nat) (r : aH) (C : cS) : ∃ fs, obO (co ac C r) ac 8 = some fs := q_o8 ac C r
/-- changes of the latest result alone -/
def lpt (C C2 : cS) : Prop := (∀ k, k ≠ 2 → k ≠ 3 → C2.1 k = C.1 k) ∧ C2.2.1 1 = C.2.1 1 ∧ C2.2.2 = C.2.2
theorem lpt.vf {C C2 : cS} (h : lpt C C2) (hV : VF C) : VF C2 := fun j hj => by
  obtain ⟨as, a, b, c⟩ := hV j hj
  exact ⟨as, a, by rw [h.1 _ (by omega) (by omega)]; exact b, by rw [h.2.2]; exact c⟩
theorem lpt.cv {C C2 : cS} (h : lpt C C2) {j : Nat} {as : List aVl} (hV : CV C j as) : CV C2 j as := ⟨hV.1, by rw [h.1 _ (by omega) (by omega)]; exact hV.2.1, by rw [h.2.2]; exact hV.2.2⟩
theorem lpt.rc {C C2 : cS} (h : lpt C C2) {R : aRS} (hr : rc R C) : rc R C2 := ⟨by rw [h.1 _ (by decide) (by decide)]; exact hr.1, by rw [h.1 _ (by decide) (by decide)]; exact hr.2.1, by rw [h.2.2]; exact hr.2.2.1, by rw [h.2.2]; exact hr.2.2.2.1, by rw [h.1 _ (by decide) (by decide)]; exact hr.2.2.2.2⟩
theorem j_item (M : MI T S nh ns vs R) (X : CX ac T r ha sa nh ns vs R S C) (x y : Int32) : JR ac T r ha sa nh ns (fX10_item z ac x y (co ac C r)) (gX11_item x y S) := by
  obtain ⟨-, -, ⟨hv, hV⟩, ⟨hrc, hz⟩, l1, l2, l3⟩ := id X
  have hR := M.2.2.1.1
  have hS0 : RSt R (sI S 0 0) := M.z.2.2.1.2
  rcases i_itm hR hS0 x y with ⟨a, k, m, h1, rfl, rfl, h2, h3, h4, -⟩ | ⟨h1, h2⟩
  · obtain ⟨S2, e, M2, u1, u2, q⟩ := g_item1 M h1 h2 h3 h4
    obtain ⟨fs, o8⟩ := o8 ac r C
    refine ⟨1, cJ (cI C 2 0) 0 (R.2.2.2.1 (20 * a + k)).toInt64, S2, vs, R, ?_, e, M2, ?_⟩
    · unfold fX10_item
      simp only [q_ro, o_bs, o3, c_hi1 hrc hR.1 h1 h4 h3 h2, c_item hrc hR.1 h1 h4 h3 h2, o8, c_keep]
      rw [if_neg (by decide)]
    · have lp : lpt C (cJ (cI C 2 0) 0 (R.2.2.2.1 (20 * a + k)).toInt64) := ⟨fun k h1 h2 => by simp only [cJ, cI]; rw [up_ne _ _ h1], by simp only [cJ, cI]; rw [up_ne _ _ (by decide)], rfl⟩
      exact X.to ⟨lp.1 0 (by decide) (by decide), lp.1 1 (by decide) (by decide), rfl⟩ ⟨(q 17 rfl).2.2.1.symm, (q 18 rfl).2.2.1.symm, (q 19 rfl).2.2.1.symm⟩ ⟨lp.cv hv, lp.vf hV⟩ ⟨lp.rc hrc, hz⟩ ⟨by rw [u1]; simp [cJ, cI, va_up], by rw [u2]; simp [cJ, cI, va_up], by rw [show (cJ (cI C 2 0) 0 (R.2.2.2.1 (20 * a + k)).toInt64).1 3 = C.1 3 by simp [cJ, cI, va_up], l3]; exact (q 26 rfl).1⟩
  · refine j_no M X ?_ (g_item0 M h2)
    unfold fX10_item
    simp only [q_ro, o_bs, o3, c_noitem hrc hR h1, if_true]
theorem j_clear (M : MI T S nh ns vs R) (X : CX ac T r ha sa nh ns vs R S C) : JR ac T r ha sa nh ns (fX10_clear z ac (co ac C r)) (gX11_clear S) := by
  obtain ⟨-, -, ⟨hv, hV⟩, ⟨hrc, hz⟩, l1, l2, l3⟩ := id X
  obtain ⟨S2, e, M2, q⟩ := g_clear M
  obtain ⟨C2, e2, a2, x2⟩ := v_cut0 (z := z) (ac := ac) (r := r) (j := 0) (by decide) hv
  have ec := v_count (z := z) (ac := ac) (r := r) (j := 0) (by decide) hv
  refine ⟨nI vs.length, C2, S2, [], R, ?_, e, M2, ?_⟩
  · unfold fX10_clear
    simp only [q_gv, o_bs, o7 ac r (show 0 < 63 by decide), ec, e2]
  · have sq := sq_e q rfl rfl rfl rfl rfl rfl
    exact X.to ⟨x2.1 0 (by decide), x2.1 1 (by decide), x2.2.2.2.2⟩ ⟨sq.1, sq.2.1, sq.2.2.1⟩ ⟨a2, hV.x x2 a2⟩ ⟨hrc.x x2, hz⟩ ⟨by rw [x2.1 2 (by decide), sq.2.2.2.1]; exact l1, by rw [x2.2.1, sq.2.2.2.2.1]; exact l2, by rw [x2.1 3 (by decide), sq.2.2.2.2.2]; exact l3⟩
theorem c_v67 {k : Nat} (hv : CV C 0 vs) (hk : k ≤ vs.length) (h6 : k < 6) (kd : Int32) (j : Int64) : ∃ C2, fX10_value_67 z ac (nI k) kd j (co ac C r) = some (nI (k + 1), co ac C2 r) ∧ CV C2 0 (vs.take k ++ [(kd, if kd = 3 then 0 else j)]) ∧ xpt 0 C C2 := by
  obtain ⟨C1, e1, a1, x1⟩ := v_cut (z := z) (ac := ac) (r := r) (j := 0) (n := k) (by decide) hv hk
  obtain ⟨C2, e2, a2, x2⟩ := v_add (z := z) (ac := ac) (r := r) (j := 0) (by decide) a1 (by rw [List.length_take]; omega) kd (if kd = 3 then 0 else j)
  have ec := v_count (z := z) (ac := ac) (r := r) (j := 0) (by decide) a2
  have el : (vs.take k ++ [(kd, if kd = 3 then 0 else j)]).length = k + 1 := by rw [List.length_append, List.length_take, Nat.min_eq_left hk]; rfl
  rw [el] at ec
  refine ⟨C2, ?_, a2, x1.tr x2⟩
  unfold fX10_value_67
  simp only [q_gv, o_bs, o7 ac r (show 0 < 63 by decide), e1]
  by_cases h3 : kd = 3
  · rw [if_pos h3] at e2 ⊢
    simp only [e2, o_bs, q_gv, o7 ac r (show 0 < 63 by decide), ec]
  · rw [if_neg h3] at e2 ⊢
    simp only [e2, o_bs, q_gv, o7 ac r (show 0 < 63 by decide), ec]
theorem c_v19 (hv : CV C 0 vs) (x kd : Int32) (j : Int64) : (((∀ k, k < min (vs.length + 1) 6 → x ≠ nI k) ∨ (∀ c, c < 4 → kd ≠ nI c) ∨ (kd = 0 ∧ ¬ VI j)) → fX10_value_19 z ac x kd j (co ac C r) = some (-3, co ac C r)) ∧ (∀ k, k < min (vs.length + 1) 6 → x = nI k → (∃ c, c < 4 ∧ kd = nI c) → (kd = 0 → VI j) → fX10_value_19 z ac x kd j (co ac C r) = fX10_value_67 z ac x kd j (co ac C r)) := by
  have ec := v_count (z := z) (ac := ac) (r := r) (j := 0) (by decide) hv
  have h6 := hv.1
  have cv : (lg_cmp j (Int32.toInt64 (Int64.toInt32 j)) = 0) ↔ VI j := by rw [lg_cmp_eq]; unfold VI; exact eq_comm
  refine ⟨fun h => ?_, fun k hk hx hc hj => ?_⟩
  · unfold fX10_value_19
    by_cases h0 : x < 0
    · rw [if_pos h0]
    · obtain ⟨n, hn, rfl⟩ := nI_of h0
      rw [if_neg h0]
      simp only [q_gv, o_bs, o7 ac r (show 0 < 63 by decide), ec]
      by_cases h1 : vs.length < n
      · rw [if_pos (by rw [nI_ltI (by omega) hn]; exact h1)]
      · rw [if_neg (by rw [nI_ltI (by omega) hn]; exact h1)]
        by_cases h2 : 6 ≤ n
        · rw [if_pos (show (6 : Int32) ≤ nI n from nI_le (a := 6) h2 hn)]
        · rw [if_neg (show ¬ (6 : Int32) ≤ nI n from nI_ge (b := 6) (by omega) (by decide))]
          have h := h.resolve_left (fun q => q n (by omega) rfl)
          by_cases k0 : kd < 0
          · rw [if_pos k0]
          · rw [if_neg k0]
            by_cases k3 : kd ≤ 3
            · obtain ⟨c, hc, rfl⟩ := nI_of2 (n := 3) rfl k0 k3
              have h := h.resolve_left (fun q => q c (by omega) rfl)
              rw [if_pos k3, if_pos h.1, if_neg (fun e => h.2 (cv.mp e))]
            · rw [if_neg k3]
  · obtain ⟨c, hc, rfl⟩ := hc
    subst hx
    unfold fX10_value_19
    rw [if_neg (nI_pos (by omega))]
    simp only [q_gv, o_bs, o7 ac r (show 0 < 63 by decide), ec]
    rw [if_neg (by rw [nI_ltI (by omega) (by omega)]; omega), if_neg (show ¬ (6 : Int32) ≤ nI k from nI_ge (b := 6) (by omega) (by decide)), if_neg (nI_pos (by omega)), if_pos (show nI c ≤ 3 from nI_le (b := 3) (by omega) (by decide))]
    by_cases h0 : nI c = 0
    · rw [if_pos h0, if_pos (cv.mpr (hj h0))]
    · rw [if_neg h0]
theorem j_value (M : MI T S nh ns vs R) (X : CX ac T r ha sa nh ns vs R S C) (x kd : Int32) (j : Int64) : JR ac T r ha sa nh ns (fX10_value z ac x kd j (co ac C r)) (gX11_value x kd j S) := by
  obtain ⟨-, -, ⟨hv, hV⟩, ⟨hrc, hz⟩, l1, l2, l3⟩ := id X
  have hR := M.2.2.1.1
  have e19 : ¬ (kd = 2 ∧ ∀ r, r < R.2.1 → j ≠ lN r) → fX10_value z ac x kd j (co ac C r) = fX10_value_19 z ac x kd j (co ac C r) := by
    intro h
    unfold fX10_value
    by_cases h2 : kd = 2
    · obtain ⟨k, hk, rfl⟩ : ∃ k, k < R.2.1 ∧ j = lN k := by
        apply Classical.byContradiction
        intro q
        exact h ⟨h2, fun k hk e => q ⟨k, hk, e⟩⟩
      rw [if_pos h2]
      simp only [q_ro, o_bs, o3, c_has1 hrc hR.1 hk]
      rw [if_neg (by decide)]
    · rw [if_neg h2]
  rcases g_value M x kd j with ⟨⟨h1, h2⟩, e⟩ | ⟨h, ⟨h1, e⟩ | ⟨k, hk, rfl, hc, hj, S2, e, M2, q⟩⟩
  · refine j_no M X ?_ e
    unfold fX10_value
    rw [if_pos h1]
    simp only [q_ro, o_bs, o3, c_has0 hrc hR.1 h2, if_true]
  · refine j_no M X ?_ e
    rw [e19 h, (c_v19 hv x kd j).1 h1]
  · obtain ⟨C2, e2, a2, x2⟩ := c_v67 (z := z) (ac := ac) (r := r) (k := k) hv (by omega) (by omega) kd j
    refine ⟨nI (k + 1), C2, S2, _, R, ?_, e, M2, ?_⟩
    · rw [e19 h, (c_v19 hv _ kd j).2 k hk rfl hc hj, e2]
    · have sq0 := sq_z S
      have sq := sq_e q rfl rfl rfl rfl rfl rfl
      exact X.to ⟨x2.1 0 (by decide), x2.1 1 (by decide), x2.2.2.2.2⟩ ⟨sq.1, sq.2.1, sq.2.2.1⟩ ⟨a2, hV.x x2 a2⟩ ⟨hrc.x x2, hz⟩ ⟨by rw [x2.1 2 (by decide), sq.2.2.2.1, sq0.2.2.2.1]; exact l1, by rw [x2.2.1, sq.2.2.2.2.1, sq0.2.2.2.2.1]; exact l2, by rw [x2.1 3 (by decide), sq.2.2.2.2.2, sq0.2.2.2.2.2]; exact l3⟩
end
