/-! THE CLASS: others of two steps. My own rows. -/
theorem h_ty2 {ac : Nat} {T : mS} {r : aH} {ha : Nat → Nat} {c : Nat} (h : hOk ac T r ha c) : ∃ ty fs, aTy ac r ty (tys T c) (tI T 5 c) ∧ (∀ C, rdR (co ac C r) (ha c) [0, 1] 1 = some (some ty)) ∧ (∀ C, obO (co ac C r) ty 6 = some fs) ∧ (∀ z C, fX8_count z ty (co ac C r) = some (nI (tN T 3 c), co ac C r)) ∧ (∀ C, rdI (co ac C r) ty [6] 1 = some (tI T 5 c)) ∧ (tys T c).length ≤ 6 := by
  obtain ⟨ty, h1, h2⟩ := h_ty h
  obtain ⟨a1, a6, k, tg, f, a2, a3, a4, a5⟩ := id h1
  exact ⟨ty, _, h1, h2, fun C => p_ob a2 a1, fun z C => by rw [t_count h1, tys_len], fun C => t_gives h1, a6⟩
theorem gk_x {C2 C3 : cS} {j : Nat} (h : xpt j C2 C3) : C3.1 7 = C2.1 7 ∧ C3.2.1 1 = C2.2.1 1 := ⟨h.1 7 (by omega), by rw [h.2.1]⟩
section
variable {z : Nat → Nat} {ac : Nat} {r : aH} {T : mS} {ha : Nat → Nat} {nr m d : Nat} {rec : aRec} {P : Nat → Option Nat → Int32 → aH → Option (Int32 × aH)} {c ty pa hx hy : Nat} {as : List aVl} {R : aRS} {C : cS}
theorem c_23 (K : CK ac r T ha c nr m rec P) (h : IN nr m d R C) (o : oOk ac T r ha c 3 ty pa hx hy) (hcd : c + d ≤ 60) (hA : CV C (d + 1) as) (hT : VTs R.2.1 (tys T c) as) (h80 : R.1 ≤ 80) (X : hOk ac T r ha (tN T 7 c)) (H : hOk ac T r ha (tN T 6 c)) (w : tN T 3 (tN T 7 c) ≤ as.length) (y1 : tys T (tN T 7 c) = (tys T c).take (tN T 3 (tN T 7 c))) (y2 : tys T (tN T 6 c) = (if tI T 5 (tN T 7 c) = 4 then [] else [tI T 5 (tN T 7 c)]) ++ tys T c) : CG ac r d C (thn (rec (tN T 7 c) (as.take (tN T 3 (tN T 7 c))) R) fun v R2 => rec (tN T 6 c) ((if tI T 5 (tN T 7 c) = 4 then [] else [v]) ++ as) R2) (fX5_performFolded z P (ac + 9) (some pa) (nI d) (co ac C r)) := by
  obtain ⟨o1, o2, -, o8, s6, sx, -⟩ := o
  obtain ⟨sx, s7⟩ := sx (Or.inl (by decide))
  have hl := hT.len
  obtain ⟨tx, fx, b1, b2, b3, b4, b5, b6⟩ := h_ty2 X
  obtain ⟨-, -, -, -, -, -, -, B6⟩ := h_ty2 H
  have q5 : ∀ C, rdR (co ac C r) pa [2] 1 = some (some (ha (tN T 6 c))) := fun C => p_rdR o8 o2 (by decide) rfl
  have q6 : ∀ C, rdR (co ac C r) pa [2] 2 = some (some (ha (tN T 7 c))) := fun C => by rw [← sx]; exact p_rdR o8 o2 (by decide) rfl
  obtain ⟨C1, e1, a1, x1⟩ := c_pass (z := z) (ac := ac) (r := r) (d := d) (by omega) h.2.2.2.2.2.2 hA w
  obtain ⟨q, C2, f1, f2, f3, f4, f5, f6, f7, f8⟩ := k_sub K (h.x x1 a1) s7 (by omega) (by rw [y1]; exact hT.take _) a1
  have k2 : kpt (d + 1) C C2 := (x1.k (by omega)).tr f3.2.2.2.1
  unfold fX5_performFolded thn
  rw [f1, o_bs]
  simp only [o_bs, q6, b2, b3, b4, o4, e1, f2]
  by_cases h0 : q.1 = 0
  · rw [if_pos h0, if_pos h0]
    have I2 := k_in (h.x x1 a1) f3 f4 f5 f6 (by have := f7 h80; omega)
    have hA2 := hA.k k2 (Nat.le_refl _)
    obtain ⟨C3, e3, a3, x3⟩ := c_open (z := z) (ac := ac) (r := r) (d := d) (by omega) I2.2.2.2.2.2.2
    obtain ⟨v1, v2⟩ := f8 h0
    obtain ⟨u1, u2⟩ := f3.2.2.2.2 h0
    obtain ⟨t1, t2⟩ := gk_x x3
    have hA3 := hA2.x x3 (by omega)
    by_cases hg : tI T 5 (tN T 7 c) = 4
    · rw [if_pos hg, List.nil_append] at y2
      obtain ⟨C4, e4, a4, x4⟩ := v_some0 (z := z) (ac := ac) (r := r) (i := d + 1) (j := d + 2) (by omega) (by omega) (by omega) hA3 a3 (Nat.le_refl _) (by have := hA.1; simp; omega)
      rw [List.nil_append, List.take_length] at a4
      have ec := v_count (z := z) (ac := ac) (r := r) (j := d + 1) (by omega) hA3
      unfold fX5_performFolded_75
      simp only [o_bs, q5, q6, b2, b3, b5, hg, if_true, q_fr, r_fr ac C2 r (show d < 62 by omega), o4, o7 ac r (show d + 2 < 63 by omega), o7 ac r (show d + 1 < 63 by omega), e3, ec, e4, List.nil_append]
      refine cg_tr k2 (k_tail K (I2.x (x3.tr x4) a4) ((x3.tr x4).k (by omega)) s6 (by omega) ?_ a4)
      rw [y2]
      exact hT.mono f5
    · rw [if_neg hg] at y2
      have hl6 : as.length < 6 := by rw [y2] at B6; simp at B6; omega
      obtain ⟨C4, e4, a4, x4⟩ := v_add (z := z) (ac := ac) (r := r) (j := d + 2) (by omega) a3 (by decide) q.2.1.1 q.2.1.2
      have hA4 := hA3.x x4 (by omega)
      obtain ⟨C5, e5, a5, x5⟩ := v_some0 (z := z) (ac := ac) (r := r) (i := d + 1) (j := d + 2) (by omega) (by omega) (by omega) hA4 a4 (Nat.le_refl _) (by simp; omega)
      rw [List.nil_append, List.take_length] at a5
      have ec := v_count (z := z) (ac := ac) (r := r) (j := d + 1) (by omega) hA4
      unfold fX5_performFolded_75
      simp only [o_bs, q5, q6, b2, b3, b5, hg, if_false, q_fr, q_gk, q_gn, t1, t2, u1, u2, r_fr ac C2 r (show d < 62 by omega), o4, o7 ac r (show d + 2 < 63 by omega), o7 ac r (show d + 1 < 63 by omega), e3, ec, e4, e5]
      have x := (x3.tr x4).tr x5
      refine cg_tr k2 (k_tail K (I2.x x a5) (x.k (by omega)) s6 (by omega) ?_ a5)
      rw [y2]
      exact VTs.cons v1 (hT.mono f5)
  · rw [if_neg h0, if_neg h0]
    exact ⟨q, C2, rfl, rfl, ce_tr (x1.k (by omega)) f3⟩
theorem c_25 (K : CK ac r T ha c nr m rec P) (h : IN nr m d R C) (o : oOk ac T r ha c 5 ty pa hx hy) (hcd : c + d ≤ 60) (hA : CV C (d + 1) as) (hT : VTs R.2.1 (tys T c) as) (h80 : R.1 ≤ 80) (H : hOk ac T r ha (tN T 6 c)) (y1 : tys T (tN T 6 c) = tys T c) (y2 : tys T (tN T 7 c) = (if tI T 5 (tN T 6 c) = 4 then [] else [tI T 5 (tN T 6 c)])) : CG ac r d C (thn (rec (tN T 6 c) as R) fun v R2 => rec (tN T 7 c) (if tI T 5 (tN T 6 c) = 4 then [] else [v]) R2) (fX5_performThen z P (ac + 9) (some pa) (nI d) (co ac C r)) := by
  obtain ⟨o1, o2, -, o8, s6, sx, -⟩ := o
  obtain ⟨sx, s7⟩ := sx (Or.inl (by decide))
  obtain ⟨tx, fx, b1, b2, b3, b4, b5, b6⟩ := h_ty2 H
  have q5 : ∀ C, rdR (co ac C r) pa [2] 1 = some (some (ha (tN T 6 c))) := fun C => p_rdR o8 o2 (by decide) rfl
  have q6 : ∀ C, rdR (co ac C r) pa [2] 2 = some (some (ha (tN T 7 c))) := fun C => by rw [← sx]; exact p_rdR o8 o2 (by decide) rfl
  obtain ⟨C1, e1, a1, x1⟩ := c_pass (z := z) (ac := ac) (r := r) (d := d) (by omega) h.2.2.2.2.2.2 hA (Nat.le_refl _)
  rw [List.take_length] at a1
  have ec := v_count (z := z) (ac := ac) (r := r) (j := d + 1) (by omega) hA
  obtain ⟨q, C2, f1, f2, f3, f4, f5, f6, f7, f8⟩ := k_sub K (h.x x1 a1) s6 (by omega) (by rw [y1]; exact hT) a1
  have k2 : kpt (d + 1) C C2 := (x1.k (by omega)).tr f3.2.2.2.1
  unfold fX5_performThen thn
  rw [f1, o_bs]
  simp only [o_bs, q5, b2, b3, b4, ec, q_fr, r_fr ac C r (show d < 62 by omega), o7 ac r (show d + 1 < 63 by omega), o4, e1, f2]
  by_cases h0 : q.1 = 0
  · rw [if_pos h0, if_pos h0]
    have I2 := k_in (h.x x1 a1) f3 f4 f5 f6 (by have := f7 h80; omega)
    obtain ⟨C3, e3, a3, x3⟩ := c_open (z := z) (ac := ac) (r := r) (d := d) (by omega) I2.2.2.2.2.2.2
    obtain ⟨v1, v2⟩ := f8 h0
    obtain ⟨u1, u2⟩ := f3.2.2.2.2 h0
    obtain ⟨t1, t2⟩ := gk_x x3
    by_cases hg : tI T 5 (tN T 6 c) = 4
    · rw [if_pos hg] at y2
      unfold fX5_performThen_66
      simp only [o_bs, q5, q6, b2, b3, b5, hg, if_true, o4, o7 ac r (show d + 2 < 63 by omega), e3]
      refine cg_tr k2 (k_tail K (I2.x x3 a3) (x3.k (by omega)) s7 (by omega) ?_ a3)
      rw [y2]
      exact trivial
    · rw [if_neg hg] at y2
      obtain ⟨C4, e4, a4, x4⟩ := v_add (z := z) (ac := ac) (r := r) (j := d + 2) (by omega) a3 (by decide) q.2.1.1 q.2.1.2
      unfold fX5_performThen_66
      simp only [o_bs, q5, q6, b2, b3, b5, hg, if_false, q_gk, q_gn, t1, t2, u1, u2, o4, o7 ac r (show d + 2 < 63 by omega), e3, e4]
      refine cg_tr k2 (k_tail K (I2.x (x3.tr x4) a4) ((x3.tr x4).k (by omega)) s7 (by omega) ?_ a4)
      rw [y2]
      exact ⟨v1, trivial⟩
  · rw [if_neg h0, if_neg h0]
    exact ⟨q, C2, rfl, rfl, ce_tr (x1.k (by omega)) f3⟩
theorem c_26 (K : CK ac r T ha c nr m rec P) (h : IN nr m d R C) (o : oOk ac T r ha c 6 ty pa hx hy) (hcd : c + d ≤ 60) (hA : CV C (d + 1) as) (hT : VTs R.2.1 (tys T c) as) (h80 : R.1 ≤ 80) (H : hOk ac T r ha (tN T 6 c)) (w : tN T 3 (tN T 6 c) ≤ as.length) (y1 : tys T (tN T 6 c) = (tys T c).take (tN T 3 (tN T 6 c))) (y2 : tys T (tN T 7 c) = tys T c) (y3 : tys T (tN T 8 c) = tys T c) : CG ac r d C (thn (rec (tN T 6 c) (as.take (tN T 3 (tN T 6 c))) R) fun v R2 => rec (if lg_cmp v.2 0 = 0 then tN T 8 c else tN T 7 c) as R2) (fX5_performChosen z P (ac + 9) (some pa) (nI d) (co ac C r)) := by
  obtain ⟨o1, o2, -, o8, s6, sx, sy⟩ := o
  obtain ⟨sx, s7⟩ := sx (Or.inl (by decide))
  obtain ⟨sy, s8⟩ := sy (Or.inl rfl)
  obtain ⟨tx, fx, b1, b2, b3, b4, b5, b6⟩ := h_ty2 H
  have q5 : ∀ C, rdR (co ac C r) pa [2] 1 = some (some (ha (tN T 6 c))) := fun C => p_rdR o8 o2 (by decide) rfl
  have q6 : ∀ C, rdR (co ac C r) pa [2] 2 = some (some (ha (tN T 7 c))) := fun C => by rw [← sx]; exact p_rdR o8 o2 (by decide) rfl
  have q7 : ∀ C, rdR (co ac C r) pa [2] 3 = some (some (ha (tN T 8 c))) := fun C => by rw [← sy]; exact p_rdR o8 o2 (by decide) rfl
  obtain ⟨C1, e1, a1, x1⟩ := c_pass (z := z) (ac := ac) (r := r) (d := d) (by omega) h.2.2.2.2.2.2 hA w
  obtain ⟨q, C2, f1, f2, f3, f4, f5, f6, f7, f8⟩ := k_sub K (h.x x1 a1) s6 (by omega) (by rw [y1]; exact hT.take _) a1
  have k2 : kpt (d + 1) C C2 := (x1.k (by omega)).tr f3.2.2.2.1
  unfold fX5_performChosen thn
  rw [f1, o_bs]
  simp only [o_bs, q5, b2, b3, b4, o4, e1, f2]
  by_cases h0 : q.1 = 0
  · rw [if_pos h0, if_pos h0]
    have I2 := k_in (h.x x1 a1) f3 f4 f5 f6 (by have := f7 h80; omega)
    have hA2 := hA.k k2 (Nat.le_refl _)
    obtain ⟨u1, u2⟩ := f3.2.2.2.2 h0
    obtain ⟨C3, e3, a3, x3⟩ := c_pass (z := z) (ac := ac) (r := r) (d := d) (by omega) I2.2.2.2.2.2.2 hA2 (Nat.le_refl _)
    rw [List.take_length] at a3
    obtain ⟨t1, t2⟩ := gk_x x3
    have ec := v_count (z := z) (ac := ac) (r := r) (j := d + 1) (by omega) hA2
    simp only [o_bs, q_fr, r_fr ac C2 r (show d < 62 by omega), o7 ac r (show d + 1 < 63 by omega), ec, o4, e3, q_gn, t2, u2, q6, q7]
    by_cases hz : lg_cmp q.2.1.2 0 = 0
    · rw [if_pos hz, if_pos hz]
      refine cg_tr k2 (k_tail K (I2.x x3 a3) (x3.k (by omega)) s8 (by omega) ?_ a3)
      rw [y3]
      exact hT.mono f5
    · rw [if_neg hz, if_neg hz]
      refine cg_tr k2 (k_tail K (I2.x x3 a3) (x3.k (by omega)) s7 (by omega) ?_ a3)
      rw [y2]
      exact hT.mono f5
  · rw [if_neg h0, if_neg h0]
    exact ⟨q, C2, rfl, rfl, ce_tr (x1.k (by omega)) f3⟩
theorem c_cght (f a : Int32) (h : aH) : fX5_isCaught z f a h = some (if cght f a = true then 1 else 0, h) := by
  unfold fX5_isCaught fX5_isCaught_e fX5_isCaught_11 fX5_isCaught_17 fX5_isCaught_22 cght
  have c1 : (f < 1) ↔ ¬ 0 < f := by rw [Int32.lt_iff_toInt_lt, Int32.lt_iff_toInt_lt]; show f.toInt < 1 ↔ ¬ 0 < f.toInt; omega
  have c2 : (f ≤ 6) ↔ f < 7 := by rw [Int32.lt_iff_toInt_lt, Int32.le_iff_toInt_le]; show f.toInt ≤ 6 ↔ f.toInt < 7; omega
  have c3 : (f < 100) ↔ ¬ 99 < f := by rw [Int32.lt_iff_toInt_lt, Int32.lt_iff_toInt_lt]; show f.toInt < 100 ↔ ¬ 99 < f.toInt; omega
  have c4 : 99 < f → 0 < f := by rw [Int32.lt_iff_toInt_lt, Int32.lt_iff_toInt_lt]; show (99 : Int) < f.toInt → (0 : Int) < f.toInt; omega
  by_cases h1 : 0 < f
  · rw [if_neg (fun e => c1.mp e h1)]
    by_cases h2 : f < 7
    · rw [if_pos (c2.mpr h2), if_neg (by decide)]
      by_cases h3 : a = 0
      · rw [if_pos h3, chk_1]; simp [h1, h2, h3]
      · rw [if_neg h3]
        by_cases h4 : a = f
        · rw [if_pos h4, chk_1]; simp [h1, h2, h4]
        · rw [if_neg h4, chk_0]; simp [h3, h4]
    · rw [if_neg (fun e => h2 (c2.mp e))]
      by_cases h5 : 99 < f
      · rw [if_neg (fun e => c3.mp e h5), if_neg (by decide)]
        by_cases h3 : a = 0
        · rw [if_pos h3, chk_1]; simp [h1, h5, h3]
        · rw [if_neg h3]
          by_cases h4 : a = f
          · rw [if_pos h4, chk_1]; simp [h1, h5, h4]
          · rw [if_neg h4, chk_0]; simp [h3, h4]
      · rw [if_pos (c3.mpr h5), if_pos rfl, chk_0]; simp [h2, h5]
  · rw [if_pos (c1.mpr h1), if_pos (c3.mpr (fun e => h1 (c4 e))), if_pos rfl, chk_0]; simp [h1]
theorem c_27 (K : CK ac r T ha c nr m rec P) (h : IN nr m d R C) (o : oOk ac T r ha c 7 ty pa hx hy) (hcd : c + d ≤ 60) (hA : CV C (d + 1) as) (hT : VTs R.2.1 (tys T c) as) (h80 : R.1 ≤ 80) (w : as.length < 6) (y1 : tys T (tN T 6 c) = tys T c) (y2 : tys T (tN T 7 c) = 0 :: tys T c) : CG ac r d C ((rec (tN T 6 c) as R).bind fun q => if cght q.1 (tI T 9 c) = true then rec (tN T 7 c) ((0, q.1.toInt64) :: as) q.2.2 else some q) (fX5_performCaught z P (ac + 9) (some pa) (nI d) (co ac C r)) := by
  obtain ⟨o1, o2, -, o8, s6, sx, -⟩ := o
  obtain ⟨sx, s7⟩ := sx (Or.inl (by decide))
  have q4 : ∀ C, rdI (co ac C r) pa [2] 4 = some (tI T 9 c) := fun C => p_rdI o8 o2 (by decide) rfl
  have q5 : ∀ C, rdR (co ac C r) pa [2] 1 = some (some (ha (tN T 6 c))) := fun C => p_rdR o8 o2 (by decide) rfl
  have q6 : ∀ C, rdR (co ac C r) pa [2] 2 = some (some (ha (tN T 7 c))) := fun C => by rw [← sx]; exact p_rdR o8 o2 (by decide) rfl
  obtain ⟨C1, e1, a1, x1⟩ := c_pass (z := z) (ac := ac) (r := r) (d := d) (by omega) h.2.2.2.2.2.2 hA (Nat.le_refl _)
  rw [List.take_length] at a1
  have ec := v_count (z := z) (ac := ac) (r := r) (j := d + 1) (by omega) hA
  obtain ⟨q, C2, f1, f2, f3, f4, f5, f6, f7, f8⟩ := k_sub K (h.x x1 a1) s6 (by omega) (by rw [y1]; exact hT) a1
  have k2 : kpt (d + 1) C C2 := (x1.k (by omega)).tr f3.2.2.2.1
  unfold fX5_performCaught
  rw [f1, o_bs]
  simp only [o_bs, q5, ec, q_fr, r_fr ac C r (show d < 62 by omega), o7 ac r (show d + 1 < 63 by omega), o4, e1, f2, q4, c_cght]
  by_cases hc : cght q.1 (tI T 9 c) = true
  · rw [if_pos hc, if_pos hc, if_neg (show ¬ (1 : Int32) = 0 by decide)]
    have I2 := k_in (h.x x1 a1) f3 f4 f5 f6 (by have := f7 h80; omega)
    obtain ⟨C3, e3, a3, x3⟩ := c_behind (z := z) (ac := ac) (r := r) (d := d) q.1 (by omega) I2.2.2.2.2.2.2 (hA.k k2 (Nat.le_refl _)) w
    simp only [e3, o_bs, q6, o4]
    refine cg_tr k2 (k_tail K (I2.x x3 a3) (x3.k (by omega)) s7 (by omega) ?_ a3)
    rw [y2]
    exact VTs.cons (vt0 (vi_32 _)) (hT.mono f5)
  · rw [if_neg hc, if_neg hc, if_pos rfl]
    exact ⟨q, C2, rfl, rfl, ce_tr (x1.k (by omega)) f3⟩
end
