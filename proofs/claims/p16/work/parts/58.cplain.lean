/-! THE CLASS: plain handles, all forms. My own rows. -/
section
variable {z : Nat → Nat} {ac d : Nat} {C : cS} {r : aH} {R : aRS}
theorem go_reach {as : List aVl} {F : Int32} {x2 : Int32} (hd : d ≤ 60) (hrc : rc R C) (hz : RZ R) (hR : RT R) (hV : VF C) (hA : CV C (d + 1) as) (hF : (F = 8 ∧ x2 = 0 ∧ VTs R.2.1 [3, 0] as) ∨ (F = 9 ∧ x2 = 1 ∧ VTs R.2.1 [3, 0, 0] as)) : CG ac r d C (spO F as R) (fX5_reachItem z (ac + 9) (some (ac + vO (d + 1))) x2 (co ac C r)) := by
  have h60 := hR.1
  obtain ⟨x, y, ws, rfl, hx, hy, hw⟩ : ∃ x y ws, as = x :: y :: ws ∧ VT R.2.1 3 x ∧ VT R.2.1 0 y ∧ (F = 9 → ∃ u, ws = [u] ∧ VT R.2.1 0 u) := by
    rcases hF with ⟨h1, -, h2⟩ | ⟨h1, -, h2⟩
    · obtain ⟨x, w1, e1, hx, t1⟩ := h2.one
      obtain ⟨y, w2, e2, hy, t2⟩ := t1.one
      exact ⟨x, y, w2, by rw [e1, e2], hx, hy, fun e => by rw [h1] at e; exact absurd e (by decide)⟩
    · obtain ⟨x, w1, e1, hx, t1⟩ := h2.one
      obtain ⟨y, w2, e2, hy, t2⟩ := t1.one
      obtain ⟨u, w3, e3, hu, t3⟩ := t2.one
      exact ⟨x, y, w2, by rw [e1, e2], hx, hy, fun _ => ⟨u, by rw [e3, t3.nil], hu⟩⟩
  obtain ⟨f7, e7⟩ := q_o7 ac C r (j := d + 1) (by omega)
  obtain ⟨f3, e3⟩ := q_o3 ac C r
  have k0 : fX9_kindAt z (ac + vO (d + 1)) 0 (co ac C r) = some (x.1, co ac C r) := v_kind (i := 0) (by omega) hA rfl
  have i0 : fX9_intAt z (ac + vO (d + 1)) 0 (co ac C r) = some (x.2.toInt32, co ac C r) := v_int (i := 0) (by omega) hA rfl
  have i1 : fX9_intAt z (ac + vO (d + 1)) 1 (co ac C r) = some (y.2.toInt32, co ac C r) := v_int (i := 1) (by omega) hA rfl
  have hF10 : ¬ F = 10 := by rcases hF with ⟨h1, -⟩ | ⟨h1, -⟩ <;> rw [h1] <;> decide
  unfold fX5_reachItem spO
  rw [o_bs, e7, o_bs, k0, o_bs]
  simp only [List.getElem?_cons_zero, List.getElem?_cons_succ, o_bs]
  by_cases h3 : x.1 = 3
  · rw [if_pos h3, if_pos h3]
    exact go_bad hrc hz hV (by decide)
  · rw [if_neg h3, if_neg h3, if_neg hF10]
    obtain ⟨a, m, ha, ha60, hm, hk, e2, e4, e5, e6⟩ := row_of hR hx h3
    rw [e7, o_bs, i0, o_bs]
    simp only
    rw [e7, o_bs, i1, o_bs]
    simp only
    rw [q_rr, o_bs, o_bs, e3, o_bs, e6, o_bs, e4]
    obtain ⟨yy, ey1, ey2⟩ := vi_e (hy.1 rfl).2
    rw [ey2]
    by_cases hin : inI y.2 0 (nI m - 1).toInt64 = 0
    · rw [if_pos hin]
      have hno : ∀ k, k < m → yy ≠ nI k := fun k hk e => by
        rw [ey1, e, in_1 hk (by omega)] at hin
        exact absurd hin (by decide)
      rw [c_hi0 hrc h60 ha e5 hm hno, o_bs, if_pos rfl]
      exact go_bad hrc hz hV (by decide)
    · rw [if_neg hin]
      obtain ⟨k, hk2, ek⟩ := in_lN hin (by omega)
      have eyk : yy = nI k := by rw [← ey2, ek, lN_i]
      subst eyk
      rw [c_hi1 hrc h60 ha e5 hm hk2, o_bs]
      simp only
      rw [if_neg (show ¬ (1 : Int32) = 0 by decide), nI_20]
      rcases hF with ⟨h1, h2, -⟩ | ⟨h1, h2, -⟩
      · rw [if_pos h1, if_pos h2, q_rr, o_bs, o_bs, e3, o_bs, c_item hrc h60 ha e5 hm hk2, o_bs, rri, nI_clamp (by omega), if_pos ⟨nI_pos (by omega), by omega⟩, o_bs]
        exact go_give hrc hz hV 0 _ []
      · obtain ⟨u, eu, hu⟩ := hw h1
        subst eu
        have i2 : fX9_intAt z (ac + vO (d + 1)) 2 (co ac C r) = some (u.2.toInt32, co ac C r) := v_int (i := 2) (by omega) hA rfl
        obtain ⟨C1, e8, g1, g2, g3, g4⟩ := c_put (z := z) (ac := ac) (r := r) hrc h60 ha e5 hm hk2 u.2.toInt32
        rw [if_neg (show ¬ F = 8 by rw [h1]; decide), if_neg (show ¬ x2 = 0 by rw [h2]; decide), q_rr, o_bs, e7, o_bs, i2, o_bs, o_bs]
        simp only
        rw [e3, o_bs, e8, o_bs, List.getElem?_cons_zero, o_bs, rwi, nI_clamp (by omega), if_pos ⟨nI_pos (by omega), by omega⟩, o_bs]
        obtain ⟨q, C2, k1, k2, k3⟩ := go_give (z := z) (ac := ac) (r := r) (d := d) g1 (hz.put ha hm hk2) (hV.z g2) 3 0 []
        exact ⟨q, C2, k1, k2, k3.1, k3.2.1, k3.2.2.1, (g2 _).tr k3.2.2.2.1, k3.2.2.2.2⟩
theorem go_len {as : List aVl} (hd : d ≤ 60) (hrc : rc R C) (hz : RZ R) (hR : RT R) (hV : VF C) (hA : CV C (d + 1) as) (hT : VTs R.2.1 [3] as) : CG ac r d C (spO 10 as R) ((obO (co ac C r) (ac + vO (d + 1)) 7).bind fun _ => (fX9_kindAt z (ac + vO (d + 1)) 0 (co ac C r)).bind fun q160 => if q160.1 = 3 then some (3, q160.2) else (rdR q160.2 (ac + 9) [4] 0).bind fun r163 => (obO q160.2 (ac + vO (d + 1)) 7).bind fun _ => (fX9_intAt z (ac + vO (d + 1)) 0 q160.2).bind fun q164 => r163.bind fun a167 => (obO q164.2 a167 3).bind fun _ => (fX4_lengthOf z a167 q164.1 q164.2).bind fun q166 => (obO q166.2 (ac + 9) 4).bind fun _ => (fX5_give z (ac + 9) 0 (Int32.toInt64 q166.1) q166.2).bind fun q169 => some (q169.1, q169.2)) := by
  have h60 := hR.1
  obtain ⟨x, w1, rfl, hx, t1⟩ := hT.one
  obtain ⟨f7, e7⟩ := q_o7 ac C r (j := d + 1) (by omega)
  obtain ⟨f3, e3⟩ := q_o3 ac C r
  have k0 : fX9_kindAt z (ac + vO (d + 1)) 0 (co ac C r) = some (x.1, co ac C r) := v_kind (i := 0) (by omega) hA rfl
  have i0 : fX9_intAt z (ac + vO (d + 1)) 0 (co ac C r) = some (x.2.toInt32, co ac C r) := v_int (i := 0) (by omega) hA rfl
  unfold spO
  rw [e7, o_bs, k0, o_bs]
  simp only [List.getElem?_cons_zero, o_bs]
  by_cases h3 : x.1 = 3
  · rw [if_pos h3, if_pos h3]
    exact go_bad hrc hz hV (by decide)
  · rw [if_neg h3, if_neg h3]
    obtain ⟨a, m, ha, ha60, hm, hk, e2, e4, e5, e6⟩ := row_of hR hx h3
    rw [if_pos trivial, q_rr, o_bs, e7, o_bs, i0, o_bs, o_bs]
    simp only
    rw [e3, o_bs, e6, o_bs, e4, c_len hrc h60 ha, o_bs, e5]
    exact go_give hrc hz hV 0 _ []
theorem two {nr : Nat} {t u : Int32} {as : List aVl} (h : VTs nr [t, u] as) : ∃ x y, as = [x, y] ∧ VT nr t x ∧ VT nr u y := by
  obtain ⟨x, w1, e1, hx, t1⟩ := h.one
  obtain ⟨y, w2, e2, hy, t2⟩ := t1.one
  exact ⟨x, y, by rw [e1, e2, t2.nil], hx, hy⟩
set_option maxHeartbeats 4000000 in
theorem c_plain {T : mS} {ha : Nat → Nat} {nr c ty : Nat} {as : List aVl} (hY : YP T nr c) (ho : out ac (ha c)) (hty : aTy ac r ty (tys T c) (tI T 5 c)) (hc : r.2.2 (ha c) = some (.inr (0, [.inl (tI T 2 c), rfV ty, .inl (tI T 10 c)]))) (hb : tI T 2 c = 12 → 100 + tI T 10 c ≠ 0) (hd : d ≤ 60) (hrc : rc R C) (hz : RZ R) (hR : RT R) (hV : VF C) (hA : CV C (d + 1) as) (hT : VTs R.2.1 (tys T c) as) : CG ac r d C (spP T c as R) (fX5_performPlain z (ac + 9) (some (ha c)) (some (ac + vO (d + 1))) (co ac C r)) := by
  obtain ⟨f4, e4⟩ := q_o4 ac C r
  obtain ⟨f7, e7⟩ := q_o7 ac C r (j := d + 1) (by omega)
  have eb : rdI (co ac C r) (ha c) [0, 1] 2 = some (tI T 10 c) := p_rdI hc ho (by decide) rfl
  have ef : rdI (co ac C r) (ha c) [0, 1] 0 = some (tI T 2 c) := p_rdI hc ho (by decide) rfl
  have k0 : ∀ {v : aVl}, as[0]? = some v → fX9_kindAt z (ac + vO (d + 1)) 0 (co ac C r) = some (v.1, co ac C r) := fun e => v_kind (i := 0) (by omega) hA e
  have n0 : ∀ {v : aVl}, as[0]? = some v → fX9_numberAt z (ac + vO (d + 1)) 0 (co ac C r) = some (v.2, co ac C r) := fun e => v_num (i := 0) (by omega) hA e
  have n1 : ∀ {v : aVl}, as[1]? = some v → fX9_numberAt z (ac + vO (d + 1)) 1 (co ac C r) = some (v.2, co ac C r) := fun e => v_num (i := 1) (by omega) hA e
  have i0 : ∀ {v : aVl}, as[0]? = some v → fX9_intAt z (ac + vO (d + 1)) 0 (co ac C r) = some (v.2.toInt32, co ac C r) := fun e => v_int (i := 0) (by omega) hA e
  have i1 : ∀ {v : aVl}, as[1]? = some v → fX9_intAt z (ac + vO (d + 1)) 1 (co ac C r) = some (v.2.toInt32, co ac C r) := fun e => v_int (i := 1) (by omega) hA e
  unfold YP at hY
  rcases hY with ⟨hF, ht, hg, hi, -⟩ | ⟨hF, ht⟩ | ⟨hF, ht, hg⟩ | ⟨hF, ht, hg⟩ | ⟨hF, ht, hg⟩ | ⟨hF, ht, hg⟩ | ⟨hF, ht, hg⟩ | ⟨hF, ht, hg⟩ | ⟨hF, ht⟩ | ⟨hF, ht, hg⟩
  · have es : spP T c as R = some (0, (if tI T 9 c = 1 then (1, (tI T 10 c).toInt64) else if tI T 9 c = 3 then (2, (tI T 10 c).toInt64) else if tI T 9 c = 4 then (3, 0) else (0, (tI T 10 c).toInt64)), R) := by
      unfold spP
      rw [hF, if_pos (show (0 : Int32) = 0 from rfl)]
    rw [es]
    unfold fX5_performPlain
    rw [o_bs, ef, o_bs, hF, if_pos (show (0 : Int32) = 0 from rfl)]
    rw [p_rdR hc ho (by decide) rfl, o_bs, o_bs, t_gives hty, o_bs, eb, o_bs, e4, o_bs, hg]
    obtain ⟨q, C2, g1, g2, g3⟩ := go_fixed (z := z) (ac := ac) (r := r) (d := d) (g := tI T 9 c) (b := tI T 10 c) hrc hz hV
    rw [g2, o_bs]
    exact ⟨q, C2, g1, rfl, g3⟩
  · rw [ht] at hT
    obtain ⟨x, w1, e1, hx, t1⟩ := hT.one
    have a0 : as[0]? = some x := by rw [e1]; rfl
    have es : spP T c as R = some (0, x, R) := by
      unfold spP
      rw [hF, if_neg (show ¬ (1 : Int32) = 0 by decide), if_pos (show (1 : Int32) = 1 from rfl)]
      rw [a0, o_bs]
    rw [es]
    unfold fX5_performPlain
    rw [o_bs, ef, o_bs, hF, if_neg (show ¬ (1 : Int32) = 0 by decide), if_pos (show (1 : Int32) = 1 from rfl)]
    rw [o_bs, e7, o_bs, k0 a0, o_bs]
    simp only
    rw [e7, o_bs, n0 a0, o_bs]
    exact go_give hrc hz hV x.1 x.2 []
  · rw [ht] at hT
    obtain ⟨x, y, e1, hx, hy⟩ := two hT
    have a0 : as[0]? = some x := by rw [e1]; rfl
    have a1 : as[1]? = some y := by rw [e1]; rfl
    rcases hF with hF | hF | hF | hF | hF
    · have es : spP T c as R = some (0, (0, (x.2.toInt32 + y.2.toInt32).toInt64), R) := by
        unfold spP
        rw [hF, if_neg (show ¬ (2 : Int32) = 0 by decide), if_neg (show ¬ (2 : Int32) = 1 by decide), if_neg (show ¬ (2 : Int32) = 12 by decide), if_neg (show ¬ (2 : Int32) = 13 by decide), if_neg (show ¬ (2 : Int32) = 11 by decide), if_neg (show ¬ ((2 : Int32) = 8 ∨ (2 : Int32) = 9 ∨ (2 : Int32) = 10) by decide)]
        rw [a0, a1, o_bs, o_bs]
        unfold sp2
        rw [if_pos (show (2 : Int32) = 2 from rfl), Int64.toInt32_add]
      rw [es]
      unfold fX5_performPlain
      rw [o_bs, ef, o_bs, hF, if_neg (show ¬ (2 : Int32) = 0 by decide), if_neg (show ¬ (2 : Int32) = 1 by decide), if_pos (show (2 : Int32) = 2 from rfl)]
      rw [o_bs, e7, o_bs, i0 a0, o_bs]
      simp only
      rw [e7, o_bs, i1 a1, o_bs]
      exact go_give hrc hz hV 0 _ []
    · have es : spP T c as R = some (0, (0, (x.2.toInt32 - y.2.toInt32).toInt64), R) := by
        unfold spP
        rw [hF, if_neg (show ¬ (3 : Int32) = 0 by decide), if_neg (show ¬ (3 : Int32) = 1 by decide), if_neg (show ¬ (3 : Int32) = 12 by decide), if_neg (show ¬ (3 : Int32) = 13 by decide), if_neg (show ¬ (3 : Int32) = 11 by decide), if_neg (show ¬ ((3 : Int32) = 8 ∨ (3 : Int32) = 9 ∨ (3 : Int32) = 10) by decide)]
        rw [a0, a1, o_bs, o_bs]
        unfold sp2
        rw [if_neg (show ¬ (3 : Int32) = 2 by decide), if_pos (show (3 : Int32) = 3 from rfl), Int64.toInt32_sub]
      rw [es]
      unfold fX5_performPlain
      rw [o_bs, ef, o_bs, hF, if_neg (show ¬ (3 : Int32) = 0 by decide), if_neg (show ¬ (3 : Int32) = 1 by decide), if_neg (show ¬ (3 : Int32) = 2 by decide), if_pos (show (3 : Int32) = 3 from rfl)]
      rw [o_bs, e7, o_bs, i0 a0, o_bs]
      simp only
      rw [e7, o_bs, i1 a1, o_bs]
      exact go_give hrc hz hV 0 _ []
    · have es : spP T c as R = some (0, (0, (x.2.toInt32 * y.2.toInt32).toInt64), R) := by
        unfold spP
        rw [hF, if_neg (show ¬ (4 : Int32) = 0 by decide), if_neg (show ¬ (4 : Int32) = 1 by decide), if_neg (show ¬ (4 : Int32) = 12 by decide), if_neg (show ¬ (4 : Int32) = 13 by decide), if_neg (show ¬ (4 : Int32) = 11 by decide), if_neg (show ¬ ((4 : Int32) = 8 ∨ (4 : Int32) = 9 ∨ (4 : Int32) = 10) by decide)]
        rw [a0, a1, o_bs, o_bs]
        unfold sp2
        rw [if_neg (show ¬ (4 : Int32) = 2 by decide), if_neg (show ¬ (4 : Int32) = 3 by decide), if_pos (show (4 : Int32) = 4 from rfl), Int64.toInt32_mul]
      rw [es]
      unfold fX5_performPlain
      rw [o_bs, ef, o_bs, hF, if_neg (show ¬ (4 : Int32) = 0 by decide), if_neg (show ¬ (4 : Int32) = 1 by decide), if_neg (show ¬ (4 : Int32) = 2 by decide), if_neg (show ¬ (4 : Int32) = 3 by decide), if_pos (show (4 : Int32) = 4 from rfl)]
      rw [o_bs, e7, o_bs, i0 a0, o_bs]
      simp only
      rw [e7, o_bs, i1 a1, o_bs]
      exact go_give hrc hz hV 0 _ []
    · have es : spP T c as R = if y.2.toInt32.toInt64 = 0 then some (bad 1 R) else some (0, (0, (x.2.toInt32.toInt64 / y.2.toInt32.toInt64).toInt32.toInt64), R) := by
        unfold spP
        rw [hF, if_neg (show ¬ (5 : Int32) = 0 by decide), if_neg (show ¬ (5 : Int32) = 1 by decide), if_neg (show ¬ (5 : Int32) = 12 by decide), if_neg (show ¬ (5 : Int32) = 13 by decide), if_neg (show ¬ (5 : Int32) = 11 by decide), if_neg (show ¬ ((5 : Int32) = 8 ∨ (5 : Int32) = 9 ∨ (5 : Int32) = 10) by decide)]
        rw [a0, a1, o_bs, o_bs]
        unfold sp2
        rw [if_neg (show ¬ (5 : Int32) = 2 by decide), if_neg (show ¬ (5 : Int32) = 3 by decide), if_neg (show ¬ (5 : Int32) = 4 by decide), if_pos (show (5 : Int32) = 5 from rfl), (hx.1 rfl).2, (hy.1 rfl).2]
      rw [es]
      unfold fX5_performPlain
      rw [o_bs, ef, o_bs, hF, if_neg (show ¬ (5 : Int32) = 0 by decide), if_neg (show ¬ (5 : Int32) = 1 by decide), if_neg (show ¬ (5 : Int32) = 2 by decide), if_neg (show ¬ (5 : Int32) = 3 by decide), if_neg (show ¬ (5 : Int32) = 4 by decide), if_pos (show (5 : Int32) = 5 from rfl)]
      rw [o_bs, e7, o_bs, i0 a0, o_bs]
      simp only
      rw [e7, o_bs, i1 a1, o_bs]
      simp only
      rw [e4, o_bs]
      obtain ⟨q, C2, g1, g2, g3⟩ := go_div (z := z) (ac := ac) (r := r) (d := d) (x := x.2.toInt32) (y := y.2.toInt32) hrc hz hV
      rw [g2, o_bs]
      exact ⟨q, C2, g1, rfl, g3⟩
    · have es : spP T c as R = some (0, (0, if 0 ≤ lg_cmp x.2.toInt32.toInt64 y.2.toInt32.toInt64 then 0 else 1), R) := by
        unfold spP
        rw [hF, if_neg (show ¬ (6 : Int32) = 0 by decide), if_neg (show ¬ (6 : Int32) = 1 by decide), if_neg (show ¬ (6 : Int32) = 12 by decide), if_neg (show ¬ (6 : Int32) = 13 by decide), if_neg (show ¬ (6 : Int32) = 11 by decide), if_neg (show ¬ ((6 : Int32) = 8 ∨ (6 : Int32) = 9 ∨ (6 : Int32) = 10) by decide)]
        rw [a0, a1, o_bs, o_bs]
        unfold sp2
        rw [if_neg (show ¬ (6 : Int32) = 2 by decide), if_neg (show ¬ (6 : Int32) = 3 by decide), if_neg (show ¬ (6 : Int32) = 4 by decide), if_neg (show ¬ (6 : Int32) = 5 by decide), if_pos (show (6 : Int32) = 6 from rfl), (hx.1 rfl).2, (hy.1 rfl).2]
      rw [es]
      unfold fX5_performPlain
      rw [o_bs, ef, o_bs, hF, if_neg (show ¬ (6 : Int32) = 0 by decide), if_neg (show ¬ (6 : Int32) = 1 by decide), if_neg (show ¬ (6 : Int32) = 2 by decide), if_neg (show ¬ (6 : Int32) = 3 by decide), if_neg (show ¬ (6 : Int32) = 4 by decide), if_neg (show ¬ (6 : Int32) = 5 by decide), if_pos (show (6 : Int32) = 6 from rfl)]
      rw [o_bs, e7, o_bs, i0 a0, o_bs]
      simp only
      rw [e7, o_bs, i1 a1, o_bs]
      simp only
      by_cases hb : y.2.toInt32 ≤ x.2.toInt32
      · rw [if_pos hb, if_pos (go_below.mpr hb)]
        exact go_give hrc hz hV 0 0 []
      · rw [if_neg hb, if_neg (fun e => hb (go_below.mp e))]
        exact go_give hrc hz hV 0 1 []
  · rw [ht] at hT
    obtain ⟨x, y, e1, hx, hy⟩ := two hT
    have a0 : as[0]? = some x := by rw [e1]; rfl
    have a1 : as[1]? = some y := by rw [e1]; rfl
    have es : spP T c as R = some (0, (1, x.2 + y.2), R) := by
      unfold spP
      rw [hF, if_neg (show ¬ (7 : Int32) = 0 by decide), if_neg (show ¬ (7 : Int32) = 1 by decide), if_neg (show ¬ (7 : Int32) = 12 by decide), if_neg (show ¬ (7 : Int32) = 13 by decide), if_neg (show ¬ (7 : Int32) = 11 by decide), if_neg (show ¬ ((7 : Int32) = 8 ∨ (7 : Int32) = 9 ∨ (7 : Int32) = 10) by decide)]
      rw [a0, a1, o_bs, o_bs]
      unfold sp2
      rw [if_neg (show ¬ (7 : Int32) = 2 by decide), if_neg (show ¬ (7 : Int32) = 3 by decide), if_neg (show ¬ (7 : Int32) = 4 by decide), if_neg (show ¬ (7 : Int32) = 5 by decide), if_neg (show ¬ (7 : Int32) = 6 by decide), if_pos (show (7 : Int32) = 7 from rfl)]
    rw [es]
    unfold fX5_performPlain
    rw [o_bs, ef, o_bs, hF, if_neg (show ¬ (7 : Int32) = 0 by decide), if_neg (show ¬ (7 : Int32) = 1 by decide), if_neg (show ¬ (7 : Int32) = 2 by decide), if_neg (show ¬ (7 : Int32) = 3 by decide), if_neg (show ¬ (7 : Int32) = 4 by decide), if_neg (show ¬ (7 : Int32) = 5 by decide), if_neg (show ¬ (7 : Int32) = 6 by decide), if_pos (show (7 : Int32) = 7 from rfl)]
    rw [o_bs, e7, o_bs, n0 a0, o_bs]
    simp only
    rw [e7, o_bs, n1 a1, o_bs]
    exact go_give hrc hz hV 1 _ []
  · rw [ht] at hT
    have es : spP T c as R = spO 8 as R := by
      unfold spP
      rw [hF, if_neg (show ¬ (8 : Int32) = 0 by decide), if_neg (show ¬ (8 : Int32) = 1 by decide), if_neg (show ¬ (8 : Int32) = 12 by decide), if_neg (show ¬ (8 : Int32) = 13 by decide), if_neg (show ¬ (8 : Int32) = 11 by decide), if_pos (show (8 : Int32) = 8 ∨ (8 : Int32) = 9 ∨ (8 : Int32) = 10 by decide)]
    rw [es]
    unfold fX5_performPlain
    rw [o_bs, ef, o_bs, hF, if_neg (show ¬ (8 : Int32) = 0 by decide), if_neg (show ¬ (8 : Int32) = 1 by decide), if_neg (show ¬ (8 : Int32) = 2 by decide), if_neg (show ¬ (8 : Int32) = 3 by decide), if_neg (show ¬ (8 : Int32) = 4 by decide), if_neg (show ¬ (8 : Int32) = 5 by decide), if_neg (show ¬ (8 : Int32) = 6 by decide), if_neg (show ¬ (8 : Int32) = 7 by decide), if_pos (show (8 : Int32) = 8 from rfl)]
    unfold fX5_performPlain_213
    rw [o_bs, ef, o_bs, hF, if_neg (show ¬ (8 : Int32) = 9 by decide), e4, o_bs]
    obtain ⟨q, C2, g1, g2, g3⟩ := go_reach (z := z) (ac := ac) (r := r) (d := d) (F := 8) (x2 := 0) hd hrc hz hR hV hA (Or.inl ⟨rfl, rfl, hT⟩)
    rw [g2, o_bs]
    exact ⟨q, C2, g1, rfl, g3⟩
  · rw [ht] at hT
    have es : spP T c as R = spO 9 as R := by
      unfold spP
      rw [hF, if_neg (show ¬ (9 : Int32) = 0 by decide), if_neg (show ¬ (9 : Int32) = 1 by decide), if_neg (show ¬ (9 : Int32) = 12 by decide), if_neg (show ¬ (9 : Int32) = 13 by decide), if_neg (show ¬ (9 : Int32) = 11 by decide), if_pos (show (9 : Int32) = 8 ∨ (9 : Int32) = 9 ∨ (9 : Int32) = 10 by decide)]
    rw [es]
    unfold fX5_performPlain
    rw [o_bs, ef, o_bs, hF, if_neg (show ¬ (9 : Int32) = 0 by decide), if_neg (show ¬ (9 : Int32) = 1 by decide), if_neg (show ¬ (9 : Int32) = 2 by decide), if_neg (show ¬ (9 : Int32) = 3 by decide), if_neg (show ¬ (9 : Int32) = 4 by decide), if_neg (show ¬ (9 : Int32) = 5 by decide), if_neg (show ¬ (9 : Int32) = 6 by decide), if_neg (show ¬ (9 : Int32) = 7 by decide), if_neg (show ¬ (9 : Int32) = 8 by decide), if_pos (show (9 : Int32) = 9 from rfl)]
    unfold fX5_performPlain_213
    rw [o_bs, ef, o_bs, hF, if_pos (show (9 : Int32) = 9 from rfl), e4, o_bs]
    obtain ⟨q, C2, g1, g2, g3⟩ := go_reach (z := z) (ac := ac) (r := r) (d := d) (F := 9) (x2 := 1) hd hrc hz hR hV hA (Or.inr ⟨rfl, rfl, hT⟩)
    rw [g2, o_bs]
    exact ⟨q, C2, g1, rfl, g3⟩
  · rw [ht] at hT
    have es : spP T c as R = spO 10 as R := by
      unfold spP
      rw [hF, if_neg (show ¬ (10 : Int32) = 0 by decide), if_neg (show ¬ (10 : Int32) = 1 by decide), if_neg (show ¬ (10 : Int32) = 12 by decide), if_neg (show ¬ (10 : Int32) = 13 by decide), if_neg (show ¬ (10 : Int32) = 11 by decide), if_pos (show (10 : Int32) = 8 ∨ (10 : Int32) = 9 ∨ (10 : Int32) = 10 by decide)]
    rw [es]
    unfold fX5_performPlain
    rw [o_bs, ef, o_bs, hF, if_neg (show ¬ (10 : Int32) = 0 by decide), if_neg (show ¬ (10 : Int32) = 1 by decide), if_neg (show ¬ (10 : Int32) = 2 by decide), if_neg (show ¬ (10 : Int32) = 3 by decide), if_neg (show ¬ (10 : Int32) = 4 by decide), if_neg (show ¬ (10 : Int32) = 5 by decide), if_neg (show ¬ (10 : Int32) = 6 by decide), if_neg (show ¬ (10 : Int32) = 7 by decide), if_neg (show ¬ (10 : Int32) = 8 by decide), if_neg (show ¬ (10 : Int32) = 9 by decide), if_pos (show (10 : Int32) = 10 from rfl)]
    rw [o_bs]
    exact go_len hd hrc hz hR hV hA hT
  · rw [ht] at hT
    obtain ⟨x, w1, e1, hx, t1⟩ := hT.one
    have a0 : as[0]? = some x := by rw [e1]; rfl
    obtain ⟨X, ex, ex2⟩ := vi_e (hx.1 rfl).2
    have es : spP T c as R = if lg_cmp X.toInt64 0 < 0 then some (bad 5 R) else if 0 < lg_cmp X.toInt64 20 then some (bad 6 R) else if R.2.1 = 60 then some (bad 10 R) else some (0, (2, (nI R.2.1).toInt64), rnew R X.toNatClampNeg) := by
      unfold spP
      rw [hF, if_neg (show ¬ (11 : Int32) = 0 by decide), if_neg (show ¬ (11 : Int32) = 1 by decide), if_neg (show ¬ (11 : Int32) = 12 by decide), if_neg (show ¬ (11 : Int32) = 13 by decide), if_pos (show (11 : Int32) = 11 from rfl)]
      rw [a0, o_bs, ex, Int32.toInt32_toInt64]
    rw [es]
    unfold fX5_performPlain
    rw [o_bs, ef, o_bs, hF, if_neg (show ¬ (11 : Int32) = 0 by decide), if_neg (show ¬ (11 : Int32) = 1 by decide), if_neg (show ¬ (11 : Int32) = 2 by decide), if_neg (show ¬ (11 : Int32) = 3 by decide), if_neg (show ¬ (11 : Int32) = 4 by decide), if_neg (show ¬ (11 : Int32) = 5 by decide), if_neg (show ¬ (11 : Int32) = 6 by decide), if_neg (show ¬ (11 : Int32) = 7 by decide), if_neg (show ¬ (11 : Int32) = 8 by decide), if_neg (show ¬ (11 : Int32) = 9 by decide), if_neg (show ¬ (11 : Int32) = 10 by decide), if_pos (show (11 : Int32) = 11 from rfl)]
    rw [o_bs, e7, o_bs, i0 a0, o_bs]
    simp only
    rw [e4, o_bs, ex2]
    obtain ⟨q, C2, g1, g2, g3⟩ := go_row (z := z) (ac := ac) (r := r) (d := d) (x := X) hrc hz hR hV
    rw [g2, o_bs]
    exact ⟨q, C2, g1, rfl, g3⟩
  · have es : spP T c as R = some (bad (100 + tI T 10 c) R) := by
      unfold spP
      rw [hF, if_neg (show ¬ (12 : Int32) = 0 by decide), if_neg (show ¬ (12 : Int32) = 1 by decide), if_pos (show (12 : Int32) = 12 from rfl)]
    rw [es]
    unfold fX5_performPlain
    rw [o_bs, ef, o_bs, hF, if_neg (show ¬ (12 : Int32) = 0 by decide), if_neg (show ¬ (12 : Int32) = 1 by decide), if_neg (show ¬ (12 : Int32) = 2 by decide), if_neg (show ¬ (12 : Int32) = 3 by decide), if_neg (show ¬ (12 : Int32) = 4 by decide), if_neg (show ¬ (12 : Int32) = 5 by decide), if_neg (show ¬ (12 : Int32) = 6 by decide), if_neg (show ¬ (12 : Int32) = 7 by decide), if_neg (show ¬ (12 : Int32) = 8 by decide), if_neg (show ¬ (12 : Int32) = 9 by decide), if_neg (show ¬ (12 : Int32) = 10 by decide), if_neg (show ¬ (12 : Int32) = 11 by decide), if_pos (show (12 : Int32) = 12 from rfl)]
    rw [eb, o_bs]
    exact go_bad hrc hz hV (hb hF)
  · have es : spP T c as R = some (0, (0, (R.2.2.2.2 + 1).toInt64), rcnt R) := by
      unfold spP
      rw [hF, if_neg (show ¬ (13 : Int32) = 0 by decide), if_neg (show ¬ (13 : Int32) = 1 by decide), if_neg (show ¬ (13 : Int32) = 12 by decide), if_pos (show (13 : Int32) = 13 from rfl)]
    rw [es]
    unfold fX5_performPlain
    rw [o_bs, ef, o_bs, hF, if_neg (show ¬ (13 : Int32) = 0 by decide), if_neg (show ¬ (13 : Int32) = 1 by decide), if_neg (show ¬ (13 : Int32) = 2 by decide), if_neg (show ¬ (13 : Int32) = 3 by decide), if_neg (show ¬ (13 : Int32) = 4 by decide), if_neg (show ¬ (13 : Int32) = 5 by decide), if_neg (show ¬ (13 : Int32) = 6 by decide), if_neg (show ¬ (13 : Int32) = 7 by decide), if_neg (show ¬ (13 : Int32) = 8 by decide), if_neg (show ¬ (13 : Int32) = 9 by decide), if_neg (show ¬ (13 : Int32) = 10 by decide), if_neg (show ¬ (13 : Int32) = 11 by decide), if_neg (show ¬ (13 : Int32) = 12 by decide)]
    rw [e4, o_bs]
    obtain ⟨q, C2, g1, g2, g3⟩ := go_count (z := z) (ac := ac) (r := r) (d := d) hrc hz hV
    rw [g2, o_bs]
    exact ⟨q, C2, g1, rfl, g3⟩
end
