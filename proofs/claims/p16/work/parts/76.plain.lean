/-! CLASS AND REFERENCE: plain, whole. My own rows. -/
theorem in_k {x : Int32} {n : Nat} {w : Int64} (hn : n ≤ 60) (hw : (nI n - 1).toInt64 = w) (h : ¬ inI x.toInt64 0 w = 0) : ∃ j, j < n ∧ x = nI j := by
  rw [← hw] at h
  obtain ⟨k, hk, e⟩ := in_lN h hn
  exact ⟨k, hk, by rw [← Int32.toInt32_toInt64 x, e, lN_i]⟩
theorem in_100 {x : Int32} (h : ¬ inI x.toInt64 0 99 = 0) : 0 ≤ 100 + x ∧ 100 + x ≠ 0 := by
  unfold inI at h
  have c1 : ¬ lg_cmp x.toInt64 0 < 0 := fun q => h (by rw [if_pos q])
  have c2 : ¬ 0 < lg_cmp x.toInt64 99 := fun q => h (by rw [if_neg c1, if_pos q])
  rw [lg_cmp_lt, Int64.lt_iff_toInt_lt, Int32.toInt_toInt64] at c1
  rw [lg_cmp_gt, Int64.lt_iff_toInt_lt, Int32.toInt_toInt64] at c2
  have z0 : (0 : Int64).toInt = 0 := rfl
  have z99 : (99 : Int64).toInt = 99 := rfl
  rw [z0] at c1
  rw [z99] at c2
  have e : (100 + x).toInt = 100 + x.toInt := by
    rw [Int32.toInt_add]
    show (100 + x.toInt).bmod (2 ^ 32) = _
    rw [Int.bmod_eq_of_le (by omega) (by omega)]
  refine ⟨?_, fun q => ?_⟩
  · rw [Int32.le_iff_toInt_le, e]; show (0 : Int) ≤ _; omega
  · have : (100 + x).toInt = (0 : Int32).toInt := by rw [q]
    rw [e] at this
    have z0 : (0 : Int32).toInt = 0 := rfl
    omega
section
variable {z : Nat → Nat} {ac : Nat} {r : aH} {C : cS}
theorem c_hinit {x ty : Nat} (F b : Int32) (ho : out ac x) (hx : ac + 197 ≤ x) (h0 : r.2.2 x = some (.inr (0, dz0))) : fX1_init z x F (some ty) b (co ac C r) = some (co ac C (hup r x (.inr (0, [.inl F, rfV ty, .inl b])))) := by
  have hh : ∀ (e e2 : aE), hup (hup r x e) x e2 = hup r x e2 := fun e e2 => by
    unfold hup
    simp only
    congr 2
    funext y
    by_cases hy : y = x
    · rw [if_pos hy, if_pos hy]
    · rw [if_neg hy, if_neg hy, if_neg hy]
  have ha : ∀ e : aE, (hup r x e).2.2 x = some e := fun e => by show (if x = x then _ else _) = _; rw [if_pos rfl]
  unfold fX1_init wrF
  rw [p_at ho h0]
  simp only
  rw [if_pos (by decide), o_bs, co_hupo (by omega), p_at ho (ha _)]
  simp only
  rw [if_pos (by decide), o_bs, co_hupo (by omega), hh, p_at ho (ha _)]
  simp only
  rw [if_pos (by decide), o_bs, co_hupo (by omega), hh]
  rfl
theorem c_keepH {x nh c : Nat} {fs : List aV} (n0 : C.1 0 = nI nh) (h60 : nh < 60) (ho : out ac x) (h0 : r.2.2 x = some (.inr (c, fs))) (hc : c ∈ [0, 1]) : fX10_keepHandle z ac (some x) (co ac C r) = some (nI nh, co ac (cI (cR C 0 nh (some x)) 0 (nI (nh + 1))) r) := by
  unfold fX10_keepHandle
  rw [q_hs, o_bs, q_hc, o_bs, o_bs, o_bs, n0, w_hs ac C r h60 (by unfold out at ho; omega) h0 hc, o_bs, q_hc, o_bs, w_hc, o_bs, q_hc, o_bs]
  have e : (cR C 0 nh (some x)).1 0 = nI nh := n0
  rw [e, nI_1]
  have e2 : (cI (cR C 0 nh (some x)) 0 (nI (nh + 1))).1 0 = nI (nh + 1) := by simp [cI, va_up]
  rw [e2, nI_p1]
theorem c_p24 {f0 : Nat → Int32} {tg nh : Nat} (n0 : C.1 0 = nI nh) (h60 : nh < 60) (hF : FRS r) (hr : ac + 228 ≤ r.1) (hz : out ac (z 0)) (hz0 : r.2.2 (z 0) = some (.inl (tg, 0, .inl f0))) {F a b : Int32} (hV : pV F a b) : ∃ r2, fX10_plain_24 z ac F a b (co ac C r) = some (nI nh, co ac (cI (cR C 0 nh (some r.1)) 0 (nI (nh + 1))) r2) ∧ GX ac 3 11 r r2 ∧ r2.2.2 r.1 = some (.inr (0, [.inl F, rfV (r.1 + 1), .inl b])) ∧ aTy ac r2 (r.1 + 1) (pTs F a) (pGv F a) := by
  have hF1 := hF.new 3 (.inr (0, dz0))
  obtain ⟨r2, e, g, t⟩ := c_ofPlain (ac := ac) (z := z) (C := C) (r := hnew r 3 (.inr (0, dz0))) hF1 (show ac + 228 ≤ r.1 + 1 by omega) hz (new_old hF _ _ hz0) F a
  have hc : r2.2.2 r.1 = some (.inr (0, dz0)) := g.2.1 _ _ (new_at r _ _)
  have ho : out ac r.1 := by unfold out; omega
  have e2 := c_hinit (z := z) (ac := ac) (C := C) (r := r2) (x := r.1) (ty := r.1 + 1) F b ho (by omega) hc
  have hcell : (hup r2 r.1 (.inr (0, [.inl F, rfV (r.1 + 1), .inl b]))).2.2 r.1 = some (.inr (0, [.inl F, rfV (r.1 + 1), .inl b])) := by show (if r.1 = r.1 then _ else _) = _; rw [if_pos rfl]
  have e3 := c_keepH (z := z) (ac := ac) (C := C) (x := r.1) n0 h60 ho hcell (by decide)
  obtain ⟨fs, o8⟩ : ∃ fs, obO (co ac C (hup r2 r.1 (.inr (0, [.inl F, rfV (r.1 + 1), .inl b])))) ac 8 = some fs := q_o8 ac C _
  refine ⟨_, ?_, ?_, hcell, t.hup hc (by decide)⟩
  · unfold fX10_plain_24
    rw [(c_fitsP F a b).1 hV, o_bs]
    simp only
    rw [if_neg (by decide), q_hc, o_bs, n0, if_pos (show nI nh < 60 from nI_lt (b := 60) h60 (by decide)), co_hnew (by omega), e, o_bs]
    show ((fX1_init z r.1 F (some (r.1 + 1)) b (co ac C r2)).bind fun q104 => (obO q104 ac 8).bind fun _ => (fX10_keepHandle z ac (some r.1) q104).bind fun q105 => some (q105.1, q105.2)) = _
    rw [e2, o_bs, o8, o_bs, e3, o_bs]
  · have g1 := (GX.new hF (show ac ≤ r.1 by omega) 3 (.inr (0, dz0))).tr g
    exact (g1.hup (hF r.1 (Nat.le_refl _)) hc (by omega)).up (by decide) (by decide)
end
/-- the new handle is well made -/
theorem p_new {S1 S2 : mS} {nh nr : Nat} {F a b : Int32} (hV : pV F a b) (hQ : F = 0 → a = 3 → ∃ k, k < nr ∧ b = nI k) (N : NHo S1 S2 nh (pTs F a) F (pGv F a) 0 0 0 a b) : (pTs F a).length ≤ 6 ∧ WTc S2 (nh + 1) nh ∧ (tI S2 2 nh = 12 → 0 ≤ 100 + tI S2 10 nh ∧ 100 + tI S2 10 nh ≠ 0) ∧ YP S2 nr nh ∧ (isT (tI S2 5 nh) ∧ ∀ k, k < tN S2 3 nh → (tI S2 4 (6 * nh + k) = 0 ∨ tI S2 4 (6 * nh + k) = 1 ∨ tI S2 4 (6 * nh + k) = 2 ∨ tI S2 4 (6 * nh + k) = 3)) := by
  obtain ⟨j, hj, hF⟩ := in_k (n := 14) (by decide) (by decide) hV.1
  have h6 : (pTs F a).length ≤ 6 := by
    unfold pTs
    repeat' split
    all_goals simp
  obtain ⟨t3, tt⟩ := N.ty h6
  obtain ⟨-, n2, n3, n4, -, ⟨n5, -, -, -, n9, n10⟩, -, -⟩ := N
  have f2 : tI S2 2 nh = F := n2
  have f5 : tI S2 5 nh = pGv F a := n5
  have f9 : tI S2 9 nh = a := n9
  have f10 : tI S2 10 nh = b := n10
  refine ⟨h6, ⟨by rw [t3]; exact n3, by rw [t3]; exact h6, Or.inl ⟨j, hj, by rw [f2]; exact hF⟩⟩, fun q => ?_, ?_, ?_, fun k hk => ?_⟩
  · rw [f2] at q
    rw [f10]
    exact in_100 (hV.2.2.2 q)
  · unfold YP
    simp only [f2, f5, f9, f10, tt]
    subst hF
    obtain rfl | rfl | rfl | rfl | rfl | rfl | rfl | rfl | rfl | rfl | rfl | rfl | rfl | rfl : j = 0 ∨ j = 1 ∨ j = 2 ∨ j = 3 ∨ j = 4 ∨ j = 5 ∨ j = 6 ∨ j = 7 ∨ j = 8 ∨ j = 9 ∨ j = 10 ∨ j = 11 ∨ j = 12 ∨ j = 13 := by omega
    · obtain ⟨q, hq, ea⟩ := in_k (n := 5) (by decide) (by decide) (hV.2.1 (Or.inl rfl))
      refine Or.inl ⟨rfl, rfl, rfl, ?_, fun e => hQ rfl e⟩
      unfold isT
      rw [ea]
      obtain rfl | rfl | rfl | rfl | rfl : q = 0 ∨ q = 1 ∨ q = 2 ∨ q = 3 ∨ q = 4 := by omega
      · exact Or.inl rfl
      · exact Or.inr (Or.inl rfl)
      · exact Or.inr (Or.inr (Or.inl rfl))
      · exact Or.inr (Or.inr (Or.inr (Or.inl rfl)))
      · exact Or.inr (Or.inr (Or.inr (Or.inr rfl)))
    · exact Or.inr (Or.inl (⟨rfl, rfl⟩))
    · exact Or.inr (Or.inr (Or.inl (⟨(Or.inl rfl), rfl, rfl⟩)))
    · exact Or.inr (Or.inr (Or.inl (⟨(Or.inr (Or.inl rfl)), rfl, rfl⟩)))
    · exact Or.inr (Or.inr (Or.inl (⟨(Or.inr (Or.inr (Or.inl rfl))), rfl, rfl⟩)))
    · exact Or.inr (Or.inr (Or.inl (⟨(Or.inr (Or.inr (Or.inr (Or.inl rfl)))), rfl, rfl⟩)))
    · exact Or.inr (Or.inr (Or.inl (⟨(Or.inr (Or.inr (Or.inr (Or.inr rfl)))), rfl, rfl⟩)))
    · exact Or.inr (Or.inr (Or.inr (Or.inl (⟨rfl, rfl, rfl⟩))))
    · exact Or.inr (Or.inr (Or.inr (Or.inr (Or.inl (⟨rfl, rfl, rfl⟩)))))
    · exact Or.inr (Or.inr (Or.inr (Or.inr (Or.inr (Or.inl (⟨rfl, rfl, rfl⟩))))))
    · exact Or.inr (Or.inr (Or.inr (Or.inr (Or.inr (Or.inr (Or.inl (⟨rfl, rfl, rfl⟩)))))))
    · exact Or.inr (Or.inr (Or.inr (Or.inr (Or.inr (Or.inr (Or.inr (Or.inl (⟨rfl, rfl, rfl⟩))))))))
    · exact Or.inr (Or.inr (Or.inr (Or.inr (Or.inr (Or.inr (Or.inr (Or.inr (Or.inl (⟨rfl, rfl⟩)))))))))
    · exact Or.inr (Or.inr (Or.inr (Or.inr (Or.inr (Or.inr (Or.inr (Or.inr (Or.inr ((⟨rfl, rfl, rfl⟩))))))))))
  · rw [f5]
    subst hF
    obtain rfl | rfl | rfl | rfl | rfl | rfl | rfl | rfl | rfl | rfl | rfl | rfl | rfl | rfl : j = 0 ∨ j = 1 ∨ j = 2 ∨ j = 3 ∨ j = 4 ∨ j = 5 ∨ j = 6 ∨ j = 7 ∨ j = 8 ∨ j = 9 ∨ j = 10 ∨ j = 11 ∨ j = 12 ∨ j = 13 := by omega
    · obtain ⟨q, hq, ea⟩ := in_k (n := 5) (by decide) (by decide) (hV.2.1 (Or.inl rfl))
      show isT a
      rw [ea]
      unfold isT
      obtain rfl | rfl | rfl | rfl | rfl : q = 0 ∨ q = 1 ∨ q = 2 ∨ q = 3 ∨ q = 4 := by omega
      · exact Or.inl rfl
      · exact Or.inr (Or.inl rfl)
      · exact Or.inr (Or.inr (Or.inl rfl))
      · exact Or.inr (Or.inr (Or.inr (Or.inl rfl)))
      · exact Or.inr (Or.inr (Or.inr (Or.inr (rfl))))
    · obtain ⟨q, hq, ea⟩ := in_k (n := 4) (by decide) (by decide) (hV.2.2.1 rfl)
      show isT a
      rw [ea]
      unfold isT
      obtain rfl | rfl | rfl | rfl : q = 0 ∨ q = 1 ∨ q = 2 ∨ q = 3 := by omega
      · exact Or.inl rfl
      · exact Or.inr (Or.inl rfl)
      · exact Or.inr (Or.inr (Or.inl rfl))
      · exact Or.inr (Or.inr (Or.inr (Or.inl rfl)))
    · exact Or.inl rfl
    · exact Or.inl rfl
    · exact Or.inl rfl
    · exact Or.inl rfl
    · exact Or.inl rfl
    · exact Or.inr (Or.inl rfl)
    · exact Or.inl rfl
    · exact Or.inr (Or.inr (Or.inr (Or.inr (rfl))))
    · exact Or.inl rfl
    · exact Or.inr (Or.inr (Or.inr (Or.inl rfl)))
    · obtain ⟨q, hq, ea⟩ := in_k (n := 5) (by decide) (by decide) (hV.2.1 (Or.inr rfl))
      show isT a
      rw [ea]
      unfold isT
      obtain rfl | rfl | rfl | rfl | rfl : q = 0 ∨ q = 1 ∨ q = 2 ∨ q = 3 ∨ q = 4 := by omega
      · exact Or.inl rfl
      · exact Or.inr (Or.inl rfl)
      · exact Or.inr (Or.inr (Or.inl rfl))
      · exact Or.inr (Or.inr (Or.inr (Or.inl rfl)))
      · exact Or.inr (Or.inr (Or.inr (Or.inr (rfl))))
    · exact Or.inl rfl
  · rw [t3] at hk
    show S2.2.2.1 4 (6 * nh + k) = 0 ∨ S2.2.2.1 4 (6 * nh + k) = 1 ∨ S2.2.2.1 4 (6 * nh + k) = 2 ∨ S2.2.2.1 4 (6 * nh + k) = 3
    rw [n4 k hk]
    have key : ∀ t, t ∈ pTs F a → (t = 0 ∨ t = 1 ∨ t = 2 ∨ t = 3) := by
      subst hF
      obtain rfl | rfl | rfl | rfl | rfl | rfl | rfl | rfl | rfl | rfl | rfl | rfl | rfl | rfl : j = 0 ∨ j = 1 ∨ j = 2 ∨ j = 3 ∨ j = 4 ∨ j = 5 ∨ j = 6 ∨ j = 7 ∨ j = 8 ∨ j = 9 ∨ j = 10 ∨ j = 11 ∨ j = 12 ∨ j = 13 := by omega
      · intro t ht; exact absurd ht (List.not_mem_nil)
      · obtain ⟨q, hq, ea⟩ := in_k (n := 4) (by decide) (by decide) (hV.2.2.1 rfl)
        intro t ht
        have : t = a := List.mem_singleton.mp ht
        rw [this, ea]
        obtain rfl | rfl | rfl | rfl : q = 0 ∨ q = 1 ∨ q = 2 ∨ q = 3 := by omega
        · exact Or.inl rfl
        · exact Or.inr (Or.inl rfl)
        · exact Or.inr (Or.inr (Or.inl rfl))
        · exact Or.inr (Or.inr (Or.inr rfl))
      · intro t ht
        have ht : t ∈ ([0, 0] : List Int32) := ht
        simp at ht
        simp [ht]
      · intro t ht
        have ht : t ∈ ([0, 0] : List Int32) := ht
        simp at ht
        simp [ht]
      · intro t ht
        have ht : t ∈ ([0, 0] : List Int32) := ht
        simp at ht
        simp [ht]
      · intro t ht
        have ht : t ∈ ([0, 0] : List Int32) := ht
        simp at ht
        simp [ht]
      · intro t ht
        have ht : t ∈ ([0, 0] : List Int32) := ht
        simp at ht
        simp [ht]
      · intro t ht
        have ht : t ∈ ([1, 1] : List Int32) := ht
        simp at ht
        simp [ht]
      · intro t ht
        have ht : t ∈ ([3, 0] : List Int32) := ht
        simp at ht
        rcases ht with ht | ht <;> simp [ht]
      · intro t ht
        have ht : t ∈ ([3, 0, 0] : List Int32) := ht
        simp at ht
        rcases ht with ht | ht <;> simp [ht]
      · intro t ht
        have ht : t ∈ ([3] : List Int32) := ht
        simp at ht
        simp [ht]
      · intro t ht
        have ht : t ∈ ([0] : List Int32) := ht
        simp at ht
        simp [ht]
      · intro t ht; exact absurd ht (List.not_mem_nil)
      · intro t ht; exact absurd ht (List.not_mem_nil)
    rw [List.getD_eq_getElem?_getD, List.getElem?_eq_getElem hk]
    exact key _ (List.getElem_mem hk)
theorem j_plain {z : Nat → Nat} {ac : Nat} {T S : mS} {r : aH} {ha sa : Nat → Nat} {nh ns tg : Nat} {vs : List aVl} {R : aRS} {C : cS} {f0 : Nat → Int32} (M : MI T S nh ns vs R) (X : CX ac T r ha sa nh ns vs R S C) (hlow : ∀ s, s < ns → ac ≤ sa s) (hF : FRS r) (hr : ac + 228 ≤ r.1) (hz : out ac (z 0)) (hz0 : r.2.2 (z 0) = some (.inl (tg, 0, .inl f0))) (F a b : Int32) : JS ac S r (fX10_plain z ac F a b (co ac C (mo (ac + 197) S r))) (gX11_plain F a b S) := by
  have X1 := cx_mo X S
  obtain ⟨⟨n0, HO⟩, -, ⟨hv, hV⟩, ⟨hrc, hzr⟩, -⟩ := id X1
  have hR := M.2.2.1.1
  have h60 := M.2.1.1.1
  have M0 := M.z
  by_cases hQ : F = 0 ∧ a = 3 ∧ ∀ k, k < R.2.1 → b.toInt64 ≠ lN k
  · obtain ⟨q1, q2, q3⟩ := hQ
    refine js_jr hlow (j_no (a := -2) M X1 ?_ ?_)
    · unfold fX10_plain
      rw [if_pos q1, if_pos q2]
      simp only [q_ro, o_bs, o3, c_has0 hrc hR.1 q3, if_true]
    · unfold gX11_plain
      rw [if_pos q1, if_pos q2, g_isRow M0.2.2.1.2.2.1, o_bs]
      rcases in_l (j := b.toInt64) hR.1 with ⟨k, hk, ek, -⟩ | ⟨-, zz⟩
      · exact absurd ek (q3 k hk)
      · rw [zz, if_pos rfl]
  · have hQ2 : F = 0 → a = 3 → ∃ k, k < R.2.1 ∧ b = nI k := fun q1 q2 => by
      apply Classical.byContradiction
      intro q
      exact hQ ⟨q1, q2, fun k hk e => q ⟨k, hk, by rw [← Int32.toInt32_toInt64 b, e, lN_i]⟩⟩
    have ec : fX10_plain z ac F a b (co ac C (mo (ac + 197) S r)) = fX10_plain_24 z ac F a b (co ac C (mo (ac + 197) S r)) := by
      unfold fX10_plain
      by_cases q1 : F = 0
      · rw [if_pos q1]
        by_cases q2 : a = 3
        · rw [if_pos q2]
          obtain ⟨k, hk, eb⟩ := hQ2 q1 q2
          have eh : fX4_has z (ac + 3) (Int32.toInt64 b) (co ac C (mo (ac + 197) S r)) = some (1, co ac C (mo (ac + 197) S r)) := by
            rw [eb, nI_l (by have := hR.1; omega)]
            exact c_has1 hrc hR.1 hk
          simp only [q_ro, o_bs, o3, eh]
          rw [if_neg (by decide)]
        · rw [if_neg q2]
      · rw [if_neg q1]
    have eg : gX11_plain F a b S = gX11_plain_26 F a b (sI S 0 0) := by
      unfold gX11_plain
      by_cases q1 : F = 0
      · rw [if_pos q1]
        by_cases q2 : a = 3
        · rw [if_pos q2, g_isRow M0.2.2.1.2.2.1, o_bs]
          obtain ⟨k, hk, eb⟩ := hQ2 q1 q2
          rw [eb, in_1 hk hR.1, if_neg (show ¬ (1 : Int32) = 0 by decide)]
        · rw [if_neg q2]
      · rw [if_neg q1]
    rw [ec, eg]
    by_cases hp : pV F a b
    · rw [(g_p26 F a b _).1 hp]
      by_cases hn : nh = 60
      · refine js_jr hlow (j_no (a := -5) M X1 ?_ ?_)
        · unfold fX10_plain_24
          rw [(c_fitsP F a b).1 hp, o_bs]
          simp only
          rw [if_neg (by decide), q_hc, o_bs, n0, hn, if_neg (by decide)]
        · unfold gX11_plain_98
          rw [M0.1.2, hn, if_pos (by decide)]
      · have hn60 : nh < 60 := by omega
        obtain ⟨S1, S2, e, q, N⟩ := g_p98 (S := sI S 0 0) hn60 M0.1.2 F a b
        obtain ⟨r2, e2, G, hcell, ht⟩ := c_p24 (z := z) (ac := ac) (C := C) (r := mo (ac + 197) S r) n0 hn60 (frs_mo hF hr) (show ac + 228 ≤ r.1 from hr) hz (by rw [mo_out _ _ _ (out_mo hz)]; exact hz0) hp
        obtain ⟨r3, er, G3⟩ := G.om hr hF
        subst er
        have qa : eqB (fun k => k == 0 || (decide (27 ≤ k ∧ k ≤ 31))) S S1 := (eqB.I rfl).tr (q.mono fun k hk => by simp at hk ⊢; omega)
        have E := N.tE M.1.1 qa
        obtain ⟨h6, nW, nB, nY, nA⟩ := p_new hp hQ2 N
        obtain ⟨t3, tt⟩ := N.ty h6
        have qb : eqB (fun k => decide (k ≤ 10) || decide (27 ≤ k ∧ k ≤ 31)) S S2 := (qa.mono fun k hk => by simp at hk ⊢; omega).tr (N.2.2.2.2.2.2.2.mono fun k hk => by unfold fNH; simp at hk ⊢; omega)
        have M2 := M.new qb (fun k hk => by simp; omega) hn60 E N.1 nW nB (Or.inl nY) nA
        obtain ⟨j, hj, hFj⟩ := in_k (n := 14) (by decide) (by decide) hp.1
        have ocell : r3.2.2 r.1 = some (.inr (0, [.inl F, rfV (r.1 + 1), .inl b])) := by
          have ho : out ac r.1 := by unfold out; omega
          rw [← mo_out (ac + 197) S r3 (out_mo ho)]
          exact hcell
        have ht3 : aTy ac r3 (r.1 + 1) (pTs F a) (pGv F a) := ht.ex fun x e a _ hx => by rw [← mo_out (ac + 197) S r3 (out_mo a)]; exact hx
        have hN : hOk ac S2 r3 (haN ha nh r.1) nh := by
          refine ⟨by rw [haN_eq]; unfold out; omega, r.1 + 1, ?_, Or.inl ⟨j, hj, ?_, ?_⟩⟩
          · rw [tt, show tI S2 5 nh = pGv F a from N.2.2.2.2.2.1.1]; exact ht3
          · rw [show tI S2 2 nh = F from N.2.1]; exact hFj
          · rw [haN_eq, show tI S2 2 nh = F from N.2.1, show tI S2 10 nh = b from N.2.2.2.2.2.1.2.2.2.2.2]; exact ocell
        refine ⟨nI nh, _, S2, S2, r3, haN ha nh r.1, sa, nh + 1, ns, vs, R, e2, e, M2, X.new M.2.1.1 E G3 (sq_e qb rfl rfl rfl rfl rfl rfl) hN, ⟨fun _ => G3.1, G3.2.2.1, by have := G3.2.2.2.1; omega, by have := G3.2.2.2.2.1; omega, G3.2.2.2.2.2⟩, hlow⟩
    · refine js_jr hlow (j_no (a := -3) M X1 ?_ ((g_p26 F a b _).2 hp))
      unfold fX10_plain_24
      rw [(c_fitsP F a b).2 hp, o_bs, if_pos rfl]

