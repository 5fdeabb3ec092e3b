/-! CLASS AND REFERENCE: run, about, linked, results, told. My own rows. -/
section
variable {z : Nat → Nat} {ac : Nat} {T S : mS} {r : aH} {ha sa : Nat → Nat} {nh ns : Nat} {vs : List aVl} {R : aRS} {C : cS}
theorem c_end (f : Int32) : fX10_endRun z ac f (co ac C r) = some (tlR f, co ac (cJ (cI (cI C 3 f) 2 (if f = 0 then C.1 7 else 3)) 0 (if f = 0 then C.2.1 1 else 0)) r) := by
  unfold fX10_endRun tlR
  obtain ⟨fs, o8⟩ := o8 ac r (cI C 3 f)
  rw [w_lf, o_bs]
  by_cases h0 : f = 0
  · rw [if_pos h0, if_pos h0, if_pos h0, if_pos h0]
    simp only [q_rn, o_bs, q_gk, q_gn, o8, c_keep]
    rfl
  · rw [if_neg h0, if_neg h0, if_neg h0, if_neg h0]
    simp only [o8, o_bs, c_keep]
theorem lp_end (C : cS) (f k : Int32) (n : Int64) : lpt C (cJ (cI (cI C 3 f) 2 k) 0 n) := ⟨fun i h1 h2 => by simp only [cJ, cI]; rw [up_ne _ _ h1, up_ne _ _ h2], by simp only [cJ, cI]; rw [up_ne _ _ (by decide)], rfl⟩
/-- a run's end: what the class keeps, beside what the reference keeps -/
theorem CX.run (X : CX ac T r ha sa nh ns vs R S C) {C1 : cS} {S2 : mS} {q : aRes} (k : kpt 0 C C1) (hV : VF C1) (hr : rc q.2.2 C1) (hz : RZ q.2.2) (hg : q.1 = 0 → C1.1 7 = q.2.1.1 ∧ C1.2.1 1 = q.2.1.2) (e : S2.2.2.1 17 = S.2.2.1 17 ∧ S2.2.2.1 18 = S.2.2.1 18 ∧ S2.2.2.1 19 = S.2.2.1 19) (d1 : S2.1 26 = q.1) (d2 : S2.1 23 = (if q.1 = 0 then q.2.1.1 else 3)) (d3 : S2.2.1 24 = (if q.1 = 0 then q.2.1.2 else 0)) : CX ac T r ha sa nh ns vs q.2.2 S2 (cJ (cI (cI C1 3 q.1) 2 (if q.1 = 0 then C1.1 7 else 3)) 0 (if q.1 = 0 then C1.2.1 1 else 0)) := by
  have lp := lp_end C1 q.1 (if q.1 = 0 then C1.1 7 else 3) (if q.1 = 0 then C1.2.1 1 else 0)
  obtain ⟨k1, k2, k3, k4⟩ := id k
  refine X.to ⟨by rw [lp.1 0 (by decide) (by decide), k1 0 (by decide)], by rw [lp.1 1 (by decide) (by decide), k1 1 (by decide)], by rw [lp.2.2, k3]⟩ e ⟨lp.cv (X.2.2.1.1.k k (Nat.le_refl _)), lp.vf hV⟩ ⟨lp.rc hr, hz⟩ ⟨?_, ?_, ?_⟩
  · rw [d2]
    simp only [cJ, cI, up_eq]
    by_cases h0 : q.1 = 0
    · rw [if_pos h0, if_pos h0, (hg h0).1]
    · rw [if_neg h0, if_neg h0]
  · rw [d3]
    simp only [cJ, cI, up_eq]
    by_cases h0 : q.1 = 0
    · rw [if_pos h0, if_pos h0, (hg h0).2]
    · rw [if_neg h0, if_neg h0]
  · rw [d1]
    simp [cJ, cI, va_up]
theorem j_run (M : MI T S nh ns vs R) (X : CX ac T r ha sa nh ns vs R S C) (x ex : Int32) : JR ac T r ha sa nh ns (fX10_run z ac x ex (co ac C r)) (gX11_run x ex S) := by
  obtain ⟨⟨n0, HO⟩, -, ⟨hv, hV⟩, ⟨hrc, hz⟩, l1, l2, l3⟩ := id X
  obtain ⟨⟨m1, m2⟩, ⟨m3, m4, m5, m6⟩, ⟨m7, m8⟩, ⟨m9, m10⟩, m11, m12, m13⟩ := id M
  obtain ⟨fs, o8⟩ : ∃ fs, obO (co ac C r) ac 8 = some fs := q_o8 ac C r
  rcases c_handle (z := z) X m3.1 x with ⟨c, hc, rfl, e⟩ | ⟨hx, e⟩
  · obtain ⟨f, v, R2, S2, g1, g2, M2, d1, d2, d3, q, hf, hle⟩ := g_run M hc ex
    have sq : S2.2.2.1 17 = S.2.2.1 17 ∧ S2.2.2.1 18 = S.2.2.1 18 ∧ S2.2.2.1 19 = S.2.2.1 19 := ⟨(q 17 rfl).2.2.1.symm, (q 18 rfl).2.2.1.symm, (q 19 rfl).2.2.1.symm⟩
    obtain ⟨ty, ft, b1, b2, b3, b4, b5, b6⟩ := h_ty2 (HO c hc).2
    obtain ⟨f1, C1, e1, r1, V1, k1, w1, w2⟩ := c_begin (z := z) (ac := ac) (ex := ex) hv hV hrc m10 b1 (m6 c hc).2
    have key : ∃ C2, fX10_run z ac (nI c) ex (co ac C r) = (fX10_endRun z ac f (co ac C2 r)).bind (fun q => some (q.1, q.2)) ∧ kpt 0 C C2 ∧ VF C2 ∧ rc R2 C2 ∧ RZ R2 ∧ (f = 0 → C2.1 7 = v.1 ∧ C2.2.1 1 = v.2) := by
      unfold fX10_run
      simp only [o8, o_bs, e, Option.elim, q_rn, q_gv, b2, o4, e1]
      unfold rn at g1
      by_cases hw : isW T c ex vs = true
      · rw [if_pos hw] at g1
        obtain ⟨e71, e72, e73⟩ : 7 = f ∧ (0, 0) = v ∧ (0, R.2) = R2 := by
          have := Option.some.inj g1
          exact ⟨congrArg Prod.fst this, congrArg (fun q => q.2.1) this, congrArg (fun q => q.2.2) this⟩
        subst e71
        subst e73
        rw [w1 hw, if_neg (by decide)]
        obtain ⟨fs1, o81⟩ : ∃ fs, obO (co ac C1 r) ac 8 = some fs := q_o8 ac C1 r
        rw [o81, o_bs]
        exact ⟨C1, rfl, k1, V1, r1, hz, fun q => absurd q (by decide)⟩
      · rw [if_neg hw] at g1
        obtain ⟨w3, w4⟩ := w2 hw
        unfold rnS at g1
        by_cases h0 : f1 = 0
        · rw [if_pos (w3.symm.trans h0)] at g1
          rw [if_pos h0]
          have hw2 : vs.length = tN T 3 c ∧ wrL T c ex 0 vs = false := by
            unfold isW at hw
            simp at hw
            exact hw
          have hvt : VTs R.2.1 (tys T c) (layL T c 0 vs).2 := by
            unfold tys
            rw [List.range_eq_range']
            exact lay_vts (ex := ex) (tN T 3 c) 0 vs hw2.1 (fun j _ h2 => (m6 c hc).2 j (by omega)) m10 hw2.2 (w3.symm.trans h0)
          obtain ⟨p, C2, p1, p2, ⟨p3, p4, p5, p6, p7⟩, -⟩ := c_perf (z := z) m3 m4 m5 (fun x hx => (HO x hx).2) 82 (by decide) (by decide) nh 70 (Nat.le_refl _) (by have := m3.1; omega) c (layL T c 0 vs).2 (0, R.2) C1 0 hc (by have := m3.1; omega) hvt ⟨m7.1, m7.2⟩ (Nat.le_refl _) (Nat.zero_le _) (Nat.zero_le _) hz r1 V1 (w4 h0)
          rw [g1] at p1
          have := Option.some.inj p1
          subst this
          have p2 : fX5_perform z 70 (ac + 9) (some (ha c)) 0 (co ac C1 r) = some (f, co ac C2 r) := p2
          obtain ⟨fs1, o81⟩ : ∃ fs, obO (co ac C2 r) ac 8 = some fs := q_o8 ac C2 r
          simp only [q_rn, o_bs, o4, p2, o81]
          exact ⟨C2, rfl, k1.tr (p6.dn (by decide)), p5, p3, p4, p7⟩
        · rw [if_neg (fun q => h0 (w3.trans q))] at g1
          obtain ⟨e71, e72, e73⟩ : (layL T c 0 vs).1 = f ∧ (0, 0) = v ∧ (0, R.2) = R2 := by
            have := Option.some.inj g1
            exact ⟨congrArg Prod.fst this, congrArg (fun q => q.2.1) this, congrArg (fun q => q.2.2) this⟩
          rw [if_neg h0]
          obtain ⟨fs1, o81⟩ : ∃ fs, obO (co ac C1 r) ac 8 = some fs := q_o8 ac C1 r
          rw [o81, o_bs, w3, e71]
          subst e73
          exact ⟨C1, rfl, k1, V1, r1, hz, fun q => absurd (w3.trans (e71.trans q)) h0⟩
    obtain ⟨C2, c1, c2, c3, c4, c5, c6⟩ := key
    rw [c_end, o_bs] at c1
    exact ⟨tlR f, _, S2, vs, R2, c1, g2, M2, X.run (q := (f, v, R2)) c2 c3 c4 c5 c6 sq d1 d2 d3⟩
  · refine j_no M X ?_ (g_run0 M hx)
    unfold fX10_run
    simp only [o8, o_bs, e, Option.elim]
theorem j_about (M : MI T S nh ns vs R) (X : CX ac T r ha sa nh ns vs R S C) (x w : Int32) : JR ac T r ha sa nh ns (fX10_about z ac x w (co ac C r)) (gX11_about x w S) := by
  obtain ⟨⟨n0, HO⟩, -⟩ := id X
  have h60 := M.2.1.1.1
  obtain ⟨fs, o8⟩ : ∃ fs, obO (co ac C r) ac 8 = some fs := q_o8 ac C r
  rcases c_handle (z := z) X h60 x with ⟨c, hc, rfl, e⟩ | ⟨hx, e⟩
  · refine j_no M X ?_ (g_about M hc w)
    obtain ⟨ty, ft, b1, b2, b3, b4, b5, b6⟩ := h_ty2 (HO c hc).2
    obtain ⟨mm, m6⟩ := M.2.1.1.m hc
    unfold fX10_about abA
    simp only [o8, o_bs, e, Option.elim, b2, b3, b4, b5]
    by_cases h0 : w = 0
    · rw [if_pos h0, if_pos h0, mm]
    · rw [if_neg h0, if_neg h0]
      by_cases h7 : w = 7
      · rw [if_pos h7, if_pos h7]
      · rw [if_neg h7, if_neg h7, mm]
        unfold inI
        have c1 : (lg_cmp w.toInt64 1 < 0) ↔ w < 1 := by rw [lg_cmp_lt, Int64.lt_iff_toInt_lt, Int32.lt_iff_toInt_lt, Int32.toInt_toInt64]; rfl
        have c2 : (0 < lg_cmp w.toInt64 (nI (tN T 3 c)).toInt64) ↔ nI (tN T 3 c) < w := by rw [lg_cmp_gt, Int64.lt_iff_toInt_lt, Int32.lt_iff_toInt_lt, Int32.toInt_toInt64, Int32.toInt_toInt64]
        by_cases h1 : w < 1
        · rw [if_pos h1, if_pos (c1.mpr h1), if_pos rfl]
        · rw [if_neg h1, if_neg (fun q => h1 (c1.mp q))]
          by_cases h2 : nI (tN T 3 c) < w
          · rw [if_pos h2, if_pos (c2.mpr h2), if_pos rfl]
          · rw [if_neg h2, if_neg (fun q => h2 (c2.mp q)), if_neg (by decide)]
            have hw0 : ¬ w < 0 := fun q => h1 (by rw [Int32.lt_iff_toInt_lt] at q ⊢; have : (1 : Int32).toInt = 1 := rfl; have : (0 : Int32).toInt = 0 := rfl; omega)
            obtain ⟨k, hk, rfl⟩ := nI_of hw0
            have hk1 : 1 ≤ k := by
              rcases Nat.eq_zero_or_pos k with q | q
              · exact absurd (by rw [q]; rfl) h0
              · exact q
            have hk2 : k ≤ tN T 3 c := by
              rcases Nat.lt_or_ge (tN T 3 c) k with q | q
              · exact absurd (by rw [nI_ltI (by omega) hk]; exact q) h2
              · exact q
            obtain ⟨k, rfl⟩ : ∃ q, k = q + 1 := ⟨k - 1, by omega⟩
            have et := t_at (z := z) (C := C) b1 (tys_at T (show k < tN T 3 c by omega))
            rw [nI_p1, et, o_bs, nI_clamp hk, Nat.add_sub_cancel]
  · refine j_no M X ?_ (g_about0 M hx w)
    unfold fX10_about
    simp only [o8, o_bs, e, Option.elim]
theorem j_linked (M : MI T S nh ns vs R) (X : CX ac T r ha sa nh ns vs R S C) (x : Int32) : JR ac T r ha sa nh ns (fX10_linked z ac x (co ac C r)) (gX11_linked x S) := by
  obtain ⟨-, ⟨n1, HS, -⟩, -⟩ := id X
  have h10 := M.2.2.2.2.1
  obtain ⟨fs, o8⟩ : ∃ fs, obO (co ac C r) ac 8 = some fs := q_o8 ac C r
  rcases c_site (z := z) X h10 x with ⟨s, hs, rfl, e⟩ | ⟨hx, e⟩
  · rcases g_linked M (nI s) with ⟨s2, hs2, e2, g⟩ | ⟨h2, -⟩
    · have : s = s2 := (nI_eq (by omega) (by omega)).mp e2
      subst this
      refine j_no M X ?_ g
      obtain ⟨s0, ty, h, st, s1, s2, s3, s4, s5, s6⟩ := (HS s hs).2
      unfold fX10_linked
      simp only [o8, o_bs, e, Option.elim]
      rw [p_rdI s6 s0 (by decide) rfl, o_bs]
    · exact absurd rfl (h2 s hs)
  · rcases g_linked M x with ⟨s2, hs2, e2, g⟩ | ⟨h2, g⟩
    · exact absurd e2 (hx s2 hs2)
    · refine j_no M X ?_ g
      unfold fX10_linked
      simp only [o8, o_bs, e, Option.elim]
theorem j_resultKind (M : MI T S nh ns vs R) (X : CX ac T r ha sa nh ns vs R S C) : JR ac T r ha sa nh ns (fX10_resultKind z ac (co ac C r)) (gX11_resultKind S) := by
  refine j_no M X (a := S.1 23) ?_ ?_
  · unfold fX10_resultKind
    rw [q_lk, o_bs, X.2.2.2.2.1]
  · unfold gX11_resultKind
    simp [sI, va_up]
theorem j_result (M : MI T S nh ns vs R) (X : CX ac T r ha sa nh ns vs R S C) : ∃ a : Int64, fX10_result z ac (co ac C r) = some (a, co ac C r) ∧ gX11_result S = some (a, sI S 0 0) ∧ MI T (sI S 0 0) nh ns vs R ∧ CX ac T r ha sa nh ns vs R (sI S 0 0) C := by
  refine ⟨S.2.1 24, ?_, ?_, M.z, X.sq (sq_z S)⟩
  · unfold fX10_result
    rw [q_ln, o_bs, X.2.2.2.2.2.1]
  · rfl
/-- told: alike, but for the steps behind a run that is spent -/
theorem j_told (M : MI T S nh ns vs R) (X : CX ac T r ha sa nh ns vs R S C) (x : Int32) : ∃ a b : Int32, fX10_told z ac x (co ac C r) = some (a, co ac C r) ∧ gX11_told x S = some (b, sI S 0 0) ∧ (x ≠ 4 ∨ R.1 ≤ 80 → a = b) ∧ MI T (sI S 0 0) nh ns vs R ∧ CX ac T r ha sa nh ns vs R (sI S 0 0) C := by
  obtain ⟨⟨n0, HO⟩, ⟨n1, -, -⟩, ⟨hv, hV⟩, ⟨hrc, hz⟩, l1, l2, l3⟩ := id X
  obtain ⟨⟨m1, m2⟩, -, ⟨m7, m8⟩, ⟨m9, m10⟩, m11, m12, m13⟩ := id M
  have ec := v_count (z := z) (ac := ac) (r := r) (j := 0) (by decide) hv
  unfold fX10_told gX11_told
  have s0 : ∀ k, k ≠ 0 → (sI S 0 0).1 k = S.1 k := fun k hk => by simp [sI, va_up, hk]
  by_cases h0 : x = 0
  · rw [if_pos h0, if_pos h0, q_hc, o_bs]
    exact ⟨_, _, rfl, rfl, fun _ => by rw [n0, s0 1 (by decide), m2], M.z, X.sq (sq_z S)⟩
  rw [if_neg h0, if_neg h0]
  by_cases h1 : x = 1
  · rw [if_pos h1, if_pos h1]
    unfold fX4_count
    simp only [q_ro, o_bs, o3, q_rc]
    exact ⟨_, _, rfl, rfl, fun _ => by rw [hrc.2.1, s0 13 (by decide), m8.2.1], M.z, X.sq (sq_z S)⟩
  rw [if_neg h1, if_neg h1]
  by_cases h2 : x = 2
  · rw [if_pos h2, if_pos h2, q_sc, o_bs]
    exact ⟨_, _, rfl, rfl, fun _ => by rw [n1, s0 16 (by decide), m12], M.z, X.sq (sq_z S)⟩
  rw [if_neg h2, if_neg h2]
  by_cases h3 : x = 3
  · rw [if_pos h3, if_pos h3]
    simp only [q_gv, o_bs, o7 ac r (show 0 < 63 by decide), ec]
    exact ⟨_, _, rfl, rfl, fun _ => by rw [s0 20 (by decide), m9.2.1], M.z, X.sq (sq_z S)⟩
  rw [if_neg h3, if_neg h3]
  by_cases h4 : x = 4
  · rw [if_pos h4, if_pos h4]
    simp only [q_rn, o_bs, q_st]
    exact ⟨_, _, rfl, rfl, fun q => by rw [hrc.1, s0 32 (by decide), m8.1, Nat.min_eq_left (q.resolve_left (fun z => z h4))], M.z, X.sq (sq_z S)⟩
  rw [if_neg h4, if_neg h4]
  by_cases h5 : x = 5
  · rw [if_pos h5, if_pos h5]
    simp only [q_rn, o_bs, q_co]
    exact ⟨_, _, rfl, rfl, fun q => by rw [hrc.2.2.2.2, s0 25 (by decide), m8.2.2.2.2.2], M.z, X.sq (sq_z S)⟩
  rw [if_neg h5, if_neg h5]
  by_cases h6 : x = 6
  · rw [if_pos h6, if_pos h6, q_lf, o_bs]
    exact ⟨_, _, rfl, rfl, fun q => by rw [l3, s0 26 (by decide)], M.z, X.sq (sq_z S)⟩
  rw [if_neg h6, if_neg h6]
  exact ⟨_, _, rfl, rfl, fun _ => rfl, M.z, X.sq (sq_z S)⟩
end
