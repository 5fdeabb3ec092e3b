/-! THE CLASS: another handle's objects, what is bound. My own rows. -/
section
variable {z : Nat → Nat} {ac : Nat} {r : aH} {C : cS}
theorem c_pinit (F A b : Int32) (u v w : Nat) (hr : ac + 197 ≤ r.1) : fX3_init z r.1 F (some u) (some v) (some w) A b (co ac C (hnew r 6 (.inr (2, dz2)))) = some (co ac C (hnew r 6 (.inr (2, [.inl F, rfV u, rfV v, rfV w, .inl A, .inl b])))) := by
  unfold fX3_init
  rw [wr_new hr (by decide), o_bs, wr_new hr (by decide), o_bs, wr_new hr (by decide), o_bs, wr_new hr (by decide), o_bs, wr_new hr (by decide), o_bs, wr_new hr (by decide), o_bs]
  rfl
theorem c_oinit {F A b : Int32} {pa hh hx hy ty : Nat} (hF : FRS r) (hr : ac + 228 ≤ r.1) (p : pOk ac r pa F hh hx hy A b) : fX2_init z r.1 (some pa) (some ty) (co ac C (hnew r 6 (.inr (1, dz1)))) = some (co ac C (hnew r 6 (.inr (1, [.inl F, rfV ty, .inl b, rfV pa, .inl 3, .inr (.inl 0)])))) := by
  have hr1 : ac + 197 ≤ r.1 := by omega
  unfold fX2_init fX1_init
  rw [o_bs, p_rdI (x := F) (new_old hF _ _ p.2) p.1 (by decide) rfl, o_bs, p_rdI (x := b) (new_old hF _ _ p.2) p.1 (by decide) rfl, o_bs]
  rw [wr_new hr1 (by decide), o_bs, wr_new hr1 (by decide), o_bs, wr_new hr1 (by decide), o_bs, o_bs, wr_new hr1 (by decide), o_bs, wr_new hr1 (by decide), o_bs, wr_new hr1 (by decide), o_bs]
  rfl
theorem c_can {T : mS} {vs : List aVl} {nr h a : Nat} (hv : CV C 0 vs) (hK : ∀ v, v ∈ vs → VK nr v) : (bOK T vs h a → fX10_canBind z ac (tI T 4 (6 * h + a)) (co ac C r) = some (1, co ac C r)) ∧ (¬ bOK T vs h a → fX10_canBind z ac (tI T 4 (6 * h + a)) (co ac C r) = some (0, co ac C r)) := by
  obtain ⟨f7, o7⟩ := q_o7 ac C r (j := 0) (by decide)
  have cn := v_count (z := z) (ac := ac) (r := r) (j := 0) (by decide) hv
  unfold fX10_canBind fX10_canBind_e
  rw [q_gv, o_bs, o_bs, o7, o_bs, cn, o_bs]
  match vs, hv, hK, cn with
  | [], hv, hK, cn =>
    rw [if_pos (show nI ([] : List aVl).length = 0 by decide)]
    exact ⟨fun ⟨v, ws, e, _⟩ => absurd e (by simp), fun _ => chk_0 _⟩
  | v :: ws, hv, hK, cn =>
    have h6 := hv.1
    have hk := hK v List.mem_cons_self
    have ek := v_kind (z := z) (ac := ac) (r := r) (j := 0) (i := 0) (v := v) (by decide) hv rfl
    rw [nI_0] at ek
    rw [if_neg (nI_ne0 (by simp) (by omega))]
    simp only
    rw [q_gv, o_bs, o_bs, o7, o_bs, ek, o_bs]
    simp only
    rw [c_tov (vk_k hk), o_bs]
    simp only
    rw [c_allow, o_bs]
    by_cases hc : caB (tov v.1 (tI T 4 (6 * h + a))) (tI T 4 (6 * h + a)) = true
    · rw [if_pos hc]
      simp only
      rw [if_neg (by decide), a_fail ((caB_iff _ _).mp hc) (vt_tov hk), o_bs]
      by_cases h0 : (adS (tov v.1 (tI T 4 (6 * h + a))) (tI T 4 (6 * h + a)) v.1 v.2).1 = 0
      · simp only
        rw [if_pos h0]
        exact ⟨fun _ => chk_1 _, fun q => absurd ⟨v, ws, rfl, hc, h0⟩ q⟩
      · simp only
        rw [if_neg h0]
        exact ⟨fun ⟨v2, ws2, e, _, q⟩ => (by cases e; exact absurd q h0), fun _ => chk_0 _⟩
    · rw [if_neg hc]
      simp only
      rw [if_pos trivial]
      exact ⟨fun ⟨v2, ws2, e, q, _⟩ => (by cases e; exact absurd q hc), fun _ => chk_0 _⟩
theorem c_bind {T : mS} {vs : List aVl} {nr h a : Nat} {fs : List aV} (hv : CV C 0 vs) (hK : ∀ v, v ∈ vs → VK nr v) (hB : bOK T vs h a) (ht : okT (tI T 4 (6 * h + a))) (hr : ac + 228 ≤ r.1) : fX10_bind z ac (some r.1) (tI T 4 (6 * h + a)) (co ac C (hnew r 6 (.inr (1, fs)))) = some (co ac C (hnew r 6 (.inr (1, (fs.set 4 (.inl (bV T vs h a).1)).set 5 (.inr (.inl (bV T vs h a).2)))))) := by
  have hr1 : ac + 197 ≤ r.1 := by omega
  obtain ⟨v, ws, rfl, h1, h2⟩ := hB
  obtain ⟨f7, o7⟩ := q_o7 ac C (hnew r 6 (.inr (1, fs))) (j := 0) (by decide)
  have hk := hK v List.mem_cons_self
  have ek := v_kind (z := z) (ac := ac) (r := hnew r 6 (.inr (1, fs))) (j := 0) (i := 0) (v := v) (by decide) hv rfl
  rw [nI_0] at ek
  have en := v_num (z := z) (ac := ac) (r := hnew r 6 (.inr (1, fs))) (j := 0) (i := 0) (v := v) (by decide) hv rfl
  rw [nI_0] at en
  have hT : isT (tI T 4 (6 * h + a)) := by
    rcases ht with q | q | q | q
    · exact Or.inl q
    · exact Or.inr (Or.inl q)
    · exact Or.inr (Or.inr (Or.inl q))
    · exact Or.inr (Or.inr (Or.inr (Or.inl q)))
  obtain ⟨k1, k2⟩ := a_kind (z := z) (h := co ac C (hnew r 6 (.inr (1, fs)))) ((caB_iff _ _).mp h1) hT (vt_tov hk) h2
  have ob : obO (co ac C (hnew r 6 (.inr (1, fs)))) r.1 1 = some fs := p_ob (new_at _ _ _) (by unfold out; omega)
  unfold fX10_bind fX2_hold
  rw [q_gv, o_bs, o_bs, o7, o_bs, ek, o_bs]
  simp only
  rw [c_tov (vk_k hk), o_bs]
  simp only
  rw [k1, o_bs]
  simp only
  rw [q_gv, o_bs, o_bs, o7, o_bs, en, o_bs]
  simp only
  rw [k2, o_bs, o_bs]
  simp only
  rw [ob, o_bs, wr_new hr1 (by decide), o_bs, wr_new hr1 (by decide), o_bs, o_bs]
  rfl
/-- the new object, and where it is kept -/
theorem c_o131 {T : mS} {vs : List aVl} {nr nh h a j pa ty hx hy : Nat} {A b : Int32} {ha : Nat → Nat} (n0 : C.1 0 = nI nh) (h60 : nh < 60) (hF : FRS r) (hr : ac + 228 ≤ r.1) (hj : j < 13) (p : pOk ac r pa (nI j) (ha h) hx hy A b) (H : hOk ac T r ha h) (hv : CV C 0 vs) (hK : ∀ v, v ∈ vs → VK nr v) (hB : j = 0 → bOK T vs h a ∧ okT (tI T 4 (6 * h + a)) ∧ A = nI a ∧ a < tN T 3 h) : ∃ hk hn, fX10_other_131 z ac (nI j) A (some (ha h)) (some pa) (some ty) (co ac C r) = some (nI nh, co ac (cI (cR C 0 nh (some r.1)) 0 (nI (nh + 1))) (hnew r 6 (.inr (1, [.inl (nI j), rfV ty, .inl b, rfV pa, .inl hk, .inr (.inl hn)])))) ∧ (j = 0 → hk = (bV T vs h a).1 ∧ hn = (bV T vs h a).2) := by
  have ho : out ac r.1 := by unfold out; omega
  have e1 := c_oinit (z := z) (C := C) (ty := ty) hF hr p
  have kp : ∀ (hk : Int32) (hn : Int64), fX10_keepHandle z ac (some r.1) (co ac C (hnew r 6 (.inr (1, [.inl (nI j), rfV ty, .inl b, rfV pa, .inl hk, .inr (.inl hn)])))) = some (nI nh, co ac (cI (cR C 0 nh (some r.1)) 0 (nI (nh + 1))) (hnew r 6 (.inr (1, [.inl (nI j), rfV ty, .inl b, rfV pa, .inl hk, .inr (.inl hn)])))) := fun hk hn => c_keepH n0 h60 ho (new_at _ _ _) (by decide)
  unfold fX10_other_131
  rw [q_hc, o_bs, n0, if_pos (show nI nh < 60 from nI_lt (b := 60) h60 (by decide)), co_hnew (by omega)]
  have e1 : fX2_init z (co ac C r).1 (some pa) (some ty) (co ac C (hnew r 6 (.inr (1, dz1)))) = _ := e1
  rw [e1, o_bs]
  by_cases hj0 : j = 0
  · subst hj0
    obtain ⟨b1, b2, b3, b4⟩ := hB rfl
    obtain ⟨th, Hh, rh⟩ := h_ty (H.ex (FRS.ex hF 6 (.inr (1, [.inl (nI 0), rfV ty, .inl b, rfV pa, .inl 3, .inr (.inl 0)]))))
    obtain ⟨fh, ofh⟩ := t_ob (C := C) Hh
    obtain ⟨f8, o8⟩ := q_o8 ac C (hnew r 6 (.inr (1, [.inl (nI 0), rfV ty, .inl b, rfV pa, .inl 3, .inr (.inl 0)])))
    have eb := c_bind (z := z) (fs := [.inl (nI 0), rfV ty, .inl b, rfV pa, .inl 3, .inr (.inl 0)]) hv hK b1 b2 hr
    have eb : fX10_bind z ac (some r.1) (tI T 4 (6 * h + a)) _ = some (co ac C (hnew r 6 (.inr (1, [.inl (nI 0), rfV ty, .inl b, rfV pa, .inl (bV T vs h a).1, .inr (.inl (bV T vs h a).2)])))) := eb
    obtain ⟨f82, o82⟩ := q_o8 ac C (hnew r 6 (.inr (1, [.inl (nI 0), rfV ty, .inl b, rfV pa, .inl (bV T vs h a).1, .inr (.inl (bV T vs h a).2)])))
    refine ⟨_, _, ?_, fun _ => ⟨rfl, rfl⟩⟩
    rw [if_pos (by decide), o_bs, rh, o_bs, o_bs, ofh, o_bs, b3, t_at0 Hh b4, o_bs]
    simp only
    rw [o8, o_bs]
    show ((fX10_bind z ac (some r.1) (tI T 4 (6 * h + a)) (co ac C (hnew r 6 (.inr (1, [.inl (nI 0), rfV ty, .inl b, rfV pa, .inl 3, .inr (.inl 0)]))))).bind fun q110 => (obO q110 ac 8).bind fun _ => (fX10_keepHandle z ac (some r.1) q110).bind fun q112 => some (q112.1, q112.2)) = _
    rw [eb, o_bs, o82, o_bs, kp, o_bs]
  · obtain ⟨f8, o8⟩ := q_o8 ac C (hnew r 6 (.inr (1, [.inl (nI j), rfV ty, .inl b, rfV pa, .inl 3, .inr (.inl 0)])))
    refine ⟨3, 0, ?_, fun q => absurd q hj0⟩
    rw [if_neg (nI_ne0 (by omega) (by omega)), o8, o_bs]
    show ((fX10_keepHandle z ac (some r.1) (co ac C (hnew r 6 (.inr (1, [.inl (nI j), rfV ty, .inl b, rfV pa, .inl 3, .inr (.inl 0)]))))).bind fun q103 => some (q103.1, q103.2)) = _
    rw [kp, o_bs]
end
