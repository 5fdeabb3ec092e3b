/-! THE CLASS: what holds between calls. My own rows. -/
/-- all cells but sites stay -/
def ex5 (ac : Nat) (r r2 : aH) : Prop := ∀ x e, out ac x → (∀ fs, e ≠ .inr (5, fs)) → r.2.2 x = some e → r2.2.2 x = some e
theorem ex5.rf (ac : Nat) (r : aH) : ex5 ac r r := fun x e _ _ h => h
theorem ex5.tr {ac : Nat} {r r2 r3 : aH} (h : ex5 ac r r2) (h2 : ex5 ac r2 r3) : ex5 ac r r3 := fun x e a b c => h2 x e a b (h x e a b c)
/-- nothing behind the next address -/
def FRS (r : aH) : Prop := ∀ x, r.1 ≤ x → r.2.2 x = none
theorem FRS.new {r : aH} (h : FRS r) (n : Nat) (e : aE) : FRS (hnew r n e) := fun x hx => by
  have hx : r.1 + 1 ≤ x := hx
  show (if x = r.1 then some e else r.2.2 x) = none
  rw [if_neg (by omega)]
  exact h x (by omega)
theorem FRS.lt {r : aH} (h : FRS r) {x : Nat} {e : aE} (hx : r.2.2 x = some e) : x < r.1 := by
  rcases Nat.lt_or_ge x r.1 with q | q
  · exact q
  · rw [h x q] at hx; cases hx
theorem FRS.ex {ac : Nat} {r : aH} (h : FRS r) (n : Nat) (e : aE) : ex5 ac r (hnew r n e) := fun x e2 _ _ hx => by
  have := h.lt hx
  show (if x = r.1 then some e else r.2.2 x) = _
  rw [if_neg (by omega)]
  exact hx
theorem new_at (r : aH) (n : Nat) (e : aE) : (hnew r n e).2.2 r.1 = some e := by
  show (if r.1 = r.1 then some e else r.2.2 r.1) = _
  rw [if_pos rfl]
theorem new_old {r : aH} (h : FRS r) (n : Nat) (e : aE) {x : Nat} {e2 : aE} (hx : r.2.2 x = some e2) : (hnew r n e).2.2 x = some e2 := by
  have := h.lt hx
  show (if x = r.1 then some e else r.2.2 x) = _
  rw [if_neg (by omega)]
  exact hx
theorem aTy.ex {ac a : Nat} {r r2 : aH} {ts : List Int32} {g : Int32} (h : aTy ac r a ts g) (x : ex5 ac r r2) : aTy ac r2 a ts g := by
  obtain ⟨h1, h6, k, tg, f, h2, h3, h4, h5⟩ := h
  exact ⟨h1, h6, k, tg, f, x _ _ h1 (fun fs e => by cases e) h2, h3, x _ _ h3 (fun fs e => by cases e) h4, h5⟩
theorem hOk.ex {ac c : Nat} {T : mS} {r r2 : aH} {ha : Nat → Nat} (h : hOk ac T r ha c) (x : ex5 ac r r2) : hOk ac T r2 ha c := by
  obtain ⟨ho, ty, h1, ⟨j, h2, h3, h4⟩ | ⟨j, pa, hx, hy, h2, h3, h4, ⟨hk, hn, h5, h6⟩, h7, h8⟩⟩ := h
  · exact ⟨ho, ty, h1.ex x, Or.inl ⟨j, h2, h3, x _ _ ho (fun fs e => by cases e) h4⟩⟩
  · exact ⟨ho, ty, h1.ex x, Or.inr ⟨j, pa, hx, hy, h2, h3, h4, ⟨hk, hn, x _ _ ho (fun fs e => by cases e) h5, h6⟩, x _ _ h4 (fun fs e => by cases e) h7, h8⟩⟩
/-- a site: where it stands, for which handle, its starter, what it is linked to -/
def sOk (ac : Nat) (T : mS) (r : aH) (ha sa : Nat → Nat) (nh : Nat) (S : mS) (s : Nat) : Prop := out ac (sa s) ∧ ∃ ty h st, h < nh ∧ st < nh ∧ S.2.2.1 17 s = nI h ∧ S.2.2.1 18 s = nI st ∧ aTy ac r ty (tys T h) (tI T 5 h) ∧ r.2.2 (sa s) = some (.inr (5, [rfV ty, rfV (ha st), .inl (S.2.2.1 19 s)]))
/-- the class's state beside the reference's -/
def CX (ac : Nat) (T : mS) (r : aH) (ha sa : Nat → Nat) (nh ns : Nat) (vs : List aVl) (R : aRS) (S : mS) (C : cS) : Prop := (C.1 0 = nI nh ∧ ∀ c, c < nh → C.2.2.2.2 0 c = some (ha c) ∧ hOk ac T r ha c) ∧ (C.1 1 = nI ns ∧ (∀ s, s < ns → C.2.2.2.2 1 s = some (sa s) ∧ sOk ac T r ha sa nh S s) ∧ ∀ s t, s < ns → t < ns → sa s = sa t → s = t) ∧ (CV C 0 vs ∧ VF C) ∧ (rc R C ∧ RZ R) ∧ C.1 2 = S.1 23 ∧ C.2.1 0 = S.2.1 24 ∧ C.1 3 = S.1 26
/-- nothing of a reference's state that the class's state is held against is changed -/
def sqS (S S2 : mS) : Prop := S2.2.2.1 17 = S.2.2.1 17 ∧ S2.2.2.1 18 = S.2.2.1 18 ∧ S2.2.2.1 19 = S.2.2.1 19 ∧ S2.1 23 = S.1 23 ∧ S2.2.1 24 = S.2.1 24 ∧ S2.1 26 = S.1 26
theorem sq_z (S : mS) : sqS S (sI S 0 0) := ⟨rfl, rfl, rfl, by simp [sI, va_up], rfl, by simp [sI, va_up]⟩
theorem sq_e {f : Nat → Bool} {S S2 : mS} (h : eqB f S S2) (h17 : f 17 = false) (h18 : f 18 = false) (h19 : f 19 = false) (h23 : f 23 = false) (h24 : f 24 = false) (h26 : f 26 = false) : sqS S S2 := ⟨(h 17 h17).2.2.1.symm, (h 18 h18).2.2.1.symm, (h 19 h19).2.2.1.symm, (h 23 h23).1.symm, (h 24 h24).2.1.symm, (h 26 h26).1.symm⟩
theorem sOk.sq {ac nh s : Nat} {T S S2 : mS} {r : aH} {ha sa : Nat → Nat} (h : sOk ac T r ha sa nh S s) (e : S2.2.2.1 17 s = S.2.2.1 17 s ∧ S2.2.2.1 18 s = S.2.2.1 18 s ∧ S2.2.2.1 19 s = S.2.2.1 19 s) : sOk ac T r ha sa nh S2 s := by
  unfold sOk at h ⊢
  rw [e.1, e.2.1, e.2.2]
  exact h
section
variable {z : Nat → Nat} {ac : Nat} {T S : mS} {r : aH} {ha sa : Nat → Nat} {nh ns : Nat} {vs : List aVl} {R : aRS} {C : cS}
theorem CX.sq (h : CX ac T r ha sa nh ns vs R S C) {S2 : mS} (e : sqS S S2) : CX ac T r ha sa nh ns vs R S2 C := by
  obtain ⟨h1, ⟨h2, h3, h4⟩, h5, h6, h7, h8, h9⟩ := h
  obtain ⟨e1, e2, e3, e4, e5, e6⟩ := e
  exact ⟨h1, ⟨h2, fun s hs => ⟨(h3 s hs).1, (h3 s hs).2.sq ⟨by rw [e1], by rw [e2], by rw [e3]⟩⟩, h4⟩, h5, h6, by rw [e4]; exact h7, by rw [e5]; exact h8, by rw [e6]; exact h9⟩
/-- cells outside stay: another rest -/
theorem CX.ag (h : CX ac T r ha sa nh ns vs R S C) {r2 : aH} (e : ∀ x, out ac x → r2.2.2 x = r.2.2 x) : CX ac T r2 ha sa nh ns vs R S C := by
  obtain ⟨⟨h0, h1⟩, ⟨h2, h3, h4⟩, h5⟩ := h
  have x : ex5 ac r r2 := fun x e2 a b c => by rw [e x a]; exact c
  refine ⟨⟨h0, fun c hc => ⟨(h1 c hc).1, (h1 c hc).2.ex x⟩⟩, ⟨h2, fun s hs => ⟨(h3 s hs).1, ?_⟩, h4⟩, h5⟩
  obtain ⟨s0, ty, hh, st, s1, s2, s3, s4, s5, s6⟩ := (h3 s hs).2
  exact ⟨s0, ty, hh, st, s1, s2, s3, s4, s5.ex x, by rw [e _ s0]; exact s6⟩
theorem c_handle (h : CX ac T r ha sa nh ns vs R S C) (h60 : nh ≤ 60) (x : Int32) : (∃ c, c < nh ∧ x = nI c ∧ fX10_handleAt z ac x (co ac C r) = some (some (ha c), co ac C r)) ∨ ((∀ c, c < nh → x ≠ nI c) ∧ fX10_handleAt z ac x (co ac C r) = some (none, co ac C r)) := by
  unfold fX10_handleAt
  by_cases h0 : x < 0
  · rw [if_pos h0]
    exact Or.inr ⟨fun c hc e => by rw [e] at h0; exact nI_pos (by omega) h0, rfl⟩
  · rw [if_neg h0, q_hc, o_bs, h.1.1]
    obtain ⟨k, hk, rfl⟩ := nI_of h0
    by_cases hl : nh ≤ k
    · rw [if_pos (by rw [nI_leI (by omega) hk]; exact hl)]
      exact Or.inr ⟨fun c hc e => by have := (nI_eq hk (by omega)).mp e; omega, rfl⟩
    · rw [if_neg (by rw [nI_leI (by omega) hk]; exact hl), q_hs, o_bs, o_bs, r_hs ac C r (by omega), o_bs, (h.1.2 k (by omega)).1]
      exact Or.inl ⟨k, by omega, rfl, rfl⟩
theorem c_site (h : CX ac T r ha sa nh ns vs R S C) (h10 : ns ≤ 10) (x : Int32) : (∃ s, s < ns ∧ x = nI s ∧ fX10_siteAt z ac x (co ac C r) = some (some (sa s), co ac C r)) ∨ ((∀ s, s < ns → x ≠ nI s) ∧ fX10_siteAt z ac x (co ac C r) = some (none, co ac C r)) := by
  unfold fX10_siteAt
  by_cases h0 : x < 0
  · rw [if_pos h0]
    exact Or.inr ⟨fun c hc e => by rw [e] at h0; exact nI_pos (by omega) h0, rfl⟩
  · rw [if_neg h0, q_sc, o_bs, h.2.1.1]
    obtain ⟨k, hk, rfl⟩ := nI_of h0
    by_cases hl : ns ≤ k
    · rw [if_pos (by rw [nI_leI (by omega) hk]; exact hl)]
      exact Or.inr ⟨fun c hc e => by have := (nI_eq hk (by omega)).mp e; omega, rfl⟩
    · rw [if_neg (by rw [nI_leI (by omega) hk]; exact hl), q_ss, o_bs, o_bs, r_ss ac C r (by omega), o_bs, (h.2.1.2.1 k (by omega)).1]
      exact Or.inl ⟨k, by omega, rfl, rfl⟩
/-- a change of what is neither table nor sites -/
theorem CX.to (h : CX ac T r ha sa nh ns vs R S C) {S2 : mS} {C2 : cS} {vs2 : List aVl} {R2 : aRS} (k : C2.1 0 = C.1 0 ∧ C2.1 1 = C.1 1 ∧ C2.2.2.2.2 = C.2.2.2.2) (e : S2.2.2.1 17 = S.2.2.1 17 ∧ S2.2.2.1 18 = S.2.2.1 18 ∧ S2.2.2.1 19 = S.2.2.1 19) (hv : CV C2 0 vs2 ∧ VF C2) (hr : rc R2 C2 ∧ RZ R2) (hl : C2.1 2 = S2.1 23 ∧ C2.2.1 0 = S2.2.1 24 ∧ C2.1 3 = S2.1 26) : CX ac T r ha sa nh ns vs2 R2 S2 C2 := by
  obtain ⟨⟨h0, h1⟩, ⟨h2, h3, h4⟩, h5⟩ := h
  exact ⟨⟨by rw [k.1]; exact h0, fun c hc => ⟨by rw [k.2.2]; exact (h1 c hc).1, (h1 c hc).2⟩⟩, ⟨by rw [k.2.1]; exact h2, fun s hs => ⟨by rw [k.2.2]; exact (h3 s hs).1, (h3 s hs).2.sq ⟨by rw [e.1], by rw [e.2.1], by rw [e.2.2]⟩⟩, h4⟩, hv, hr, hl⟩
end
