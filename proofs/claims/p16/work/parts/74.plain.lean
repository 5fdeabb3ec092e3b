/-! CLASS AND REFERENCE: a handle more. My own rows. -/
def haN (ha : Nat → Nat) (nh x : Nat) : Nat → Nat := fun c => if c = nh then x else ha c
theorem haN_lt {ha : Nat → Nat} {nh x c : Nat} (h : c < nh) : haN ha nh x c = ha c := if_neg (by omega)
theorem haN_eq (ha : Nat → Nat) (nh x : Nat) : haN ha nh x nh = x := if_pos rfl
theorem hOk.tE {ac c nh x : Nat} {T T2 : mS} {r : aH} {ha : Nat → Nat} (h : hOk ac T r ha c) (E : tE T T2 nh) (hc : c < nh) (h6 : tN T 3 c ≤ 6) : hOk ac T2 r (haN ha nh x) c := by
  obtain ⟨e, e12, e4⟩ := E c hc
  have t := E.ty hc h6
  have e2 := e 2 (by decide) (by decide) (by decide)
  have e5 := e 5 (by decide) (by decide) (by decide)
  have e9 := e 9 (by decide) (by decide) (by decide)
  have e10 := e 10 (by decide) (by decide) (by decide)
  have e11 := e 11 (by decide) (by decide) (by decide)
  have n6 := E.n hc 6 (by decide) (by decide) (by decide)
  have n7 := E.n hc 7 (by decide) (by decide) (by decide)
  have n8 := E.n hc 8 (by decide) (by decide) (by decide)
  obtain ⟨ho, ty, h1, hh⟩ := h
  refine ⟨by rw [haN_lt hc]; exact ho, ty, by rw [t, e5]; exact h1, ?_⟩
  rcases hh with ⟨j, h2, h3, h4⟩ | ⟨j, pa, hx, hy, h2, h3, h4, ⟨hk, hn, h5, h6⟩, h7, h8, h9, h10⟩
  · exact Or.inl ⟨j, h2, by rw [e2]; exact h3, by rw [haN_lt hc, e2, e10]; exact h4⟩
  · refine Or.inr ⟨j, pa, hx, hy, h2, by rw [e2]; exact h3, h4, ⟨hk, hn, by rw [haN_lt hc, e10]; exact h5, fun q => by rw [e11, e12]; exact h6 q⟩, by rw [n6, haN_lt (by omega), e9, e10]; exact h7, by rw [n6]; exact h8, fun q => ?_, fun q => ?_⟩
    · obtain ⟨w1, w2⟩ := h9 q
      rw [n7, haN_lt (by omega)]
      exact ⟨w1, w2⟩
    · obtain ⟨w1, w2⟩ := h10 q
      rw [n8, haN_lt (by omega)]
      exact ⟨w1, w2⟩
theorem CX.new {ac x : Nat} {T S S2 : mS} {r r2 : aH} {ha sa : Nat → Nat} {nh ns n m : Nat} {vs : List aVl} {R : aRS} {C : cS} (X : CX ac T r ha sa nh ns vs R S C) (hW : WT T nh) (E : tE T S2 nh) (G : GX ac n m r r2) (sq : sqS S S2) (hN : hOk ac S2 r2 (haN ha nh x) nh) : CX ac S2 r2 (haN ha nh x) sa (nh + 1) ns vs R S2 (cI (cR C 0 nh (some x)) 0 (nI (nh + 1))) := by
  obtain ⟨⟨k0, KO⟩, ⟨k1, KS, kinj⟩, ⟨kv, kV⟩, ⟨kr, kz⟩, kl⟩ := id X
  obtain ⟨q17, q18, q19, q23, q24, q26⟩ := sq
  refine ⟨⟨by simp [cI, va_up], fun c hc => ?_⟩, ⟨?_, fun s hs => ?_, kinj⟩, ⟨?_, ?_⟩, ⟨?_, kz⟩, ?_, ?_, ?_⟩
  · by_cases hcn : c = nh
    · subst hcn
      refine ⟨?_, hN⟩
      simp only [cI, cR, up_eq]
      rw [haN_eq]
    · have hc2 : c < nh := by omega
      refine ⟨?_, ?_⟩
      · simp only [cI, cR, up_eq]
        rw [up_ne _ _ hcn, haN_lt hc2]
        exact (KO c hc2).1
      · exact ((KO c hc2).2.ex G.ex).tE E hc2 (hW.m hc2).2
  · simp only [cI, cR]
    rw [up_ne _ _ (by decide)]
    exact k1
  · refine ⟨?_, ?_⟩
    · simp only [cI, cR]
      rw [up_ne _ _ (by decide)]
      exact (KS s hs).1
    · obtain ⟨s0, ty, h, st, s1, s2, s3, s4, s5, s6⟩ := (KS s hs).2
      refine ⟨s0, ty, h, st, by omega, by omega, by rw [q17]; exact s3, by rw [q18]; exact s4, ?_, ?_⟩
      · rw [E.ty s1 (hW.m s1).2, (E h s1).1 5 (by decide) (by decide) (by decide)]
        exact s5.ex G.ex
      · rw [haN_lt s2, q19]
        exact G.2.1 _ _ s6
  · exact ⟨kv.1, by simp only [cI, cR]; rw [up_ne _ _ (by decide)]; exact kv.2.1, kv.2.2⟩
  · intro j hj
    obtain ⟨as, a, b, c⟩ := kV j hj
    exact ⟨as, a, by simp only [cI, cR]; rw [up_ne _ _ (by omega)]; exact b, c⟩
  · exact ⟨by simp only [cI, cR]; rw [up_ne _ _ (by decide)]; exact kr.1, by simp only [cI, cR]; rw [up_ne _ _ (by decide)]; exact kr.2.1, kr.2.2.1, kr.2.2.2.1, by simp only [cI, cR]; rw [up_ne _ _ (by decide)]; exact kr.2.2.2.2⟩
  · simp only [cI, cR]; rw [up_ne _ _ (by decide), q23]; exact kl.1
  · rw [q24]; exact kl.2.1
  · simp only [cI, cR]; rw [up_ne _ _ (by decide), q26]; exact kl.2.2
/-- the table behind a new handle -/
theorem NHo.tE {T S S1 S2 : mS} {nh : Nat} {ts : List Int32} {F g h x y a b : Int32} (hT : TB T S) (q : eqB (fun k => k == 0 || (decide (27 ≤ k ∧ k ≤ 31))) S S1) (N : NHo S1 S2 nh ts F g h x y a b) : tE T S2 nh := by
  obtain ⟨-, -, -, -, n4, -, nk, ne⟩ := N
  intro c hc
  have eT : ∀ k, 2 ≤ k → k ≤ 12 → S1.2.2.1 k = T.2.2.1 k ∧ S1.2.2.2 k = T.2.2.2 k := fun k h1 h2 => by
    have e := q k (by simp; omega)
    exact ⟨e.2.2.1.symm.trans (hT k h1 h2).1, e.2.2.2.symm.trans (hT k h1 h2).2⟩
  refine ⟨fun k h1 h2 h3 => ?_, ?_, fun j hj => ?_⟩
  · show S2.2.2.1 k c = T.2.2.1 k c
    by_cases h11 : k = 11
    · subst h11
      rw [← (ne 11 rfl).2.2.1, (eT 11 (by decide) (by decide)).1]
    · rw [nk k c h1 (by omega) h3 (by omega), (eT k h1 (by omega)).1]
  · rw [← (ne 12 rfl).2.2.2, (eT 12 (by decide) (by decide)).2]
  · show S2.2.2.1 4 (6 * c + j) = T.2.2.1 4 (6 * c + j)
    rw [n4 _ (by omega), (eT 4 (by decide) (by decide)).1]
theorem NHo.ty {S1 S2 : mS} {nh : Nat} {ts : List Int32} {F g h x y a b : Int32} (N : NHo S1 S2 nh ts F g h x y a b) (h6 : ts.length ≤ 6) : tN S2 3 nh = ts.length ∧ tys S2 nh = ts := by
  obtain ⟨-, -, n3, n4, -⟩ := N
  have e : tN S2 3 nh = ts.length := by
    show (S2.2.2.1 3 nh).toNatClampNeg = _
    rw [n3, nI_clamp (by omega)]
  refine ⟨e, ?_⟩
  unfold tys
  rw [e]
  apply List.ext_getElem?
  intro i
  rw [List.getElem?_map]
  by_cases hi : i < ts.length
  · rw [List.getElem?_range hi, List.getElem?_eq_getElem hi]
    show some (S2.2.2.1 4 (6 * nh + i)) = _
    rw [n4 i hi, List.getD_eq_getElem?_getD, List.getElem?_eq_getElem hi]
    rfl
  · rw [List.getElem?_eq_none (by simp; omega), List.getElem?_eq_none (by omega)]
    rfl
