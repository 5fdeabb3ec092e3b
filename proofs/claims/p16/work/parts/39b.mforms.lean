/-! THE REFERENCE: forms that call twice. My own rows. -/
theorem mid_ {T S S1 : mS} {nh p c x : Nat} {as as2 : List aVl} {R R1 : aRS} {s f : Int32} {v : aVl} {rec : aRec} (ih : MR T nh rec) (h : FS T S p c as R s) (h7 : as.length ≤ 7) (hp : p < 80) (hc : c < 60) (hF20 : 20 ≤ tI T 2 c) (hs : s ≤ 0 ∨ (s ≠ 9 ∧ (S.1 29 ≤ 0 ∨ tI T 2 c = 27 ∨ tI T 2 c = 28)))
    {s1 : Int32} (he : gX11_oneOther (nI p) (nI c) S = (gX11_calls (nI x) S1).bind fun q => some q) (h1 : PR T S S1 p c as R s1 as2) (hr : rec x as2 R = some (f, v, R1)) (hx : x < nh) (hl : as2.length = tN T 3 x) (hpR : p + 1 ≤ R.1) :
    0 ≤ f ∧ R.1 < R1.1 ∧ ∃ S2, FS T S2 p c as R1 s1 ∧ S2.1 29 = f ∧ (f = 0 → S2.1 30 = v.1 ∧ S2.2.1 31 = v.2) ∧ FR (p + 1) S1 S2 ∧ ∀ (f2 : Int32) (v2 : aVl) (R2 : aRS), OUT_ S2 p f2 v2 R1 R2 → OUT_ S p f2 v2 R R2 := by
  obtain ⟨hf0, hlt, S2, k, g, hFS, b29, bv, bFR, bF1, bq, hk⟩ := sub_ ih h h7 hp hc hF20 hs (he.trans (bs_some _)) h1.1 h1.2.1 hr hx hl rfl hpR h1.2.2.1 h1.2.2.2
  refine ⟨hf0, hlt, S2, hFS, b29, bv, bF1, fun f2 v2 R2 ho => ?_⟩
  obtain ⟨o1, o2, S3, k3, g3, ⟨c33, c29, cv, cR, cF, cq⟩, hk3⟩ := ho
  exact ⟨o1, by omega, S3, k + k3, g.tr g3, ⟨c33, c29, cv, cR, bFR.tr cF, bq.tr cq⟩, by omega⟩
theorem i32_pos {f : Int32} (h : 0 ≤ f) (h2 : f ≠ 0) : ¬ f ≤ 0 := fun h3 => h2 (Int32.le_antisymm h3 h)
/-- where the first one failed, the frame is over -/
theorem out_fail {T S : mS} {p c : Nat} {as : List aVl} {R : aRS} {s f : Int32} {v : aVl} (h : FS T S p c as R s) (hp : p < 80) (hc : c < 60) (hF20 : 20 ≤ tI T 2 c) (h29 : S.1 29 = f) (hf0 : 0 ≤ f) (hf : f ≠ 0) (hs : ¬ s ≤ 0) (h27 : tI T 2 c ≠ 27) (h28 : tI T 2 c ≠ 28) : OUT_ S p f v R R :=
  ⟨hf0, Nat.le_refl _, fe_over h hp hc hF20 h29 (fun z => absurd z hf) (Or.inr ⟨hs, i32_pos hf0 hf, h27, h28⟩)⟩
theorem s0_29 (S : mS) (p : Nat) (s : Int32) : (S0_ S p s).1 29 = S.1 29 ∧ (S0_ S p s).1 30 = S.1 30 ∧ (S0_ S p s).2.1 31 = S.2.1 31 := ⟨by simp [S0_, sI, sA, va_up], by simp [S0_, sI, sA, va_up], rfl⟩
theorem m_23 {T S : mS} {nh p c : Nat} {as : List aVl} {R R2 : aRS} {f : Int32} {v : aVl} {rec : aRec} (ih : MR T nh rec) (H : HF T S nh p c as R) (hF : tI T 2 c = 23) (hH : tP T nh 6 c) (hM : tI T 3 c = nI (tN T 3 c) ∧ tN T 3 c ≤ 6) (hX : tP T nh 7 c) (hMx : tI T 3 (tN T 7 c) = nI (tN T 3 (tN T 7 c))) (hx : tN T 3 (tN T 7 c) ≤ tN T 3 c) (hm : tN T 3 (tN T 6 c) = tN T 3 c + (if tI T 5 (tN T 7 c) = 4 then 0 else 1)) (hs : so T rec c as R = some (f, v, R2)) : OUT_ S p f v R R2 := by
  obtain ⟨hFS, hW, hp, hpR, hc, hlen, hF20⟩ := H
  have hc60 : c < 60 := Nat.lt_of_lt_of_le hc hW.1
  have hx60 : tN T 7 c < 60 := Nat.lt_of_lt_of_le hX.2 hW.1
  unfold so at hs
  rw [if_neg (by rw [hF]; decide), if_neg (by rw [hF]; decide), if_neg (by rw [hF]; decide), if_pos hF] at hs
  obtain ⟨⟨f1, v1, R1⟩, hq, hs⟩ := bnd hs
  have e0 := oo_eq hFS hp hc60
  unfold ooB at e0
  rw [hF, if_neg (by decide), if_neg (by decide), if_neg (by decide), if_pos (by decide), if_pos rfl, hX.1, mrA_n _ 3 _ (by rw [ml_3]; omega) (by omega), o_bs, show (S0_ S p 0).2.2.1 3 (tN T 7 c) = nI (tN T 3 (tN T 7 c)) by rw [((s0_ok hFS).1.2.2.2.2.1 3 (by decide) (by decide)).1]; exact hMx] at e0
  obtain ⟨S1, e1, p1⟩ := pr_take (pr_0 hFS) hp (tN T 3 (tN T 7 c)) (by omega) (by omega) (by simp; omega)
  rw [e1, o_bs] at e0
  obtain ⟨hf0, hlt, S2, h2, b29, bv, -, ho⟩ := mid_ ih hFS (by omega) hp hc60 hF20 (Or.inl (by decide)) e0 p1 (by simpa using hq) hX.2 (by simp; omega) hpR
  apply ho
  by_cases hz : f1 = 0
  · subst hz
    simp only [if_true] at hs
    obtain ⟨bv1, bv2⟩ := bv rfl
    have e2 := oo_eq h2 hp hc60
    unfold ooB at e2
    rw [hF, if_neg (by decide), if_neg (by decide), if_neg (by decide), if_pos (by decide), if_neg (by decide), hX.1, mrA_n _ 5 _ (by rw [ml_5]; omega) (by omega), o_bs, show (S0_ S2 p (0 + 1)).2.2.1 5 (tN T 7 c) = tI T 5 (tN T 7 c) by rw [((s0_ok h2).1.2.2.2.2.1 5 (by decide) (by decide)).1], hH.1, hM.1, (s0_29 S2 p (0 + 1)).2.1, (s0_29 S2 p (0 + 1)).2.2, bv1, bv2] at e2
    by_cases h4 : tI T 5 (tN T 7 c) = 4
    · rw [if_pos h4] at e2 hs hm
      unfold gX11_oneOther_298 at e2
      obtain ⟨S3, e3, p3⟩ := pr_all (pr_0 h2) hp (tN T 3 c) (by omega) (by omega) (by simp; omega)
      rw [e3, o_bs] at e2
      exact out_last ih h2 (by omega) hp hc60 hF20 (Or.inr ⟨by decide, Or.inl (by rw [b29]; decide)⟩) e2 p3 hs hH.2 (by simp; omega) (by omega)
    · rw [if_neg h4] at e2 hs hm
      obtain ⟨S3, e3, p3, -⟩ := pr_add (pr_0 h2) (by simp) v1.1 v1.2
      rw [e3, o_bs] at e2
      unfold gX11_oneOther_298 at e2
      obtain ⟨S4, e4, p4⟩ := pr_all p3 hp (tN T 3 c) (by omega) (by omega) (by simp; omega)
      rw [e4, o_bs] at e2
      exact out_last ih h2 (by omega) hp hc60 hF20 (Or.inr ⟨by decide, Or.inl (by rw [b29]; decide)⟩) e2 (by simpa using p4) hs hH.2 (by simp; omega) (by omega)
  · rw [if_neg hz] at hs
    obtain ⟨rfl, rfl, rfl⟩ : f1 = f ∧ v1 = v ∧ R1 = R2 := by simpa using hs
    exact out_fail h2 hp hc60 hF20 b29 hf0 hz (by decide) (by rw [hF]; decide) (by rw [hF]; decide)
theorem m_24 {T S : mS} {nh p c : Nat} {as : List aVl} {R R2 : aRS} {f : Int32} {v : aVl} {rec : aRec} (ih : MR T nh rec) (H : HF T S nh p c as R) (hF : tI T 2 c = 24) (hH : tP T nh 6 c) (hM : tI T 3 c = nI (tN T 3 c) ∧ tN T 3 c ≤ 6) (hX : tP T nh 7 c) (hA : tI T 9 c = nI (tN T 9 c)) (ha : tN T 9 c < tN T 3 c) (hx : tN T 3 (tN T 7 c) = 1) (hm : tN T 3 (tN T 6 c) = tN T 3 c) (hs : so T rec c as R = some (f, v, R2)) : OUT_ S p f v R R2 := by
  obtain ⟨hFS, hW, hp, hpR, hc, hlen, hF20⟩ := H
  have hc60 : c < 60 := Nat.lt_of_lt_of_le hc hW.1
  unfold so at hs
  rw [if_neg (by rw [hF]; decide), if_neg (by rw [hF]; decide), if_neg (by rw [hF]; decide), if_neg (by rw [hF]; decide), if_pos hF] at hs
  obtain ⟨⟨f1, v1, R1⟩, hq, hs⟩ := bnd hs
  have e0 := oo_eq hFS hp hc60
  unfold ooB at e0
  rw [hF, if_neg (by decide), if_neg (by decide), if_neg (by decide), if_neg (by decide), if_pos (by decide), if_pos rfl, hX.1, hA, nI_1] at e0
  obtain ⟨S1, e1, p1⟩ := pr_own (pr_0 hFS) hp (tN T 9 c) (tN T 9 c + 1) (by omega) (by omega) (by omega) (by simp)
  rw [e1, o_bs] at e0
  rw [Nat.add_sub_cancel_left, List.nil_append] at p1
  obtain ⟨hf0, hlt, S2, h2, b29, bv, -, ho⟩ := mid_ ih hFS (by omega) hp hc60 hF20 (Or.inl (by decide)) e0 p1 hq hX.2 (by simp; omega) hpR
  apply ho
  by_cases hz : f1 = 0
  · subst hz
    simp only [if_true] at hs
    obtain ⟨bv1, bv2⟩ := bv rfl
    have e2 := oo_eq h2 hp hc60
    unfold ooB at e2
    rw [hF, if_neg (by decide), if_neg (by decide), if_neg (by decide), if_neg (by decide), if_pos (by decide), if_neg (by decide), hH.1, hA, hM.1, nI_1] at e2
    obtain ⟨S3, e3, p3⟩ := pr_take (pr_0 h2) hp (tN T 9 c) (by omega) (by omega) (by simp; omega)
    rw [e3, o_bs] at e2
    have q30 : S3.1 30 = v1.1 ∧ S3.2.1 31 = v1.2 := by
      obtain ⟨S3', e3', hA3, q3⟩ := g_addOwn (a := 0) (b := tN T 9 c) (p := p) (by omega) (s0_ok h2).2.1 (s0_ok h2).1.2.2.2.1 (by omega) (by omega) (by omega) (by simp; omega)
      rw [nI_0, e3] at e3'
      cases e3'
      exact ⟨by rw [← (q3 30 rfl).1, (s0_29 S2 p (0 + 1)).2.1]; exact bv1, by rw [← (q3 31 rfl).2.1, (s0_29 S2 p (0 + 1)).2.2]; exact bv2⟩
    rw [q30.1, q30.2] at e2
    obtain ⟨S4, e4, p4, -⟩ := pr_add p3 (by simp; omega) v1.1 v1.2
    obtain ⟨S5, e5, p5⟩ := pr_drop p4 hp (tN T 9 c + 1) (tN T 3 c) (by omega) (by omega) (by omega) (by simp; omega)
    rw [e4, o_bs, e5, o_bs] at e2
    exact out_last ih h2 (by omega) hp hc60 hF20 (Or.inr ⟨by decide, Or.inl (by rw [b29]; decide)⟩) e2 (by simpa using p5) hs hH.2 (by simp; omega) (by omega)
  · rw [if_neg hz] at hs
    obtain ⟨rfl, rfl, rfl⟩ : f1 = f ∧ v1 = v ∧ R1 = R2 := by simpa using hs
    exact out_fail h2 hp hc60 hF20 b29 hf0 hz (by decide) (by rw [hF]; decide) (by rw [hF]; decide)
theorem m_25 {T S : mS} {nh p c : Nat} {as : List aVl} {R R2 : aRS} {f : Int32} {v : aVl} {rec : aRec} (ih : MR T nh rec) (H : HF T S nh p c as R) (hF : tI T 2 c = 25) (hH : tP T nh 6 c) (hM : tI T 3 c = nI (tN T 3 c) ∧ tN T 3 c ≤ 6) (hX : tP T nh 7 c) (hm : tN T 3 (tN T 6 c) = tN T 3 c) (hx : tN T 3 (tN T 7 c) = (if tI T 5 (tN T 6 c) = 4 then 0 else 1)) (hs : so T rec c as R = some (f, v, R2)) : OUT_ S p f v R R2 := by
  obtain ⟨hFS, hW, hp, hpR, hc, hlen, hF20⟩ := H
  have hc60 : c < 60 := Nat.lt_of_lt_of_le hc hW.1
  have hh60 : tN T 6 c < 60 := Nat.lt_of_lt_of_le hH.2 hW.1
  unfold so at hs
  rw [if_neg (by rw [hF]; decide), if_neg (by rw [hF]; decide), if_neg (by rw [hF]; decide), if_neg (by rw [hF]; decide), if_neg (by rw [hF]; decide), if_pos hF] at hs
  obtain ⟨⟨f1, v1, R1⟩, hq, hs⟩ := bnd hs
  have e0 := oo_eq hFS hp hc60
  unfold ooB at e0
  rw [hF, if_neg (by decide), if_neg (by decide), if_neg (by decide), if_neg (by decide), if_neg (by decide), if_pos (by decide), if_pos rfl, hH.1, hM.1] at e0
  obtain ⟨S1, e1, p1⟩ := pr_all (pr_0 hFS) hp (tN T 3 c) (by omega) (by omega) (by simp; omega)
  rw [e1, o_bs] at e0
  obtain ⟨hf0, hlt, S2, h2, b29, bv, -, ho⟩ := mid_ ih hFS (by omega) hp hc60 hF20 (Or.inl (by decide)) e0 p1 (by simpa using hq) hH.2 (by simp; omega) hpR
  apply ho
  by_cases hz : f1 = 0
  · subst hz
    simp only [if_true] at hs
    obtain ⟨bv1, bv2⟩ := bv rfl
    have e2 := oo_eq h2 hp hc60
    unfold ooB at e2
    rw [hF, if_neg (by decide), if_neg (by decide), if_neg (by decide), if_neg (by decide), if_neg (by decide), if_pos (by decide), if_neg (by decide), hH.1, mrA_n _ 5 _ (by rw [ml_5]; omega) (by omega), o_bs, show (S0_ S2 p (0 + 1)).2.2.1 5 (tN T 6 c) = tI T 5 (tN T 6 c) by rw [((s0_ok h2).1.2.2.2.2.1 5 (by decide) (by decide)).1], hX.1, (s0_29 S2 p (0 + 1)).2.1, (s0_29 S2 p (0 + 1)).2.2, bv1, bv2] at e2
    by_cases h4 : tI T 5 (tN T 6 c) = 4
    · rw [if_pos h4] at e2 hs hx
      exact out_last ih h2 (by omega) hp hc60 hF20 (Or.inr ⟨by decide, Or.inl (by rw [b29]; decide)⟩) e2 (pr_0 h2) hs hX.2 (by simp; omega) (by omega)
    · rw [if_neg h4] at e2 hs hx
      obtain ⟨S3, e3, p3, -⟩ := pr_add (pr_0 h2) (by simp) v1.1 v1.2
      rw [e3, o_bs] at e2
      exact out_last ih h2 (by omega) hp hc60 hF20 (Or.inr ⟨by decide, Or.inl (by rw [b29]; decide)⟩) e2 (by simpa using p3) hs hX.2 (by simp; omega) (by omega)
  · rw [if_neg hz] at hs
    obtain ⟨rfl, rfl, rfl⟩ : f1 = f ∧ v1 = v ∧ R1 = R2 := by simpa using hs
    exact out_fail h2 hp hc60 hF20 b29 hf0 hz (by decide) (by rw [hF]; decide) (by rw [hF]; decide)
