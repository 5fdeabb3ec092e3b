/-! THE REFERENCE: forms 26, 27, 28. My own rows. -/
theorem pr_all2 {T S S2 : mS} {p c : Nat} {as : List aVl} {R : aRS} {s : Int32} {bs : List aVl} (h : PR T S S2 p c as R s bs) (hp : p < 80) (m : Nat) (hm : m = as.length) (h7 : as.length ≤ 7) (hl : bs.length + m ≤ 12) : ∃ S3, gX11_addOwn (nI p) 0 (nI m) S2 = some S3 ∧ PR T S S3 p c as R s (bs ++ as) ∧ eqB fArg S2 S3 := by
  obtain ⟨S3, e, hA, q⟩ := g_addOwn (a := 0) (b := m) (p := p) (by omega) h.2.1 h.1.2.2.2.1 (Nat.zero_le _) (by omega) h7 (by omega)
  rw [nI_0] at e
  rw [List.drop_zero, List.take_of_length_le (by omega)] at hA
  exact ⟨S3, e, h.ar hA q, q⟩
theorem FS.eq2 {T S S2 : mS} {p c : Nat} {as : List aVl} {R : aRS} {s : Int32} {f : Nat → Bool} (h : FS T S p c as R s) (q : eqB f S S2) (hf : ∀ k, k < 47 → (k ≤ 25 ∨ (32 ≤ k ∧ k ≤ 38)) → f k = false) : FS T S2 p c as R s :=
  ⟨by rw [← (q 33 (hf 33 (by decide) (by decide))).1]; exact h.1, by rw [← (q 35 (hf 35 (by decide) (by decide))).2.2.1]; exact h.2.1, by rw [← (q 36 (hf 36 (by decide) (by decide))).2.2.1]; exact h.2.2.1, h.2.2.2.1.eq q (hf 37 (by decide) (by decide)) (hf 38 (by decide) (by decide)), h.2.2.2.2.1.eq q (fun k h1 h2 => hf k (by omega) (by omega)), h.2.2.2.2.2.eq q (hf 32 (by decide) (by decide)) (hf 13 (by decide) (by decide)) (hf 14 (by decide) (by decide)) (hf 15 (by decide) (by decide)) (hf 25 (by decide) (by decide))⟩
/-- a round that ends its frame -/
theorem out_over {T S S1 : mS} {p c : Nat} {as : List aVl} {R R1 : aRS} {s s1 f : Int32} {v : aVl} (h : FS T S p c as R s) (hp : p < 80) (hc : c < 60) (hF20 : 20 ≤ tI T 2 c) (hs : s ≤ 0 ∨ (s ≠ 9 ∧ (S.1 29 ≤ 0 ∨ tI T 2 c = 27 ∨ tI T 2 c = 28)))
    (he : gX11_oneOther (nI p) (nI c) S = (gX11_over S1).bind fun q => some q) (h1 : FS T S1 p c as R1 s1) (hfr : FR p S S1) (hq : eqB RCb S S1) (b29 : S1.1 29 = f) (bv : f = 0 → S1.1 30 = v.1 ∧ S1.2.1 31 = v.2) (hf0 : 0 ≤ f) (hR : R.1 ≤ R1.1) : OUT_ S p f v R R1 := by
  obtain ⟨S2, e2, c1, c2, c3, c4, q2⟩ := e_over h1.1
  rw [e2, o_bs] at he
  exact ⟨hf0, hR, S2, 1, it_other h.1 hp h.2.1 hc (tb_form h.2.2.2.2.1 c) hF20 h.2.2.1 hs he, ⟨c1, c2.trans b29, fun z => ⟨c3.trans (bv z).1, c4.trans (bv z).2⟩, h1.2.2.2.2.2.eq q2 rfl rfl rfl rfl rfl, hfr.tr (fr_34 q2), hq.tr (rc_34 q2)⟩, by omega⟩
theorem g_caught (a : Int32) (S : mS) : gX11_isCaught a S = some (if cght (S.1 29) a = true then 1 else 0, S) := by
  unfold gX11_isCaught gX11_isCaught_e gX11_isCaught_25 cght
  generalize S.1 29 = f
  by_cases h1 : f ≤ 0
  · have h2 : ¬ 0 < f := Int32.not_lt.mpr h1
    simp [h1, h2, chkM]
  · have h2 : 0 < f := Int32.not_le.mp h1
    by_cases h3 : f < 7
    · by_cases h4 : a = 0
      · simp [h1, h2, h3, h4, chkM]
      · by_cases h5 : a = f <;> simp [h1, h2, h3, h4, h5, chkM]
    · by_cases h6 : f ≤ 99
      · have h7 : ¬ 99 < f := Int32.not_lt.mpr h6
        simp [h1, h2, h3, h6, h7, chkM]
      · have h7 : 99 < f := Int32.not_le.mp h6
        by_cases h4 : a = 0
        · simp [h1, h2, h3, h4, h6, h7, chkM]
        · by_cases h5 : a = f <;> simp [h1, h2, h3, h4, h5, h6, h7, chkM]
theorem m_26 {T S : mS} {nh p c : Nat} {as : List aVl} {R R2 : aRS} {f : Int32} {v : aVl} {rec : aRec} (ih : MR T nh rec) (H : HF T S nh p c as R) (hF : tI T 2 c = 26) (hH : tP T nh 6 c) (hM : tI T 3 c = nI (tN T 3 c) ∧ tN T 3 c ≤ 6) (hX : tP T nh 7 c) (hY : tP T nh 8 c) (hMh : tI T 3 (tN T 6 c) = nI (tN T 3 (tN T 6 c))) (hm : tN T 3 (tN T 6 c) ≤ tN T 3 c) (hx : tN T 3 (tN T 7 c) = tN T 3 c) (hy : tN T 3 (tN T 8 c) = tN T 3 c) (hs : so T rec c as R = some (f, v, R2)) : OUT_ S p f v R R2 := by
  obtain ⟨hFS, hW, hp, hpR, hc, hlen, hF20⟩ := H
  have hc60 : c < 60 := Nat.lt_of_lt_of_le hc hW.1
  have hh60 : tN T 6 c < 60 := Nat.lt_of_lt_of_le hH.2 hW.1
  unfold so at hs
  rw [if_neg (by rw [hF]; decide), if_neg (by rw [hF]; decide), if_neg (by rw [hF]; decide), if_neg (by rw [hF]; decide), if_neg (by rw [hF]; decide), if_neg (by rw [hF]; decide), if_pos hF] at hs
  obtain ⟨⟨f1, v1, R1⟩, hq, hs⟩ := bnd hs
  have e0 := oo_eq hFS hp hc60
  unfold ooB at e0
  rw [hF, if_neg (by decide), if_neg (by decide), if_neg (by decide), if_neg (by decide), if_neg (by decide), if_neg (by decide), if_pos (by decide), if_pos rfl, hH.1, mrA_n _ 3 _ (by rw [ml_3]; omega) (by omega), o_bs, show (S0_ S p 0).2.2.1 3 (tN T 6 c) = nI (tN T 3 (tN T 6 c)) by rw [((s0_ok hFS).1.2.2.2.2.1 3 (by decide) (by decide)).1]; exact hMh] at e0
  unfold gX11_oneOther_457 at e0
  obtain ⟨S1, e1, p1⟩ := pr_take (pr_0 hFS) hp (tN T 3 (tN T 6 c)) (by omega) (by omega) (by simp; omega)
  rw [e1, o_bs, if_pos rfl] at e0
  obtain ⟨hf0, hlt, S2, h2, b29, bv, -, ho⟩ := mid_ ih hFS (by omega) hp hc60 hF20 (Or.inl (by decide)) e0 p1 (by simpa using hq) hH.2 (by simp; omega) hpR
  apply ho
  by_cases hz : f1 = 0
  · subst hz
    simp only [if_true] at hs
    obtain ⟨bv1, bv2⟩ := bv rfl
    have e2 := oo_eq h2 hp hc60
    unfold ooB at e2
    rw [hF, if_neg (by decide), if_neg (by decide), if_neg (by decide), if_neg (by decide), if_neg (by decide), if_neg (by decide), if_pos (by decide), if_neg (by decide), hM.1, hX.1] at e2
    unfold gX11_oneOther_457 at e2
    obtain ⟨S3, e3, p3, q3⟩ := pr_all2 (pr_0 h2) hp (tN T 3 c) (by omega) (by omega) (by simp; omega)
    have q31 : S3.2.1 31 = v1.2 := by rw [← (q3 31 rfl).2.1, (s0_29 S2 p (0 + 1)).2.2]; exact bv2
    rw [e3, o_bs, if_neg (by decide), q31] at e2
    by_cases hy0 : lg_cmp v1.2 0 = 0
    · rw [if_pos hy0, mrA_n S3 8 _ (by rw [ml_8]; omega) (by omega), o_bs, show S3.2.2.1 8 c = nI (tN T 8 c) by rw [(p3.1.2.2.2.2.1 8 (by decide) (by decide)).1]; exact hY.1] at e2
      rw [if_pos hy0] at hs
      exact out_last ih h2 (by omega) hp hc60 hF20 (Or.inr ⟨by decide, Or.inl (by rw [b29]; decide)⟩) e2 (by simpa using p3) hs hY.2 (by omega) (by omega)
    · rw [if_neg hy0] at e2 hs
      exact out_last ih h2 (by omega) hp hc60 hF20 (Or.inr ⟨by decide, Or.inl (by rw [b29]; decide)⟩) e2 (by simpa using p3) hs hX.2 (by omega) (by omega)
  · rw [if_neg hz] at hs
    obtain ⟨rfl, rfl, rfl⟩ : f1 = f ∧ v1 = v ∧ R1 = R2 := by simpa using hs
    exact out_fail h2 hp hc60 hF20 b29 hf0 hz (by decide) (by rw [hF]; decide) (by rw [hF]; decide)
theorem m_27 {T S : mS} {nh p c : Nat} {as : List aVl} {R R2 : aRS} {f : Int32} {v : aVl} {rec : aRec} (ih : MR T nh rec) (H : HF T S nh p c as R) (hF : tI T 2 c = 27) (hH : tP T nh 6 c) (hM : tI T 3 c = nI (tN T 3 c) ∧ tN T 3 c ≤ 6) (hX : tP T nh 7 c) (hm : tN T 3 (tN T 6 c) = tN T 3 c) (hx : tN T 3 (tN T 7 c) = tN T 3 c + 1) (hs : so T rec c as R = some (f, v, R2)) : OUT_ S p f v R R2 := by
  obtain ⟨hFS, hW, hp, hpR, hc, hlen, hF20⟩ := H
  have hc60 : c < 60 := Nat.lt_of_lt_of_le hc hW.1
  have hh60 : tN T 6 c < 60 := Nat.lt_of_lt_of_le hH.2 hW.1
  unfold so at hs
  rw [if_neg (by rw [hF]; decide), if_neg (by rw [hF]; decide), if_neg (by rw [hF]; decide), if_neg (by rw [hF]; decide), if_neg (by rw [hF]; decide), if_neg (by rw [hF]; decide), if_neg (by rw [hF]; decide), if_pos hF] at hs
  obtain ⟨⟨f1, v1, R1⟩, hq, hs⟩ := bnd hs
  have e0 := oo_eq hFS hp hc60
  unfold ooB at e0
  rw [hF, if_neg (by decide), if_neg (by decide), if_neg (by decide), if_neg (by decide), if_neg (by decide), if_neg (by decide), if_neg (by decide), if_pos (by decide), if_pos rfl, hH.1, hM.1] at e0
  obtain ⟨S1, e1, p1⟩ := pr_all (pr_0 hFS) hp (tN T 3 c) (by omega) (by omega) (by simp; omega)
  rw [e1, o_bs] at e0
  obtain ⟨hf0, hlt, S2, h2, b29, bv, -, ho⟩ := mid_ ih hFS (by omega) hp hc60 hF20 (Or.inl (by decide)) e0 p1 (by simpa using hq) hH.2 (by simp; omega) hpR
  apply ho
  have e2 := oo_eq h2 hp hc60
  unfold ooB at e2
  rw [hF, if_neg (by decide), if_neg (by decide), if_neg (by decide), if_neg (by decide), if_neg (by decide), if_neg (by decide), if_neg (by decide), if_pos (by decide), if_neg (by decide), hM.1, hX.1, g_caught, o_bs, (s0_29 S2 p (0 + 1)).1, b29] at e2
  have hst : (0 + 1 : Int32) ≤ 0 ∨ ((0 + 1 : Int32) ≠ 9 ∧ (S2.1 29 ≤ 0 ∨ tI T 2 c = 27 ∨ tI T 2 c = 28)) := Or.inr ⟨by decide, Or.inr (Or.inl hF)⟩
  by_cases hcg : cght f1 (tI T 9 c) = true
  · simp only [hcg, if_true] at e2 hs
    rw [if_neg (by decide)] at e2
    obtain ⟨S3, e3, p3, -⟩ := pr_add (pr_0 h2) (by simp) 0 f1.toInt64
    obtain ⟨S4, e4, p4⟩ := pr_all p3 hp (tN T 3 c) (by omega) (by omega) (by simp; omega)
    rw [e3, o_bs, e4, o_bs] at e2
    exact out_last ih h2 (by omega) hp hc60 hF20 hst e2 (by simpa using p4) hs hX.2 (by simp; omega) (by omega)
  · rw [if_neg hcg] at hs
    rw [if_neg hcg, if_pos rfl] at e2
    obtain ⟨rfl, rfl, rfl⟩ : f1 = f ∧ v1 = v ∧ R1 = R2 := by simpa using hs
    have k0 := s0_ok h2
    exact out_over h2 hp hc60 hF20 hst e2 k0.1 k0.2.2.1 k0.2.2.2.1 ((s0_29 S2 p (0 + 1)).1.trans b29) (fun z => ⟨(s0_29 S2 p (0 + 1)).2.1.trans (bv z).1, (s0_29 S2 p (0 + 1)).2.2.trans (bv z).2⟩) hf0 (Nat.le_refl _)
/-- what ends keeps -/
theorem g_keep {S : mS} {p : Nat} (hp : p < 80) (f kd : Int32) (v : Int64) (h29 : S.1 29 = f) (h30 : S.1 30 = kd) (h31 : S.2.1 31 = v) : ∃ S2, ((mwA S 39 (nI p) (S.1 29)).bind fun S107 => (mwA S107 40 (nI p) (S107.1 30)).bind fun S108 => mwB S108 41 (nI p) (S108.2.1 31)) = some S2 ∧ S2.2.2.1 39 p = f ∧ S2.2.2.1 40 p = kd ∧ S2.2.2.2 41 p = v ∧ eqB (fun k => k == 39 || k == 40 || k == 41) S S2 ∧ FR p S S2 := by
  rw [mwA_n S 39 _ _ (by rw [ml_39]; omega) (by omega), o_bs, mwA_n _ 40 _ _ (by rw [ml_40]; omega) (by omega), o_bs, mwB_n _ 41 _ _ (by rw [ml_41]; omega) (by omega)]
  refine ⟨_, rfl, by simp [sA, sB, va_up, h29], by simp [sA, sB, va_up, h30], by simp [sA, sB, va_up, h31], (eqB.A rfl).tr ((eqB.A rfl).tr (eqB.B rfl)), fun j hj => ?_, fun j _ => ⟨rfl, rfl⟩⟩
  have hjp : j ≠ p := by omega
  refine ⟨rfl, rfl, ?_, ?_, ?_, rfl, rfl⟩
  · simp [sA, sB, va_up, hjp]
  · simp [sA, sB, va_up, hjp]
  · simp [sA, sB, va_up, hjp]
theorem o_as3 {α β γ δ : Type} (x : Option α) (f : α → Option β) (g : α → β → Option γ) (k : γ → Option δ) : (x.bind fun a => (f a).bind fun b => (g a b).bind k) = (x.bind fun a => (f a).bind fun b => g a b).bind k := by
  cases x with
  | none => rfl
  | some a =>
    simp only [Option.bind_some]
    cases f a <;> rfl
theorem m_28 {T S : mS} {nh p c : Nat} {as : List aVl} {R R2 : aRS} {f : Int32} {v : aVl} {rec : aRec} (ih : MR T nh rec) (H : HF T S nh p c as R) (hF : tI T 2 c = 28) (hH : tP T nh 6 c) (hM : tI T 3 c = nI (tN T 3 c) ∧ tN T 3 c ≤ 6) (hX : tP T nh 7 c) (hm : tN T 3 (tN T 6 c) = tN T 3 c) (hx : tN T 3 (tN T 7 c) = tN T 3 c + 1) (hs : so T rec c as R = some (f, v, R2)) : OUT_ S p f v R R2 := by
  obtain ⟨hFS, hW, hp, hpR, hc, hlen, hF20⟩ := H
  have hc60 : c < 60 := Nat.lt_of_lt_of_le hc hW.1
  have hh60 : tN T 6 c < 60 := Nat.lt_of_lt_of_le hH.2 hW.1
  unfold so at hs
  rw [if_neg (by rw [hF]; decide), if_neg (by rw [hF]; decide), if_neg (by rw [hF]; decide), if_neg (by rw [hF]; decide), if_neg (by rw [hF]; decide), if_neg (by rw [hF]; decide), if_neg (by rw [hF]; decide), if_neg (by rw [hF]; decide), if_pos hF] at hs
  obtain ⟨⟨f1, v1, R1⟩, hq, hs⟩ := bnd hs
  obtain ⟨⟨f3, v3, R3⟩, hq3, hs⟩ := bnd hs
  have e0 := oo_eq hFS hp hc60
  unfold ooB at e0
  rw [hF, if_neg (by decide), if_neg (by decide), if_neg (by decide), if_neg (by decide), if_neg (by decide), if_neg (by decide), if_neg (by decide), if_neg (by decide), if_pos (by decide), hH.1, hM.1] at e0
  unfold gX11_ends at e0
  rw [if_pos rfl, bs_some] at e0
  obtain ⟨S1, e1, p1⟩ := pr_all (pr_0 hFS) hp (tN T 3 c) (by omega) (by omega) (by simp; omega)
  rw [e1, o_bs] at e0
  obtain ⟨hf0, hlt, S2, h2, b29, bv, -, ho⟩ := mid_ ih hFS (by omega) hp hc60 hF20 (Or.inl (by decide)) e0 p1 (by simpa using hq) hH.2 (by simp; omega) hpR
  apply ho
  have e2 := oo_eq h2 hp hc60
  unfold ooB at e2
  rw [hF, if_neg (by decide), if_neg (by decide), if_neg (by decide), if_neg (by decide), if_neg (by decide), if_neg (by decide), if_neg (by decide), if_neg (by decide), if_pos (by decide), hM.1, hX.1, bs_some] at e2
  unfold gX11_ends at e2
  rw [if_neg (by decide), if_pos (by decide), o_as3] at e2
  have k0 := pr_0 h2
  obtain ⟨S3, e3, d39, d40, d41, q3, f3r⟩ := g_keep (S := S0_ S2 p (0 + 1)) hp f1 (S2.1 30) (S2.2.1 31) ((s0_29 S2 p (0 + 1)).1.trans b29) (s0_29 S2 p (0 + 1)).2.1 (s0_29 S2 p (0 + 1)).2.2
  have a29 : S3.1 29 = f1 := by rw [← (q3 29 rfl).1]; exact (s0_29 S2 p (0 + 1)).1.trans b29
  have p3 : PR T S2 S3 p c as R1 (0 + 1 + 1) [] := ⟨k0.1.eq2 q3 (fun k _ h => by simp; omega), ⟨by rw [← (q3 46 rfl).1]; exact k0.2.1.1, fun i w hi => by simp at hi⟩, k0.2.2.1.tr f3r, k0.2.2.2.tr (rc_of q3 (by decide +kernel) (fun k hk => by simp; omega))⟩
  rw [e3, o_bs, g_in, o_bs] at e2
  have e2b : gX11_oneOther (nI p) (nI c) S2 = gX11_ends_85 (nI p) (nI (tN T 7 c)) (nI (tN T 3 c)) 0 (if inI f1.toInt64 7 10 = 0 then f1.toInt64 else 99) S3 := by
    rw [e2, a29]
    by_cases hi : inI f1.toInt64 7 10 = 0
    · rw [if_pos hi, if_pos hi]
    · rw [if_neg hi, if_neg hi]
  unfold gX11_ends_85 at e2b
  obtain ⟨S4, e4, p4, -, -, -⟩ := pr_add p3 (by simp) 0 (if inI f1.toInt64 7 10 = 0 then f1.toInt64 else 99)
  obtain ⟨S5, e5, p5, q5⟩ := pr_all2 p4 hp (tN T 3 c) (by omega) (by omega) (by simp; omega)
  have q45 : eqB fArg S3 S5 := by
    obtain ⟨S4b, e4b, hAb, q4b⟩ := g_add p3.2.1 (by simp) 0 (if inI f1.toInt64 7 10 = 0 then f1.toInt64 else 99)
    rw [e4] at e4b
    cases e4b
    exact q4b.tr q5
  rw [e4, o_bs, e5, o_bs] at e2b
  have hst : (0 + 1 : Int32) ≤ 0 ∨ ((0 + 1 : Int32) ≠ 9 ∧ (S2.1 29 ≤ 0 ∨ tI T 2 c = 27 ∨ tI T 2 c = 28)) := Or.inr ⟨by decide, Or.inr (Or.inr hF)⟩
  obtain ⟨hg0, hlt2, S6, h6, c29, cv, fr6, ho2⟩ := mid_ ih h2 (by omega) hp hc60 hF20 hst e2b p5 (by simpa using hq3) hX.2 (by simp; omega) (by omega)
  apply ho2
  obtain ⟨-, -, r39, r40, r41, -, -⟩ := fr6.1 p (by omega)
  have e6 := oo_eq h6 hp hc60
  unfold ooB at e6
  rw [hF, if_neg (by decide), if_neg (by decide), if_neg (by decide), if_neg (by decide), if_neg (by decide), if_neg (by decide), if_neg (by decide), if_neg (by decide), if_pos (by decide), hM.1, hX.1, bs_some] at e6
  unfold gX11_ends at e6
  have hst2 : (0 + 1 + 1 : Int32) ≤ 0 ∨ ((0 + 1 + 1 : Int32) ≠ 9 ∧ (S6.1 29 ≤ 0 ∨ tI T 2 c = 27 ∨ tI T 2 c = 28)) := Or.inr ⟨by decide, Or.inr (Or.inr hF)⟩
  have z6 := s0_29 S6 p (0 + 1 + 1)
  have k6 := s0_ok h6
  rw [if_neg (by decide), if_neg (by decide), z6.1, c29] at e6
  by_cases hz : f3 = 0
  · rw [if_pos hz] at e6
    simp only [hz, if_true] at hs
    obtain ⟨rfl, rfl, rfl⟩ : f1 = f ∧ v1 = v ∧ R3 = R2 := by simpa using hs
    have g39 : (S0_ S6 p (0 + 1 + 1)).2.2.1 39 p = f1 := by rw [← (k6.2.2.2.2 39 rfl).2.2.1, ← r39, ← (q45 39 rfl).2.2.1]; exact d39
    have g40 : (S0_ S6 p (0 + 1 + 1)).2.2.1 40 p = S2.1 30 := by rw [← (k6.2.2.2.2 40 rfl).2.2.1, ← r40, ← (q45 40 rfl).2.2.1]; exact d40
    have g41 : (S0_ S6 p (0 + 1 + 1)).2.2.2 41 p = S2.2.1 31 := by rw [← (k6.2.2.2.2 41 rfl).2.2.2, ← r41, ← (q45 41 rfl).2.2.2]; exact d41
    rw [mrA_n _ 40 _ (by rw [ml_40]; omega) (by omega), o_bs, mrB_n _ 41 _ (by rw [ml_41]; omega) (by omega), o_bs, g40, g41] at e6
    obtain ⟨S7, e7, j29, j30, j31, q7⟩ := g_comes (S2.1 30) (S2.2.1 31) (S0_ S6 p (0 + 1 + 1))
    rw [e7, o_bs, mrA_n _ 39 _ (by rw [ml_39]; omega) (by omega), o_bs, ← (q7 39 rfl).2.2.1, g39] at e6
    have q8 : eqB fCame (S0_ S6 p (0 + 1 + 1)) (sI S7 29 f1) := q7.tr (eqB.I rfl)
    refine out_over h6 hp hc60 hF20 hst2 e6 (k6.1.eq q8 (fun k _ h => by simp [fCame]; omega)) (k6.2.2.1.tr (FR.eq q8 (fun k h1 h2 => by simp [fCame]; omega))) (k6.2.2.2.1.tr (rc_of q8 (by decide +kernel) (fun k hk => by simp [fCame]; omega))) (by simp [sI, va_up]) (fun z => ?_) hf0 (Nat.le_refl _)
    obtain ⟨bv1, bv2⟩ := bv z
    exact ⟨by simpa [sI, va_up] using j30.trans bv1, by simpa [sI, va_up] using j31.trans bv2⟩
  · rw [if_neg hz] at hs e6
    obtain ⟨rfl, rfl, rfl⟩ : f3 = f ∧ v3 = v ∧ R3 = R2 := by simpa using hs
    exact out_over h6 hp hc60 hF20 hst2 e6 k6.1 k6.2.2.1 k6.2.2.2.1 (z6.1.trans c29) (fun z => absurd z hz) hg0 (Nat.le_refl _)
