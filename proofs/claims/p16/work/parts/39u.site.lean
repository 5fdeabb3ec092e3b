/-! THE REFERENCE: the ends of runSite. My own rows. -/
theorem MI.to2 {T S S2 : mS} {nh ns : Nat} {vs : List aVl} {R R2 : aRS} {f : Nat → Bool} (M : MI T S nh ns vs R) (q : eqB f S S2) (hf : ∀ k, k < 23 → k ≠ 0 → k ≠ 13 → k ≠ 14 → k ≠ 15 → k ≠ 19 → f k = false) (hS : RSt R2 S2) (hR : RT R2) (hl : R.2.1 ≤ R2.2.1) (h19 : ∀ s, s < ns → S2.2.2.1 19 s = S.2.2.1 19 s ∨ S2.2.2.1 19 s = -1 ∨ ∃ h l, S.2.2.1 17 s = nI h ∧ h < nh ∧ l < nh ∧ S2.2.2.1 19 s = nI l ∧ alk T l h) : MI T S2 nh ns vs R2 := by
  have h60 := M.2.1.1.1
  obtain ⟨⟨m1, m2⟩, ⟨m3, m4, m5, m6⟩, ⟨m7, m8⟩, ⟨m9, m10⟩, m11, m12, m13⟩ := M
  refine ⟨⟨m1.eq q (fun k h1 h2 => hf k (by omega) (by omega) (by omega) (by omega) (by omega) (by omega)), by rw [← (q 1 (hf 1 (by decide) (by decide) (by decide) (by decide) (by decide) (by decide))).1]; exact m2⟩, ⟨m3, m4, m5.mono hl, m6⟩, ⟨hR, hS⟩, ⟨m9.eq q (hf 20 (by decide) (by decide) (by decide) (by decide) (by decide) (by decide)) (hf 21 (by decide) (by decide) (by decide) (by decide) (by decide) (by decide)) (hf 22 (by decide) (by decide) (by decide) (by decide) (by decide) (by decide)), fun v hv => (m10 v hv).mono hl⟩, m11, by rw [← (q 16 (hf 16 (by decide) (by decide) (by decide) (by decide) (by decide) (by decide))).1]; exact m12, ?_⟩
  intro s hs
  rw [← (q 17 (hf 17 (by decide) (by decide) (by decide) (by decide) (by decide) (by decide))).2.2.1, ← (q 18 (hf 18 (by decide) (by decide) (by decide) (by decide) (by decide) (by decide))).2.2.1]
  obtain ⟨h, st, w1, w2, w3, w4, w5, w6, w7⟩ := m13 s hs
  refine ⟨h, st, w1, w2, w3, w4, w5, w6, ?_⟩
  rcases h19 s hs with z | z | ⟨h2, l, z1, z2, z3, z4, z5⟩
  · rw [z]; exact w7
  · exact Or.inl z
  · have : h2 = h := (nI_eq (by omega) (by omega)).mp (z1.symm.trans w3)
    subst this
    exact Or.inr ⟨l, z3, z4, z5.1, z5.2⟩
/-- runSite where it failed before its handle is run -/
theorem t_bad {T X : mS} {nh o : Nat} {f : Int32} (hA : WA T nh) (ho : o < nh) (ho60 : o < 60) (hT : TB T X) (h29 : X.1 29 = f) (hf0 : 0 ≤ f) (hf : f ≠ 0) (s : Int32) : ∃ S2, gX11_runSite_181 s (nI o) X = some (tlR f, S2) ∧ TL X S2 f (0, 0) := by
  obtain ⟨S2, e2, t⟩ := g_tells (nr := 0) (v := (0, 0)) hA ho ho60 hT h29 hf0 (fun z => absurd z hf)
  refine ⟨S2, ?_, t⟩
  unfold gX11_runSite_181
  rw [h29, if_neg hf, e2, o_bs]
/-- runSite where its handle is run -/
theorem t_run {T X : mS} {nh nr ns o l s : Nat} {ex : Int32} {vs : List aVl} {R : aRS} (hW : WT T nh) (hB : WB T nh) (hY : WY T nh nr) (hA : WA T nh) (ho : o < nh) (hl : l < nh) (hs : s < ns) (hns : ns ≤ 10) (hal : alk T l o) (hR : RT R) (hn : nr ≤ R.2.1) (hT : TB T X) (hS : RSt R X) (hV : VA X vs) (hK : ∀ v, v ∈ vs → VK R.2.1 v) (hlen : vs.length = tN T 3 o) (hw : wrL T o ex 0 vs = false) (hle : R.1 ≤ 80) (h29 : X.1 29 = 0) (h19 : X.2.2.1 19 s = nI l) :
    ∃ (f : Int32) (v : aVl) (R2 : aRS) (S2 : mS), rnS T l vs R = some (f, v, R2) ∧ gX11_runSite_181 (nI s) (nI o) X = some (tlR f, S2) ∧ S2.1 26 = f ∧ S2.1 23 = (if f = 0 then v.1 else 3) ∧ S2.2.1 24 = (if f = 0 then v.2 else 0) ∧ eqB fRn X S2 ∧ RSt R2 S2 ∧ RT R2 ∧ R.2.1 ≤ R2.2.1 ∧ 0 ≤ f := by
  have ho60 : o < 60 := Nat.lt_of_lt_of_le ho hW.1
  obtain ⟨t1, t2⟩ := tys_4 hal.1
  have hM := hW.m ho
  obtain ⟨f, v, R2, S2, g1, g2, g3, g4, g5, g6, g7, g8, g9, g10, g11⟩ := g_runs (ex := ex) hW hB hY hA hl hR hn hT hS hV hK (by omega) (by rw [wrL_eq vs 0 (fun j _ h2 => t2 j (by omega))]; exact hw) hle
  have t2' : TB T S2 := hT.eq g6 (fun k h1 h2 => by simp [RCb]; omega)
  obtain ⟨S3, e3, d1, d2, d3, d4⟩ := g_tells (nr := R2.2.1) (v := v) hA ho ho60 t2' g3 g7 (fun z => ⟨(g4 z).1, (g4 z).2.1, by rw [← hal.2]; exact (g4 z).2.2⟩)
  refine ⟨f, v, R2, S3, g1, ?_, d1, d2, d3, (g6.mono fRn_R).tr (d4.mono fRn_t), g5.eq d4 rfl rfl rfl rfl rfl, g8, g9, g7⟩
  unfold gX11_runSite_181
  rw [h29, if_pos rfl, mrA_n X 19 _ (by rw [ml_19]; omega) (by omega), o_bs, h19, g2, o_bs, e3, o_bs]
