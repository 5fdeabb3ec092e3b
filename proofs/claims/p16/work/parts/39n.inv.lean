/-! THE REFERENCE: what holds between calls; run. My own rows. -/
theorem in_01 (a b c : Int64) : inI a b c = 0 ∨ inI a b c = 1 := by
  unfold inI
  split
  · exact Or.inl rfl
  · split
    · exact Or.inl rfl
    · exact Or.inr rfl
theorem in_1 {c n : Nat} (h : c < n) (hn : n ≤ 60) : inI (nI c).toInt64 0 (nI n - 1).toInt64 = 1 := by
  obtain ⟨m, rfl⟩ : ∃ q, n = q + 1 := ⟨n - 1, by omega⟩
  rw [nI_p1, nI_l (by omega), nI_l (by omega)]
  unfold inI
  rw [if_neg, if_neg]
  · rw [lg_cmp_gt, lN_lt (by omega) (by omega)]; omega
  · rw [lg_cmp_lt, show (0 : Int64) = lN 0 from rfl, lN_lt (by omega) (by omega)]; omega
theorem in_h {x : Int32} {n : Nat} (hn : n ≤ 60) : (∃ c, c < n ∧ x = nI c ∧ inI x.toInt64 0 (nI n - 1).toInt64 = 1) ∨ ((∀ c, c < n → x ≠ nI c) ∧ inI x.toInt64 0 (nI n - 1).toInt64 = 0) := by
  by_cases h : inI x.toInt64 0 (nI n - 1).toInt64 = 0
  · refine Or.inr ⟨fun c hc e => ?_, h⟩
    rw [e, in_1 hc hn] at h
    exact absurd h (by decide)
  · obtain ⟨k, hk, e⟩ := in_lN h hn
    refine Or.inl ⟨k, hk, ?_, (in_01 _ _ _).resolve_left h⟩
    rw [← Int32.toInt32_toInt64 x, e, lN_i]
theorem g_isHandle {S : mS} {nh : Nat} (h : S.1 1 = nI nh) (x : Int32) : gX11_isHandle x S = some (inI x.toInt64 0 (nI nh - 1).toInt64, S) := by
  unfold gX11_isHandle gX11_isHandle_e
  rw [g_in, o_bs, h]
  rcases in_01 x.toInt64 0 (nI nh - 1).toInt64 with z | z <;> rw [z] <;> rfl
/-- the sites -/
def SI (T S : mS) (nh ns : Nat) : Prop := ∀ s, s < ns → ∃ h st, h < nh ∧ st < nh ∧ S.2.2.1 17 s = nI h ∧ S.2.2.1 18 s = nI st ∧ tys T st = [] ∧ tI T 5 st = 0 ∧ (S.2.2.1 19 s = -1 ∨ ∃ l, l < nh ∧ S.2.2.1 19 s = nI l ∧ tys T l = tys T h ∧ tI T 5 l = tI T 5 h)
/-- what holds between calls -/
def MI (T S : mS) (nh ns : Nat) (vs : List aVl) (R : aRS) : Prop := (TB T S ∧ S.1 1 = nI nh) ∧ (WT T nh ∧ WB T nh ∧ WY T nh R.2.1 ∧ WA T nh) ∧ (RT R ∧ RSt R S) ∧ (VA S vs ∧ ∀ v, v ∈ vs → VK R.2.1 v) ∧ ns ≤ 10 ∧ S.1 16 = nI ns ∧ SI T S nh ns
theorem VK.mono {nr nr2 : Nat} {v : aVl} (h : VK nr v) (hl : nr ≤ nr2) : VK nr2 v := by
  rcases h with a | a | ⟨a, r, b, c⟩ | a
  · exact Or.inl a
  · exact Or.inr (Or.inl a)
  · exact Or.inr (Or.inr (Or.inl ⟨a, r, by omega, c⟩))
  · exact Or.inr (Or.inr (Or.inr a))
theorem YP.mono {T : mS} {nr nr2 c : Nat} (h : YP T nr c) (hl : nr ≤ nr2) : YP T nr2 c := by
  unfold YP at h ⊢
  rcases h with ⟨a, b, d, e, g⟩ | h
  · refine Or.inl ⟨a, b, d, e, fun z => ?_⟩
    obtain ⟨r, h1, h2⟩ := g z
    exact ⟨r, by omega, h2⟩
  · exact Or.inr h
theorem YO.mono {T : mS} {nr nr2 c : Nat} (h : YO T nr c) (hl : nr ≤ nr2) : YO T nr2 c := by
  unfold YO at h ⊢
  rcases h with ⟨a, b, t, d, e⟩ | h
  · exact Or.inl ⟨a, b, t, d, e.mono hl⟩
  · exact Or.inr h
theorem WY.mono {T : mS} {nh nr nr2 : Nat} (h : WY T nh nr) (hl : nr ≤ nr2) : WY T nh nr2 := fun c hc => (h c hc).elim (fun z => Or.inl (z.mono hl)) fun z => Or.inr (z.mono hl)
theorem MI.to {T S S2 : mS} {nh ns : Nat} {vs : List aVl} {R R2 : aRS} {f : Nat → Bool} (M : MI T S nh ns vs R) (q : eqB f S S2) (hf : ∀ k, k < 23 → k ≠ 0 → k ≠ 13 → k ≠ 14 → k ≠ 15 → f k = false) (hS : RSt R2 S2) (hR : RT R2) (hl : R.2.1 ≤ R2.2.1) : MI T S2 nh ns vs R2 := by
  obtain ⟨⟨m1, m2⟩, ⟨m3, m4, m5, m6⟩, ⟨m7, m8⟩, ⟨m9, m10⟩, m11, m12, m13⟩ := M
  refine ⟨⟨m1.eq q (fun k h1 h2 => hf k (by omega) (by omega) (by omega) (by omega) (by omega)), by rw [← (q 1 (hf 1 (by decide) (by decide) (by decide) (by decide) (by decide))).1]; exact m2⟩, ⟨m3, m4, m5.mono hl, m6⟩, ⟨hR, hS⟩, ⟨m9.eq q (hf 20 (by decide) (by decide) (by decide) (by decide) (by decide)) (hf 21 (by decide) (by decide) (by decide) (by decide) (by decide)) (hf 22 (by decide) (by decide) (by decide) (by decide) (by decide)), fun v hv => (m10 v hv).mono hl⟩, m11, by rw [← (q 16 (hf 16 (by decide) (by decide) (by decide) (by decide) (by decide))).1]; exact m12, ?_⟩
  intro s hs
  rw [← (q 17 (hf 17 (by decide) (by decide) (by decide) (by decide) (by decide))).2.2.1, ← (q 18 (hf 18 (by decide) (by decide) (by decide) (by decide) (by decide))).2.2.1, ← (q 19 (hf 19 (by decide) (by decide) (by decide) (by decide) (by decide))).2.2.1]
  exact m13 s hs
/-- a run as it is asked for -/
def rn (T : mS) (c : Nat) (ex : Int32) (vs : List aVl) (R : aRS) : Option aRes := if isW T c ex vs = true then some (bad 7 (0, R.2)) else rnS T c vs (0, R.2)
/-- what a run leaves alone -/
def fRn (k : Nat) : Bool := k == 0 || k == 23 || k == 24 || k == 26 || RCb k
theorem fRn_R (k : Nat) (h : fRn k = false) : RCb k = false := by unfold fRn at h; simp at h; exact h.2
theorem fRn_t (k : Nat) (h : fRn k = false) : (k == 23 || k == 24 || k == 26) = false := by unfold fRn at h; simp at h; simp; omega
theorem g_run0 {T S : mS} {nh ns : Nat} {vs : List aVl} {R : aRS} (M : MI T S nh ns vs R) {x ex : Int32} (hx : ∀ c, c < nh → x ≠ nI c) : gX11_run x ex S = some (-2, sI S 0 0) := by
  unfold gX11_run
  rw [g_isHandle (nh := nh) (by simpa [sI, va_up] using M.1.2), o_bs]
  rcases in_h (x := x) (n := nh) M.2.1.1.1 with ⟨c, hc, e, -⟩ | ⟨-, z⟩
  · exact absurd e (hx c hc)
  · rw [z, if_pos rfl]
theorem g_run {T S : mS} {nh ns c : Nat} {vs : List aVl} {R : aRS} (M : MI T S nh ns vs R) (hc : c < nh) (ex : Int32) : ∃ (f : Int32) (v : aVl) (R2 : aRS) (S2 : mS), rn T c ex vs R = some (f, v, R2) ∧ gX11_run (nI c) ex S = some (tlR f, S2) ∧ MI T S2 nh ns vs R2 ∧ S2.1 26 = f ∧ S2.1 23 = (if f = 0 then v.1 else 3) ∧ S2.2.1 24 = (if f = 0 then v.2 else 0) ∧ eqB fRn S S2 ∧ 0 ≤ f ∧ R.2.1 ≤ R2.2.1 := by
  have hc60 : c < 60 := Nat.lt_of_lt_of_le hc M.2.1.1.1
  obtain ⟨⟨m1, m2⟩, ⟨m3, m4, m5, m6⟩, ⟨m7, m8⟩, ⟨m9, m10⟩, m11, m12, m13⟩ := id M
  unfold gX11_run
  rw [g_isHandle (nh := nh) (by simpa [sI, va_up] using m2), o_bs, in_1 hc m3.1, if_neg (show ¬ (1 : Int32) = 0 by decide)]
  unfold rn
  have q0 : eqB fRn S (sI (sI (sI S 0 0) 32 0) 29 7) := (eqB.I rfl).tr ((eqB.I rfl).tr (eqB.I rfl))
  have r0 : RSt (0, R.2) (sI (sI (sI S 0 0) 32 0) 29 7) := ⟨by simp [sI, va_up, nI_0], by simpa [sI, va_up] using m8.2.1, m8.2.2.1, m8.2.2.2.1, m8.2.2.2.2.1, by simpa [sI, va_up] using m8.2.2.2.2.2⟩
  have b29 : (sI (sI (sI S 0 0) 32 0) 29 7).1 29 = 7 := by simp [sI, va_up]
  generalize sI (sI (sI S 0 0) 32 0) 29 7 = S1 at q0 r0 b29
  have t1 : TB T S1 := m1.eq q0 (fun k h1 h2 => by simp [fRn, RCb]; omega)
  have v1 : VA S1 vs := m9.eq q0 rfl rfl rfl
  rw [g_isWrong m3 hc t1 v1, o_bs]
  by_cases hw : isW T c ex vs = true
  · simp only [hw, if_true]
    rw [if_neg (by decide)]
    obtain ⟨S2, e2, d1, d2, d3, d4⟩ := g_tells (nr := R.2.1) (v := (0, 0)) m6 hc hc60 t1 b29 (by decide) (fun z => absurd z (by decide))
    rw [e2, o_bs]
    exact ⟨7, (0, 0), (0, R.2), S2, rfl, rfl, M.to (q0.tr (d4.mono fRn_t)) (fun k h1 h2 h3 h4 h5 => by simp [fRn, RCb]; omega) (r0.eq d4 rfl rfl rfl rfl rfl) ⟨m7.1, m7.2⟩ (Nat.le_refl _), d1, d2, d3, q0.tr (d4.mono fRn_t), by decide, Nat.le_refl _⟩
  · simp only [hw]
    have hw2 : vs.length = tN T 3 c ∧ wrL T c ex 0 vs = false := by
      unfold isW at hw
      simp at hw
      exact hw
    obtain ⟨f, v, R2, S2, g1, g2, g3, g4, g5, g6, g7, g8, g9, g10, g11⟩ := g_runs (ex := ex) (R := (0, R.2)) m3 m4 m5 m6 hc ⟨m7.1, m7.2⟩ (Nat.le_refl _) t1 r0 v1 m10 hw2.1 hw2.2 (Nat.zero_le _)
    have t2 : TB T S2 := t1.eq g6 (fun k h1 h2 => by simp [RCb]; omega)
    obtain ⟨S3, e3, d1, d2, d3, d4⟩ := g_tells (nr := R2.2.1) (v := v) m6 hc hc60 t2 g3 g7 g4
    simp only [if_true, if_false, Bool.false_eq_true]
    rw [g2, o_bs, e3, o_bs]
    have q3 : eqB fRn S S3 := q0.tr ((g6.mono fRn_R).tr (d4.mono fRn_t))
    exact ⟨f, v, R2, S3, g1, rfl, M.to q3 (fun k h1 h2 h3 h4 h5 => by simp [fRn, RCb]; omega) (g5.eq d4 rfl rfl rfl rfl rfl) g8 g9, d1, d2, d3, q3, g7, g9⟩
