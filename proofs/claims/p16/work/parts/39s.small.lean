/-! THE REFERENCE: value as it is called, site, turn. My own rows. -/
theorem g_value21 {T S : mS} {nh ns : Nat} {vs : List aVl} {R : aRS} (M : MI T S nh ns vs R) (x kd : Int32) (j : Int64) : gX11_value_21 x kd j S = gX11_value_43 x kd j x.toInt64 0 (nI (min (vs.length + 1) 6) - 1).toInt64 S := by
  have h6 := M.2.2.2.1.1.1
  unfold gX11_value_21
  rw [M.2.2.2.1.1.2.1]
  by_cases h5 : 5 ≤ vs.length
  · rw [if_pos (show (5 : Int32) ≤ nI vs.length from nI_le (a := 5) h5 (by omega)), Nat.min_eq_right (by omega), show (nI 6 - 1).toInt64 = 5 by decide]
  · rw [if_neg (show ¬ (5 : Int32) ≤ nI vs.length from nI_ge (b := 5) (by omega) (by decide)), Nat.min_eq_left (by omega), nI_p1]
/-- value: it is refused as unknown, as outside, or it is put there -/
theorem g_value {T S : mS} {nh ns : Nat} {vs : List aVl} {R : aRS} (M : MI T S nh ns vs R) (x kd : Int32) (j : Int64) :
    ((kd = 2 ∧ ∀ r, r < R.2.1 → j ≠ lN r) ∧ gX11_value x kd j S = some (-2, sI S 0 0)) ∨
    (¬ (kd = 2 ∧ ∀ r, r < R.2.1 → j ≠ lN r) ∧ ((((∀ k, k < min (vs.length + 1) 6 → x ≠ nI k) ∨ (∀ c, c < 4 → kd ≠ nI c) ∨ (kd = 0 ∧ ¬ VI j)) ∧ gX11_value x kd j S = some (-3, sI S 0 0)) ∨
    (∃ k, k < min (vs.length + 1) 6 ∧ x = nI k ∧ (∃ c, c < 4 ∧ kd = nI c) ∧ (kd = 0 → VI j) ∧ ∃ S2, gX11_value x kd j S = some (nI (k + 1), S2) ∧ MI T S2 nh ns (vs.take k ++ [(kd, if kd = 3 then 0 else j)]) R ∧ eqB (fun k => k == 20 || k == 21 || k == 22) (sI S 0 0) S2))) := by
  have M0 := M.z
  have go : (kd = 2 → ∃ r, r < R.2.1 ∧ j = lN r) → gX11_value x kd j S = gX11_value_21 x kd j (sI S 0 0) → ((((∀ k, k < min (vs.length + 1) 6 → x ≠ nI k) ∨ (∀ c, c < 4 → kd ≠ nI c) ∨ (kd = 0 ∧ ¬ VI j)) ∧ gX11_value x kd j S = some (-3, sI S 0 0)) ∨
    (∃ k, k < min (vs.length + 1) 6 ∧ x = nI k ∧ (∃ c, c < 4 ∧ kd = nI c) ∧ (kd = 0 → VI j) ∧ ∃ S2, gX11_value x kd j S = some (nI (k + 1), S2) ∧ MI T S2 nh ns (vs.take k ++ [(kd, if kd = 3 then 0 else j)]) R ∧ eqB (fun k => k == 20 || k == 21 || k == 22) (sI S 0 0) S2)) := by
    intro h2 e
    rw [e, g_value21 M0]
    exact g_value43 M0 (by omega) (fun k hk => ⟨by omega, by omega⟩) x kd j h2
  by_cases hk : kd = 2
  · have e1 : gX11_value x kd j S = if inI j 0 (nI R.2.1 - 1).toInt64 = 0 then some (-2, sI S 0 0) else gX11_value_21 x kd j (sI S 0 0) := by
      unfold gX11_value
      rw [if_pos hk, g_isRow M0.2.2.1.2.2.1, o_bs]
    rcases in_l (j := j) M.2.2.1.1.1 with ⟨r, hr, er, z⟩ | ⟨hn, z⟩
    · rw [z, if_neg (by decide)] at e1
      exact Or.inr ⟨fun w => w.2 r hr er, go (fun _ => ⟨r, hr, er⟩) e1⟩
    · rw [z, if_pos rfl] at e1
      exact Or.inl ⟨⟨hk, hn⟩, e1⟩
  · have e1 : gX11_value x kd j S = gX11_value_21 x kd j (sI S 0 0) := by
      unfold gX11_value
      rw [if_neg hk]
    exact Or.inr ⟨fun w => hk w.1, go (fun z => absurd z hk) e1⟩
theorem g_site0 {T S : mS} {nh ns : Nat} {vs : List aVl} {R : aRS} (M : MI T S nh ns vs R) {x y : Int32} (hx : (∀ c, c < nh → x ≠ nI c) ∨ ∀ c, c < nh → y ≠ nI c) : gX11_site x y S = some (-2, sI S 0 0) := by
  unfold gX11_site
  rw [g_isHandle (nh := nh) M.z.1.2, o_bs]
  rcases in_h (x := x) (n := nh) M.2.1.1.1 with ⟨c, hc, e, z⟩ | ⟨-, z⟩
  · rw [z, if_neg (show ¬ (1 : Int32) = 0 by decide), g_isHandle (nh := nh) M.z.1.2, o_bs]
    rcases in_h (x := y) (n := nh) M.2.1.1.1 with ⟨d, hd, e2, z2⟩ | ⟨-, z2⟩
    · rcases hx with w | w
      · exact absurd e (w c hc)
      · exact absurd e2 (w d hd)
    · rw [z2, if_pos rfl]
  · rw [z, if_pos rfl]
theorem g_site {T S : mS} {nh ns h st : Nat} {vs : List aVl} {R : aRS} (M : MI T S nh ns vs R) (hh : h < nh) (hst : st < nh) :
    (¬ (tN T 3 st = 0 ∧ tI T 5 st = 0) ∧ gX11_site (nI h) (nI st) S = some (-4, sI S 0 0)) ∨
    ((tN T 3 st = 0 ∧ tI T 5 st = 0) ∧ ns = 10 ∧ gX11_site (nI h) (nI st) S = some (-5, sI S 0 0)) ∨
    ((tN T 3 st = 0 ∧ tI T 5 st = 0) ∧ ns < 10 ∧ ∃ S2, gX11_site (nI h) (nI st) S = some (nI ns, S2) ∧ MI T S2 nh (ns + 1) vs R ∧ S2.2.2.1 17 ns = nI h ∧ S2.2.2.1 18 ns = nI st ∧ S2.2.2.1 19 ns = -1 ∧ (∀ s, s < ns → S2.2.2.1 17 s = S.2.2.1 17 s ∧ S2.2.2.1 18 s = S.2.2.1 18 s ∧ S2.2.2.1 19 s = S.2.2.1 19 s) ∧ eqB (fun k => k == 0 || k == 16 || k == 17 || k == 18 || k == 19) S S2) := by
  have M0 := M.z
  have h60 := M.2.1.1.1
  have hM := M.2.1.1.m hst
  have h10 := M.2.2.2.2.1
  have hT : ∀ k i, 2 ≤ k → k ≤ 12 → (sI S 0 0).2.2.1 k i = tI T k i := fun k i h1 h2 => by rw [(M0.1.1 k h1 h2).1]
  have e16 : (sI S 0 0).1 16 = nI ns := M0.2.2.2.2.2.1
  unfold gX11_site
  rw [g_isHandle (nh := nh) M0.1.2, o_bs, in_1 hh h60, if_neg (show ¬ (1 : Int32) = 0 by decide), g_isHandle (nh := nh) M0.1.2, o_bs, in_1 hst h60, if_neg (show ¬ (1 : Int32) = 0 by decide), mrA_n _ 3 _ (by rw [ml_3]; omega) (by omega), o_bs, hT 3 st (by decide) (by decide), hM.1]
  by_cases h0 : tN T 3 st = 0
  · rw [if_pos (by rw [h0]; rfl), mrA_n _ 5 _ (by rw [ml_5]; omega) (by omega), o_bs, hT 5 st (by decide) (by decide)]
    by_cases h5 : tI T 5 st = 0
    · rw [if_pos h5, e16]
      by_cases hs : ns = 10
      · exact Or.inr (Or.inl ⟨⟨h0, h5⟩, hs, by rw [if_pos (by rw [hs]; rfl)]⟩)
      · have hlt : ns < 10 := by omega
        refine Or.inr (Or.inr ⟨⟨h0, h5⟩, hlt, ?_⟩)
        rw [if_neg (fun z => hs ((nI_eq (by omega) (by decide)).mp (z.trans (show (10 : Int32) = nI 10 from rfl)))), mwA_n _ 17 _ _ (by rw [ml_17]; omega) (by omega), o_bs]
        rw [show (sA (sI S 0 0) 17 ns (nI h)).1 16 = nI ns from e16, mwA_n _ 18 _ _ (by rw [ml_18]; omega) (by omega), o_bs]
        rw [show (sA (sA (sI S 0 0) 17 ns (nI h)) 18 ns (nI st)).1 16 = nI ns from e16, mwA_n _ 19 _ _ (by rw [ml_19]; omega) (by omega), o_bs]
        rw [show (sA (sA (sA (sI S 0 0) 17 ns (nI h)) 18 ns (nI st)) 19 ns (-1)).1 16 = nI ns from e16, nI_1]
        have q1 : eqB (fun k => k == 0 || k == 16 || k == 17 || k == 18 || k == 19) S (sI (sA (sA (sA (sI S 0 0) 17 ns (nI h)) 18 ns (nI st)) 19 ns (-1)) 16 (nI (ns + 1))) := (eqB.I rfl).tr ((eqB.A rfl).tr ((eqB.A rfl).tr ((eqB.A rfl).tr (eqB.I rfl))))
        have a16 : (sI (sA (sA (sA (sI S 0 0) 17 ns (nI h)) 18 ns (nI st)) 19 ns (-1)) 16 (nI (ns + 1))).1 16 = nI (ns + 1) := by simp [sI, va_up]
        have a17 : ∀ s, (sI (sA (sA (sA (sI S 0 0) 17 ns (nI h)) 18 ns (nI st)) 19 ns (-1)) 16 (nI (ns + 1))).2.2.1 17 s = if s = ns then nI h else S.2.2.1 17 s := by intro s; simp [sI, sA, va_up]
        have a18 : ∀ s, (sI (sA (sA (sA (sI S 0 0) 17 ns (nI h)) 18 ns (nI st)) 19 ns (-1)) 16 (nI (ns + 1))).2.2.1 18 s = if s = ns then nI st else S.2.2.1 18 s := by intro s; simp [sI, sA, va_up]
        have a19 : ∀ s, (sI (sA (sA (sA (sI S 0 0) 17 ns (nI h)) 18 ns (nI st)) 19 ns (-1)) 16 (nI (ns + 1))).2.2.1 19 s = if s = ns then -1 else S.2.2.1 19 s := by intro s; simp [sI, sA, va_up]
        generalize sI (sA (sA (sA (sI S 0 0) 17 ns (nI h)) 18 ns (nI st)) 19 ns (-1)) 16 (nI (ns + 1)) = S2 at q1 a16 a17 a18 a19
        obtain ⟨⟨m1, m2⟩, m3, ⟨m7, m8⟩, ⟨m9, m10⟩, m11, m12, m13⟩ := id M
        refine ⟨S2, by rw [a16, nI_p1], ⟨⟨m1.eq q1 (fun k h1 h2 => by simp; omega), by rw [← (q1 1 rfl).1]; exact m2⟩, m3, ⟨m7, m8.eq q1 rfl rfl rfl rfl rfl⟩, ⟨m9.eq q1 rfl rfl rfl, m10⟩, by omega, a16, ?_⟩, by rw [a17, if_pos rfl], by rw [a18, if_pos rfl], by rw [a19, if_pos rfl], fun s hs => by rw [a17, a18, a19, if_neg (by omega), if_neg (by omega), if_neg (by omega)]; exact ⟨rfl, rfl, rfl⟩, q1⟩
        intro s hs2
        rw [a17, a18, a19]
        by_cases e : s = ns
        · rw [if_pos e, if_pos e, if_pos e]
          refine ⟨h, st, hh, hst, rfl, rfl, ?_, h5, Or.inl rfl⟩
          exact List.length_eq_zero_iff.mp (by rw [tys_len, h0])
        · rw [if_neg e, if_neg e, if_neg e]
          exact m13 s (by omega)
    · exact Or.inl ⟨fun z => h5 z.2, by rw [if_neg h5]⟩
  · exact Or.inl ⟨fun z => h0 z.1, by rw [if_neg (fun z => h0 ((nI_eq (a := tN T 3 st) (b := 0) (by omega) (by decide)).mp (z.trans (show (0 : Int32) = nI 0 from rfl))))]⟩
