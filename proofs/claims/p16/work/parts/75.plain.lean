/-! CLASS AND REFERENCE: plain. My own rows. -/
/-- the numbers fit -/
def pV (F a b : Int32) : Prop := ¬ inI F.toInt64 0 13 = 0 ∧ (F = 0 ∨ F = 12 → ¬ inI a.toInt64 0 4 = 0) ∧ (F = 1 → ¬ inI a.toInt64 0 3 = 0) ∧ (F = 12 → ¬ inI b.toInt64 0 99 = 0)
theorem g_p26 (F a b : Int32) (S : mS) : (pV F a b → gX11_plain_26 F a b S = gX11_plain_98 F a b S) ∧ (¬ pV F a b → gX11_plain_26 F a b S = some (-3, S)) := by
  have e77 : ((F = 12 → ¬ inI b.toInt64 0 99 = 0) → gX11_plain_77 F a b S = gX11_plain_98 F a b S) ∧ (¬ (F = 12 → ¬ inI b.toInt64 0 99 = 0) → gX11_plain_77 F a b S = some (-3, S)) := by
    unfold gX11_plain_77
    by_cases h : F = 12
    · rw [if_pos h, g_in, o_bs]
      by_cases hb : inI b.toInt64 0 99 = 0
      · rw [if_pos hb]; exact ⟨fun q => absurd hb (q h), fun _ => rfl⟩
      · rw [if_neg hb]; exact ⟨fun _ => rfl, fun q => absurd (fun _ => hb) q⟩
    · rw [if_neg h]; exact ⟨fun _ => rfl, fun q => absurd (fun q2 => absurd q2 h) q⟩
  have e60 : ((F = 1 → ¬ inI a.toInt64 0 3 = 0) → gX11_plain_60 F a b S = gX11_plain_77 F a b S) ∧ (¬ (F = 1 → ¬ inI a.toInt64 0 3 = 0) → gX11_plain_60 F a b S = some (-3, S)) := by
    unfold gX11_plain_60
    by_cases h : F = 1
    · rw [if_pos h, g_in, o_bs]
      by_cases hb : inI a.toInt64 0 3 = 0
      · rw [if_pos hb]; exact ⟨fun q => absurd hb (q h), fun _ => rfl⟩
      · rw [if_neg hb]; exact ⟨fun _ => rfl, fun q => absurd (fun _ => hb) q⟩
    · rw [if_neg h]; exact ⟨fun _ => rfl, fun q => absurd (fun q2 => absurd q2 h) q⟩
  have e48 : (¬ inI a.toInt64 0 4 = 0 → gX11_plain_48 F a b S = gX11_plain_60 F a b S) ∧ (inI a.toInt64 0 4 = 0 → gX11_plain_48 F a b S = some (-3, S)) := by
    unfold gX11_plain_48
    rw [g_in, o_bs]
    by_cases hb : inI a.toInt64 0 4 = 0
    · rw [if_pos hb]; exact ⟨fun q => absurd hb q, fun _ => rfl⟩
    · rw [if_neg hb]; exact ⟨fun _ => rfl, fun q => absurd q hb⟩
  have e26 : gX11_plain_26 F a b S = if inI F.toInt64 0 13 = 0 then some (-3, S) else if F = 0 then gX11_plain_48 F a b S else if F = 12 then gX11_plain_48 F a b S else gX11_plain_60 F a b S := by
    unfold gX11_plain_26
    rw [g_in, o_bs]
  rw [e26]
  unfold pV
  by_cases h0 : inI F.toInt64 0 13 = 0
  · rw [if_pos h0]; exact ⟨fun q => absurd h0 q.1, fun _ => rfl⟩
  rw [if_neg h0]
  have fin : (F = 0 ∨ F = 12 → ¬ inI a.toInt64 0 4 = 0) → (((F = 1 → ¬ inI a.toInt64 0 3 = 0) ∧ (F = 12 → ¬ inI b.toInt64 0 99 = 0) → gX11_plain_60 F a b S = gX11_plain_98 F a b S) ∧ (¬ ((F = 1 → ¬ inI a.toInt64 0 3 = 0) ∧ (F = 12 → ¬ inI b.toInt64 0 99 = 0)) → gX11_plain_60 F a b S = some (-3, S))) := by
    intro _
    refine ⟨fun q => (e60.1 q.1).trans (e77.1 q.2), fun q => ?_⟩
    by_cases h1 : F = 1 → ¬ inI a.toInt64 0 3 = 0
    · exact (e60.1 h1).trans (e77.2 fun q2 => q ⟨h1, q2⟩)
    · exact e60.2 h1
  by_cases h1 : F = 0 ∨ F = 12
  · have e : (if F = 0 then gX11_plain_48 F a b S else if F = 12 then gX11_plain_48 F a b S else gX11_plain_60 F a b S) = gX11_plain_48 F a b S := by
      rcases h1 with h | h
      · rw [if_pos h]
      · by_cases h2 : F = 0
        · rw [if_pos h2]
        · rw [if_neg h2, if_pos h]
    rw [e]
    by_cases hb : inI a.toInt64 0 4 = 0
    · rw [e48.2 hb]
      exact ⟨fun q => absurd hb (q.2.1 h1), fun _ => rfl⟩
    · rw [e48.1 hb]
      have f := fin fun _ => hb
      exact ⟨fun q => f.1 q.2.2, fun q => f.2 fun q2 => q ⟨h0, fun _ => hb, q2⟩⟩
  · rw [if_neg (fun q => h1 (Or.inl q)), if_neg (fun q => h1 (Or.inr q))]
    have f := fin fun q => absurd q h1
    exact ⟨fun q => f.1 q.2.2, fun q => f.2 fun q2 => q ⟨h0, fun q3 => absurd q3 h1, q2⟩⟩
theorem g_pt {S : mS} {nh n : Nat} {ts : List Int32} (h60 : nh < 60) (hn : S.1 1 = nI nh) (F a b g x y w : Int32) (hl : n = ts.length) (h3 : ts = [x, y, w].take n) (h33 : n ≤ 3) : ∃ S1 S2, ((gX11_take (nI n) x y w S).bind fun q => gX11_plain_295 F a b g q) = some (nI nh, S2) ∧ eqB (fun k => k == 27 || k == 28) S S1 ∧ NHo S1 S2 nh ts F g 0 0 0 a b := by
  obtain ⟨S1, e1, t1, q1⟩ := g_take (S := S) x y w hl h3 h33
  obtain ⟨S2, e2, n2⟩ := g_newHandle (S := S1) h60 (by rw [← (q1 1 rfl).1]; exact hn) t1 F g 0 0 0 a b
  refine ⟨S1, S2, ?_, q1, n2⟩
  rw [e1, o_bs]
  unfold gX11_plain_295
  rw [e2, o_bs]
theorem g_p98 {S : mS} {nh : Nat} (h60 : nh < 60) (hn : S.1 1 = nI nh) (F a b : Int32) : ∃ S1 S2, gX11_plain_98 F a b S = some (nI nh, S2) ∧ eqB (fun k => k == 27 || k == 28) S S1 ∧ NHo S1 S2 nh (pTs F a) F (pGv F a) 0 0 0 a b := by
  unfold gX11_plain_98 gX11_plain_184 gX11_plain_287 pTs pGv
  rw [if_neg (by rw [hn]; exact fun e => absurd ((nI_eq (a := nh) (b := 60) (by omega) (by decide)).mp e) (by omega))]
  by_cases h0 : F = 0
  · rw [if_pos h0, if_pos h0, if_pos h0]
    exact g_pt (n := 0) (ts := []) h60 hn F a b a 0 0 0 rfl rfl (by decide)
  rw [if_neg h0, if_neg h0, if_neg h0]
  by_cases h1 : F = 1
  · rw [if_pos h1, if_pos h1, if_pos h1]
    exact g_pt (n := 1) (ts := [a]) h60 hn F a b a a 0 0 rfl rfl (by decide)
  rw [if_neg h1, if_neg h1, if_neg h1]
  by_cases h2 : F = 2
  · rw [if_pos h2, if_neg (show ¬ F = 7 by rw [h2]; decide), if_neg (show ¬ F = 8 by rw [h2]; decide), if_neg (show ¬ F = 9 by rw [h2]; decide), if_neg (show ¬ F = 10 by rw [h2]; decide), if_neg (show ¬ F = 11 by rw [h2]; decide), if_neg (show ¬ F = 12 by rw [h2]; decide), if_neg (show ¬ F = 13 by rw [h2]; decide), if_neg (show ¬ F = 7 by rw [h2]; decide), if_neg (show ¬ F = 8 by rw [h2]; decide), if_neg (show ¬ F = 9 by rw [h2]; decide), if_neg (show ¬ F = 10 by rw [h2]; decide), if_neg (show ¬ F = 11 by rw [h2]; decide), if_neg (show ¬ F = 12 by rw [h2]; decide), if_neg (show ¬ F = 13 by rw [h2]; decide)]
    exact g_pt (n := 2) (ts := [0, 0]) h60 hn F a b 0 0 0 0 rfl rfl (by decide)
  rw [if_neg h2]
  by_cases h3 : F = 3
  · rw [if_pos h3, if_neg (show ¬ F = 7 by rw [h3]; decide), if_neg (show ¬ F = 8 by rw [h3]; decide), if_neg (show ¬ F = 9 by rw [h3]; decide), if_neg (show ¬ F = 10 by rw [h3]; decide), if_neg (show ¬ F = 11 by rw [h3]; decide), if_neg (show ¬ F = 12 by rw [h3]; decide), if_neg (show ¬ F = 13 by rw [h3]; decide), if_neg (show ¬ F = 7 by rw [h3]; decide), if_neg (show ¬ F = 8 by rw [h3]; decide), if_neg (show ¬ F = 9 by rw [h3]; decide), if_neg (show ¬ F = 10 by rw [h3]; decide), if_neg (show ¬ F = 11 by rw [h3]; decide), if_neg (show ¬ F = 12 by rw [h3]; decide), if_neg (show ¬ F = 13 by rw [h3]; decide)]
    exact g_pt (n := 2) (ts := [0, 0]) h60 hn F a b 0 0 0 0 rfl rfl (by decide)
  rw [if_neg h3]
  by_cases h4 : F = 4
  · rw [if_pos h4, if_neg (show ¬ F = 7 by rw [h4]; decide), if_neg (show ¬ F = 8 by rw [h4]; decide), if_neg (show ¬ F = 9 by rw [h4]; decide), if_neg (show ¬ F = 10 by rw [h4]; decide), if_neg (show ¬ F = 11 by rw [h4]; decide), if_neg (show ¬ F = 12 by rw [h4]; decide), if_neg (show ¬ F = 13 by rw [h4]; decide), if_neg (show ¬ F = 7 by rw [h4]; decide), if_neg (show ¬ F = 8 by rw [h4]; decide), if_neg (show ¬ F = 9 by rw [h4]; decide), if_neg (show ¬ F = 10 by rw [h4]; decide), if_neg (show ¬ F = 11 by rw [h4]; decide), if_neg (show ¬ F = 12 by rw [h4]; decide), if_neg (show ¬ F = 13 by rw [h4]; decide)]
    exact g_pt (n := 2) (ts := [0, 0]) h60 hn F a b 0 0 0 0 rfl rfl (by decide)
  rw [if_neg h4]
  by_cases h5 : F = 5
  · rw [if_pos h5, if_neg (show ¬ F = 7 by rw [h5]; decide), if_neg (show ¬ F = 8 by rw [h5]; decide), if_neg (show ¬ F = 9 by rw [h5]; decide), if_neg (show ¬ F = 10 by rw [h5]; decide), if_neg (show ¬ F = 11 by rw [h5]; decide), if_neg (show ¬ F = 12 by rw [h5]; decide), if_neg (show ¬ F = 13 by rw [h5]; decide), if_neg (show ¬ F = 7 by rw [h5]; decide), if_neg (show ¬ F = 8 by rw [h5]; decide), if_neg (show ¬ F = 9 by rw [h5]; decide), if_neg (show ¬ F = 10 by rw [h5]; decide), if_neg (show ¬ F = 11 by rw [h5]; decide), if_neg (show ¬ F = 12 by rw [h5]; decide), if_neg (show ¬ F = 13 by rw [h5]; decide)]
    exact g_pt (n := 2) (ts := [0, 0]) h60 hn F a b 0 0 0 0 rfl rfl (by decide)
  rw [if_neg h5]
  by_cases h6 : F = 6
  · rw [if_pos h6, if_neg (show ¬ F = 7 by rw [h6]; decide), if_neg (show ¬ F = 8 by rw [h6]; decide), if_neg (show ¬ F = 9 by rw [h6]; decide), if_neg (show ¬ F = 10 by rw [h6]; decide), if_neg (show ¬ F = 11 by rw [h6]; decide), if_neg (show ¬ F = 12 by rw [h6]; decide), if_neg (show ¬ F = 13 by rw [h6]; decide), if_neg (show ¬ F = 7 by rw [h6]; decide), if_neg (show ¬ F = 8 by rw [h6]; decide), if_neg (show ¬ F = 9 by rw [h6]; decide), if_neg (show ¬ F = 10 by rw [h6]; decide), if_neg (show ¬ F = 11 by rw [h6]; decide), if_neg (show ¬ F = 12 by rw [h6]; decide), if_neg (show ¬ F = 13 by rw [h6]; decide)]
    exact g_pt (n := 2) (ts := [0, 0]) h60 hn F a b 0 0 0 0 rfl rfl (by decide)
  rw [if_neg h6]
  by_cases h7 : F = 7
  · rw [if_pos h7, if_pos h7, if_pos h7]
    exact g_pt (n := 2) (ts := [1, 1]) h60 hn F a b 1 1 1 0 rfl rfl (by decide)
  rw [if_neg h7, if_neg h7, if_neg h7]
  by_cases h8 : F = 8
  · rw [if_pos h8, if_pos h8, if_pos h8]
    exact g_pt (n := 2) (ts := [3, 0]) h60 hn F a b 0 3 0 0 rfl rfl (by decide)
  rw [if_neg h8, if_neg h8, if_neg h8]
  by_cases h9 : F = 9
  · rw [if_pos h9, if_pos h9, if_pos h9]
    exact g_pt (n := 3) (ts := [3, 0, 0]) h60 hn F a b 4 3 0 0 rfl rfl (by decide)
  rw [if_neg h9, if_neg h9, if_neg h9]
  by_cases h10 : F = 10
  · rw [if_pos h10, if_pos h10, if_pos h10]
    exact g_pt (n := 1) (ts := [3]) h60 hn F a b 0 3 0 0 rfl rfl (by decide)
  rw [if_neg h10, if_neg h10, if_neg h10]
  by_cases h11 : F = 11
  · rw [if_pos h11, if_pos h11, if_pos h11]
    exact g_pt (n := 1) (ts := [0]) h60 hn F a b 3 0 0 0 rfl rfl (by decide)
  rw [if_neg h11, if_neg h11, if_neg h11]
  by_cases h12 : F = 12
  · rw [if_pos h12, if_pos h12, if_pos h12]
    exact g_pt (n := 0) (ts := []) h60 hn F a b a 0 0 0 rfl rfl (by decide)
  rw [if_neg h12, if_neg h12, if_neg h12]
  by_cases h13 : F = 13
  · rw [if_pos h13, if_pos h13, if_pos h13]
    exact g_pt (n := 0) (ts := []) h60 hn F a b 0 0 0 0 rfl rfl (by decide)
  rw [if_neg h13, if_neg h13, if_neg h13]
  exact g_pt (n := 2) (ts := [0, 0]) h60 hn F a b 0 0 0 0 rfl rfl (by decide)
section
variable {z : Nat → Nat} {h : aH}
theorem c_with (x lo hi : Int32) : fX6_isWithin z x lo hi h = some (inI x.toInt64 lo.toInt64 hi.toInt64, h) := by
  unfold fX6_isWithin fX6_isWithin_e inI
  have c1 : (lg_cmp x.toInt64 lo.toInt64 < 0) ↔ x < lo := by rw [lg_cmp_lt, Int64.lt_iff_toInt_lt, Int32.lt_iff_toInt_lt, Int32.toInt_toInt64, Int32.toInt_toInt64]
  have c2 : (0 < lg_cmp x.toInt64 hi.toInt64) ↔ hi < x := by rw [lg_cmp_gt, Int64.lt_iff_toInt_lt, Int32.lt_iff_toInt_lt, Int32.toInt_toInt64, Int32.toInt_toInt64]
  by_cases h1 : x < lo
  · rw [if_pos h1, if_pos (c1.mpr h1), chk_0]
  · rw [if_neg h1, if_neg (fun q => h1 (c1.mp q))]
    by_cases h2 : hi < x
    · rw [if_pos h2, if_pos (c2.mpr h2), chk_0]
    · rw [if_neg h2, if_neg (fun q => h2 (c2.mp q)), chk_1]
theorem c_fitsP (F a b : Int32) : (pV F a b → fX6_plainFits z F a b h = some (1, h)) ∧ (¬ pV F a b → fX6_plainFits z F a b h = some (0, h)) := by
  have w04 : ∀ x, fX6_isWithin z x 0 4 h = some (inI x.toInt64 0 4, h) := fun x => c_with x 0 4
  have w03 : ∀ x, fX6_isWithin z x 0 3 h = some (inI x.toInt64 0 3, h) := fun x => c_with x 0 3
  have w99 : ∀ x, fX6_isWithin z x 0 99 h = some (inI x.toInt64 0 99, h) := fun x => c_with x 0 99
  have w13 : ∀ x, fX6_isWithin z x 0 13 h = some (inI x.toInt64 0 13, h) := fun x => c_with x 0 13
  have z1 : ∀ {a b c : Int64}, ¬ inI a b c = 0 → inI a b c = 1 := fun {a b c} q => (in_01 a b c).resolve_left q
  unfold fX6_plainFits fX6_plainFits_e pV
  by_cases h0 : F = 0
  · rw [if_pos h0, w04, o_bs]
    by_cases ha : inI a.toInt64 0 4 = 0
    · rw [ha]
      exact ⟨fun q => absurd rfl (q.2.1 (Or.inl h0)), fun _ => chk_0 h⟩
    · rw [z1 ha]
      refine ⟨fun _ => chk_1 h, fun q => absurd ⟨?_, fun _ => by decide, ?_, ?_⟩ q⟩
      · rw [h0]; decide
      · intro q; rw [h0] at q; exact absurd q (by decide)
      · intro q; rw [h0] at q; exact absurd q (by decide)
  rw [if_neg h0]
  by_cases h1 : F = 1
  · rw [if_pos h1, w03, o_bs]
    by_cases ha : inI a.toInt64 0 3 = 0
    · rw [ha]
      exact ⟨fun q => absurd rfl (q.2.2.1 h1), fun _ => chk_0 h⟩
    · rw [z1 ha]
      refine ⟨fun _ => chk_1 h, fun q => absurd ⟨?_, ?_, fun _ => by decide, ?_⟩ q⟩
      · rw [h1]; decide
      · intro q; rw [h1] at q; exact absurd q (by decide)
      · intro q; rw [h1] at q; exact absurd q (by decide)
  rw [if_neg h1]
  by_cases h12 : F = 12
  · rw [if_pos h12, w04, o_bs]
    by_cases ha : inI a.toInt64 0 4 = 0
    · rw [ha]
      exact ⟨fun q => absurd rfl (q.2.1 (Or.inr h12)), fun _ => chk_0 h⟩
    · rw [z1 ha]
      simp only
      rw [if_neg (by decide), w99, o_bs]
      by_cases hb : inI b.toInt64 0 99 = 0
      · rw [hb]
        exact ⟨fun q => absurd rfl (q.2.2.2 h12), fun _ => chk_0 h⟩
      · rw [z1 hb]
        refine ⟨fun _ => chk_1 h, fun q => absurd ⟨?_, fun _ => by decide, ?_, fun _ => by decide⟩ q⟩
        · rw [h12]; decide
        · intro q; rw [h12] at q; exact absurd q (by decide)
  rw [if_neg h12, w13, o_bs]
  by_cases hf : inI F.toInt64 0 13 = 0
  · rw [hf]
    exact ⟨fun q => absurd rfl q.1, fun _ => chk_0 h⟩
  · rw [z1 hf]
    exact ⟨fun _ => chk_1 h, fun q => absurd ⟨by decide, fun q => absurd q (by rintro (q | q); exact h0 q; exact h12 q), fun q => absurd q h1, fun q => absurd q h12⟩ q⟩
end

