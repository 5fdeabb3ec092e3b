/-! THE REFERENCE: turn. My own rows. -/
theorem m1_lt : ((-1 : Int32) < 0) ∧ ¬ ((0 : Int32) ≤ -1) := by decide
theorem g_turn0 {T S : mS} {nh ns : Nat} {vs : List aVl} {R : aRS} (M : MI T S nh ns vs R) {x y : Int32} (hx : (∀ s, s < ns → x ≠ nI s) ∨ ∀ c, c < nh → y ≠ nI c) : gX11_turn x y S = some (-2, sI S 0 0) := by
  have h10 := M.2.2.2.2.1
  have e16 : (sI S 0 0).1 16 = nI ns := M.z.2.2.2.2.2.1
  unfold gX11_turn
  rw [g_in, o_bs, e16]
  rcases in_h (x := x) (n := ns) (by omega) with ⟨s, hs, e, z⟩ | ⟨-, z⟩
  · rw [z, if_neg (show ¬ (1 : Int32) = 0 by decide), g_isHandle (nh := nh) M.z.1.2, o_bs]
    rcases in_h (x := y) (n := nh) M.2.1.1.1 with ⟨d, hd, e2, z2⟩ | ⟨-, z2⟩
    · rcases hx with w | w
      · exact absurd e (w s hs)
      · exact absurd e2 (w d hd)
    · rw [z2, if_pos rfl]
  · rw [z, if_pos rfl]
theorem g_turn {T S : mS} {nh ns s h o : Nat} {vs : List aVl} {R : aRS} (M : MI T S nh ns vs R) (hs : s < ns) (hh : h < nh) (ho : o < nh) (eo : S.2.2.1 17 s = nI o) :
    ((S.2.2.1 19 s = -1 ∨ ¬ alk T h o) ∧ gX11_turn (nI s) (nI h) S = some (-4, sI S 0 0)) ∨
    ((¬ S.2.2.1 19 s = -1 ∧ alk T h o) ∧ ∃ S2, gX11_turn (nI s) (nI h) S = some (1, S2) ∧ MI T S2 nh ns vs R ∧ S2.2.2.1 19 s = nI h ∧ (∀ i, i ≠ s → S2.2.2.1 19 i = S.2.2.1 19 i) ∧ eqB (fun k => k == 0 || k == 19) S S2) := by
  have M0 := M.z
  have h60 := M.2.1.1.1
  have h10 := M.2.2.2.2.1
  have e16 : (sI S 0 0).1 16 = nI ns := M0.2.2.2.2.2.1
  obtain ⟨⟨m1, m2⟩, m3, ⟨m7, m8⟩, ⟨m9, m10⟩, m11, m12, m13⟩ := id M
  have hl : S.2.2.1 19 s = -1 ∨ ∃ l, l < nh ∧ S.2.2.1 19 s = nI l := by
    obtain ⟨_, _, _, _, _, _, _, _, w⟩ := m13 s hs
    rcases w with w | ⟨l, w1, w2, -⟩
    · exact Or.inl w
    · exact Or.inr ⟨l, w1, w2⟩
  unfold gX11_turn
  rw [g_in, o_bs, e16, in_1 hs (by omega), if_neg (show ¬ (1 : Int32) = 0 by decide), g_isHandle (nh := nh) M0.1.2, o_bs, in_1 hh h60, if_neg (show ¬ (1 : Int32) = 0 by decide), mrA_n _ 19 _ (by rw [ml_19]; omega) (by omega), o_bs, show (sI S 0 0).2.2.1 19 s = S.2.2.1 19 s from rfl]
  rcases hl with hl | ⟨l, hl1, hl2⟩
  · exact Or.inl ⟨Or.inl hl, by rw [hl, if_pos m1_lt.1]⟩
  · have hne : ¬ S.2.2.1 19 s = -1 := fun z => m1_lt.2 (by rw [← z, hl2]; exact nI_pos' (by omega))
    rw [hl2, if_neg (nI_pos (by omega)), mrA_n _ 17 _ (by rw [ml_17]; omega) (by omega), o_bs, show (sI S 0 0).2.2.1 17 s = nI o from eo]
    rcases g_alike m3.1 M0.1.1 hh ho with ⟨ha, e⟩ | ⟨ha, e⟩
    · refine Or.inr ⟨⟨by rw [← hl2]; exact hne, ha⟩, ?_⟩
      rw [e, o_bs, if_neg (show ¬ (1 : Int32) = 0 by decide), mwA_n _ 19 _ _ (by rw [ml_19]; omega) (by omega), o_bs]
      have q1 : eqB (fun k => k == 0 || k == 19) S (sA (sI S 0 0) 19 s (nI h)) := (eqB.I rfl).tr (eqB.A rfl)
      have a19 : ∀ i, (sA (sI S 0 0) 19 s (nI h)).2.2.1 19 i = if i = s then nI h else S.2.2.1 19 i := by intro i; simp [sA, sI, va_up]
      generalize sA (sI S 0 0) 19 s (nI h) = S2 at q1 a19
      refine ⟨S2, rfl, ⟨⟨m1.eq q1 (fun k h1 h2 => by simp; omega), by rw [← (q1 1 rfl).1]; exact m2⟩, m3, ⟨m7, m8.eq q1 rfl rfl rfl rfl rfl⟩, ⟨m9.eq q1 rfl rfl rfl, m10⟩, m11, by rw [← (q1 16 rfl).1]; exact m12, ?_⟩, by rw [a19, if_pos rfl], fun i hi => by rw [a19, if_neg hi], q1⟩
      intro i hi
      obtain ⟨h2, st, w1, w2, w3, w4, w5, w6, w7⟩ := m13 i hi
      rw [← (q1 17 rfl).2.2.1, ← (q1 18 rfl).2.2.1, a19]
      refine ⟨h2, st, w1, w2, w3, w4, w5, w6, ?_⟩
      by_cases e : i = s
      · subst e
        have : h2 = o := (nI_eq (by omega) (by omega)).mp (w3.symm.trans eo)
        subst this
        rw [if_pos rfl]
        exact Or.inr ⟨h, hh, rfl, ha.1, ha.2⟩
      · rw [if_neg e]
        exact w7
    · exact Or.inl ⟨Or.inr ha, by rw [e, o_bs, if_pos rfl]⟩
/-- handles that are alike are laid alike -/
theorem tys_4 {T : mS} {l h : Nat} (e : tys T l = tys T h) : tN T 3 l = tN T 3 h ∧ ∀ k, k < tN T 3 h → tI T 4 (6 * l + k) = tI T 4 (6 * h + k) := by
  have hl : tN T 3 l = tN T 3 h := by rw [← tys_len, ← tys_len, e]
  refine ⟨hl, fun k hk => ?_⟩
  have : (tys T l)[k]? = (tys T h)[k]? := by rw [e]
  rw [tys_get T (by omega), tys_get T hk] at this
  exact Option.some.inj this
theorem wrL_eq {T : mS} {l h : Nat} {ex : Int32} : ∀ (vs : List aVl) (k : Nat), (∀ j, k ≤ j → j < k + vs.length → tI T 4 (6 * l + j) = tI T 4 (6 * h + j)) → wrL T l ex k vs = wrL T h ex k vs := by
  intro vs
  induction vs with
  | nil => intro k _; rfl
  | cons v vs ih =>
    intro k hk
    unfold wrL
    rw [hk k (by omega) (by simp), ih (k + 1) (fun j h1 h2 => hk j (by omega) (by simp; omega))]
theorem layL_eq {T : mS} {l h : Nat} : ∀ (vs : List aVl) (k : Nat), (∀ j, k ≤ j → j < k + vs.length → tI T 4 (6 * l + j) = tI T 4 (6 * h + j)) → layL T l k vs = layL T h k vs := by
  intro vs
  induction vs with
  | nil => intro k _; rfl
  | cons v vs ih =>
    intro k hk
    unfold layL
    rw [hk k (by omega) (by simp), ih (k + 1) (fun j h1 h2 => hk j (by omega) (by simp; omega))]
