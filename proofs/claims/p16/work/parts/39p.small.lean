/-! THE REFERENCE: row, set, item, clear, value. My own rows. -/
theorem in_l {j : Int64} {n : Nat} (hn : n ≤ 60) : (∃ r, r < n ∧ j = lN r ∧ inI j 0 (nI n - 1).toInt64 = 1) ∨ ((∀ r, r < n → j ≠ lN r) ∧ inI j 0 (nI n - 1).toInt64 = 0) := by
  by_cases h : inI j 0 (nI n - 1).toInt64 = 0
  · refine Or.inr ⟨fun c hc e => ?_, h⟩
    rw [e, ← nI_l (by omega), in_1 hc hn] at h
    exact absurd h (by decide)
  · obtain ⟨k, hk, e⟩ := in_lN h hn
    exact Or.inl ⟨k, hk, e, (in_01 _ _ _).resolve_left h⟩
theorem g_isRow {S : mS} {nr : Nat} (h : S.1 13 = nI nr) (j : Int64) : gX11_isRow j S = some (inI j 0 (nI nr - 1).toInt64, S) := by
  unfold gX11_isRow gX11_isRow_e
  rw [g_in, o_bs, h]
  rcases in_01 j 0 (nI nr - 1).toInt64 with z | z <;> rw [z] <;> rfl
theorem zEq (S : mS) : eqB (fun k => k == 0) S (sI S 0 0) := eqB.I rfl
theorem MI.z {T S : mS} {nh ns : Nat} {vs : List aVl} {R : aRS} (M : MI T S nh ns vs R) : MI T (sI S 0 0) nh ns vs R := M.to (zEq S) (fun k h1 h2 h3 h4 h5 => by simp [h2]) (M.2.2.1.2.eq (zEq S) rfl rfl rfl rfl rfl) M.2.2.1.1 (Nat.le_refl _)
theorem g_row0 {S : mS} {x : Int32} (hx : ∀ m, m < 21 → x ≠ nI m) : gX11_row x S = some (-3, sI S 0 0) := by
  unfold gX11_row
  rw [g_in, o_bs]
  rcases in_h (x := x) (n := 21) (by decide) with ⟨c, hc, e, -⟩ | ⟨-, z⟩
  · exact absurd e (hx c hc)
  · rw [show (nI 21 - 1).toInt64 = 20 by decide] at z
    rw [z, if_pos rfl]
theorem g_row {T S : mS} {nh ns m : Nat} {vs : List aVl} {R : aRS} (M : MI T S nh ns vs R) (hm : m < 21) : (R.2.1 = 60 ∧ gX11_row (nI m) S = some (-5, sI S 0 0)) ∨ (R.2.1 < 60 ∧ ∃ S2, gX11_row (nI m) S = some (nI R.2.1, S2) ∧ MI T S2 nh ns vs (rnew R m) ∧ eqB (fun k => k == 0 || fRow k) S S2) := by
  have M0 := M.z
  have e1 := in_1 hm (by decide)
  rw [show (nI 21 - 1).toInt64 = 20 by decide] at e1
  unfold gX11_row
  rw [g_in, o_bs, e1, if_neg (show ¬ (1 : Int32) = 0 by decide), M0.2.2.1.2.2.1]
  by_cases h60 : R.2.1 = 60
  · exact Or.inl ⟨h60, by rw [if_pos (by rw [h60]; rfl)]⟩
  · have hlt : R.2.1 < 60 := by have := M.2.2.1.1.1; omega
    obtain ⟨S2, e2, r2, q2⟩ := g_newRow M0.2.2.1.2 hlt m (by omega)
    refine Or.inr ⟨hlt, S2, ?_, M0.to q2 (fun k h1 h2 h3 h4 h5 => by simp [fRow, h3, h4, h5]) r2 (rt_new M.2.2.1.1 hlt (by omega)) (Nat.le_succ _), ((zEq S).mono fun k hk => by simp at hk; simp [hk.1]).tr (q2.mono fun k hk => by simp at hk; exact hk.2)⟩
    rw [if_neg (fun z => h60 ((nI_eq (by omega) (by decide)).mp (z.trans (show (60 : Int32) = nI 60 from rfl)))), e2, o_bs]
/-- is there an item k of row r -/
def itm (R : aRS) (x y : Int32) (r k : Nat) : Prop := r < R.2.1 ∧ x = nI r ∧ y = nI k ∧ nI k < R.2.2.1 r
theorem i_itm {S : mS} {R : aRS} (hR : RT R) (hS : RSt R S) (x y : Int32) : (∃ r k m, r < R.2.1 ∧ x = nI r ∧ y = nI k ∧ k < m ∧ m ≤ 20 ∧ R.2.2.1 r = nI m ∧ inI x.toInt64 0 (nI R.2.1 - 1).toInt64 = 1 ∧ mrA S 14 x = some (nI m) ∧ inI y.toInt64 0 (nI m - 1).toInt64 = 1) ∨ ((∀ r k m, r < R.2.1 → x = nI r → y = nI k → R.2.2.1 r = nI m → ¬ k < m ∨ 20 < m) ∧ (inI x.toInt64 0 (nI R.2.1 - 1).toInt64 = 0 ∨ (inI x.toInt64 0 (nI R.2.1 - 1).toInt64 = 1 ∧ ∃ m, mrA S 14 x = some (nI m) ∧ inI y.toInt64 0 (nI m - 1).toInt64 = 0))) := by
  have h60 := hR.1
  rcases in_h (x := x) (n := R.2.1) h60 with ⟨r, hr, rfl, e1⟩ | ⟨hn, e1⟩
  · obtain ⟨m, hm, em⟩ := hR.2 r hr
    have e2 : mrA S 14 (nI r) = some (nI m) := by rw [mrA_n S 14 _ (by rw [ml_14]; omega) (by omega), hS.2.2.2.1, em]
    rcases in_h (x := y) (n := m) (by omega) with ⟨k, hk, rfl, e3⟩ | ⟨hn, e3⟩
    · exact Or.inl ⟨r, k, m, hr, rfl, rfl, hk, hm, em, e1, e2, e3⟩
    · refine Or.inr ⟨fun r2 k2 m2 h1 h2 h3 h4 => ?_, Or.inr ⟨e1, m, e2, e3⟩⟩
      have hr2 : r = r2 := (nI_eq (by omega) (by omega)).mp h2
      subst hr2
      by_cases h20 : 20 < m2
      · exact Or.inr h20
      · have : m = m2 := (nI_eq (by omega) (by omega)).mp (em.symm.trans h4)
        subst this
        exact Or.inl fun hk => hn k2 hk h3
  · exact Or.inr ⟨fun r k m h1 h2 _ _ => absurd h2 (hn r h1), Or.inl e1⟩
theorem g_set1 {T S : mS} {nh ns : Nat} {vs : List aVl} {R : aRS} (M : MI T S nh ns vs R) {r k m : Nat} (hr : r < R.2.1) (hk : k < m) (hm : m ≤ 20) (em : R.2.2.1 r = nI m) (v : Int32) : ∃ S2, gX11_set (nI r) (nI k) v S = some (1, S2) ∧ MI T S2 nh ns vs (R.1, R.2.1, R.2.2.1, va_up R.2.2.2.1 (20 * r + k) v, R.2.2.2.2) ∧ eqB (fun k => k == 0 || k == 15) S S2 := by
  have M0 := M.z
  have h60 := M.2.2.1.1.1
  unfold gX11_set
  rw [g_isRow M0.2.2.1.2.2.1, o_bs, in_1 hr h60, if_neg (show ¬ (1 : Int32) = 0 by decide), mrA_n _ 14 _ (by rw [ml_14]; omega) (by omega), o_bs, M0.2.2.1.2.2.2.2.1, em, g_in, o_bs, in_1 hk (by omega), if_neg (show ¬ (1 : Int32) = 0 by decide), nI_20, mwA_n _ 15 _ _ (by rw [ml_15]; omega) (by omega), o_bs]
  have q1 : eqB (fun k => k == 15) (sI S 0 0) (sA (sI S 0 0) 15 (20 * r + k) v) := eqB.A rfl
  have hS0 := M0.2.2.1.2
  refine ⟨_, rfl, M0.to q1 (fun k h1 h2 h3 h4 h5 => by simp [h5]) ⟨hS0.1, hS0.2.1, hS0.2.2.1, by rw [← (q1 14 rfl).2.2.1]; exact hS0.2.2.2.1, ?_, hS0.2.2.2.2.2⟩ ⟨M.2.2.1.1.1, M.2.2.1.1.2⟩ (Nat.le_refl _), ((zEq S).mono fun k hk => by simp at hk; simp [hk.1]).tr (q1.mono fun k hk => by simp at hk; simp [hk.2])⟩
  rw [← hS0.2.2.2.2.1]
  simp [sA, va_up]
