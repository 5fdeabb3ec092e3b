/-! THE REFERENCE: value, linked, site, turn, about. My own rows. -/
theorem g_value43 {T S : mS} {nh ns n : Nat} {vs : List aVl} {R : aRS} (M : MI T S nh ns vs R) (hn : n ≤ 60) (hnv : ∀ k, k < n → k ≤ vs.length ∧ k < 6) (x kd : Int32) (j : Int64) (h2 : kd = 2 → ∃ r, r < R.2.1 ∧ j = lN r) :
    (((∀ k, k < n → x ≠ nI k) ∨ (∀ c, c < 4 → kd ≠ nI c) ∨ (kd = 0 ∧ ¬ VI j)) ∧ gX11_value_43 x kd j x.toInt64 0 (nI n - 1).toInt64 S = some (-3, S)) ∨
    (∃ k, k < n ∧ x = nI k ∧ (∃ c, c < 4 ∧ kd = nI c) ∧ (kd = 0 → VI j) ∧ ∃ S2, gX11_value_43 x kd j x.toInt64 0 (nI n - 1).toInt64 S = some (nI (k + 1), S2) ∧ MI T S2 nh ns (vs.take k ++ [(kd, if kd = 3 then 0 else j)]) R ∧ eqB (fun k => k == 20 || k == 21 || k == 22) S S2) := by
  unfold gX11_value_43
  rw [g_in, o_bs]
  rcases in_h (x := x) (n := n) hn with ⟨k, hk, rfl, e1⟩ | ⟨h1, e1⟩
  · rw [e1, if_neg (show ¬ (1 : Int32) = 0 by decide), g_in, o_bs]
    have e4 : (nI 4 - 1).toInt64 = 3 := by decide
    rcases in_h (x := kd) (n := 4) (by decide) with ⟨c, hc, ec, e5⟩ | ⟨h5, e5⟩
    · rw [e4] at e5
      rw [e5, if_neg (show ¬ (1 : Int32) = 0 by decide)]
      have hdone : VK R.2.1 (kd, if kd = 3 then 0 else j) → (kd = 0 → VI j) → gX11_value_76 (nI k) kd j S = gX11_value_76 (nI k) kd j S → ∃ S2, gX11_value_76 (nI k) kd j S = some (nI (k + 1), S2) ∧ MI T S2 nh ns (vs.take k ++ [(kd, if kd = 3 then 0 else j)]) R ∧ eqB (fun k => k == 20 || k == 21 || k == 22) S S2 := fun a _ _ => g_value76 M (hnv k hk).1 (hnv k hk).2 kd j a
      by_cases h0 : kd = 0
      · rw [if_pos h0]
        by_cases hv : VI j
        · have hcmp : lg_cmp j.toInt32.toInt64 j = 0 := by rw [show j.toInt32.toInt64 = j from hv]; unfold lg_cmp; rw [if_neg (Int64.lt_irrefl), if_pos rfl]
          rw [if_pos hcmp]
          exact Or.inr ⟨k, hk, rfl, ⟨c, hc, ec⟩, fun _ => hv, hdone (Or.inl ⟨h0, by rw [if_neg (by rw [h0]; decide)]; exact hv⟩) (fun _ => hv) rfl⟩
        · have hcmp : ¬ lg_cmp j.toInt32.toInt64 j = 0 := by
            intro z
            apply hv
            unfold lg_cmp at z
            by_cases g1 : j.toInt32.toInt64 > j
            · rw [if_pos g1] at z; exact absurd z (by decide)
            · rw [if_neg g1] at z
              by_cases g2 : j.toInt32.toInt64 = j
              · exact g2
              · rw [if_neg g2] at z; exact absurd z (by decide)
          rw [if_neg hcmp]
          exact Or.inl ⟨Or.inr (Or.inr ⟨h0, hv⟩), rfl⟩
      · rw [if_neg h0]
        refine Or.inr ⟨k, hk, rfl, ⟨c, hc, ec⟩, fun z => absurd z h0, hdone ?_ (fun z => absurd z h0) rfl⟩
        have hc4 : c = 0 ∨ c = 1 ∨ c = 2 ∨ c = 3 := by omega
        rcases hc4 with z | z | z | z <;> rw [z] at ec
        · exact absurd ec h0
        · exact Or.inr (Or.inl ec)
        · obtain ⟨r, hr, er⟩ := h2 ec
          have hr60 := M.2.2.1.1.1
          refine Or.inr (Or.inr (Or.inl ⟨ec, r, hr, ?_⟩))
          rw [if_neg (by rw [ec]; decide), er, nI_l (by omega)]
        · refine Or.inr (Or.inr (Or.inr ?_))
          have ec3 : kd = 3 := ec
          rw [if_pos ec3, ec3]
    · rw [e4] at e5
      rw [e5, if_pos rfl]
      exact Or.inl ⟨Or.inr (Or.inl h5), rfl⟩
  · rw [e1, if_pos rfl]
    exact Or.inl ⟨Or.inl h1, rfl⟩
theorem g_linked {T S : mS} {nh ns : Nat} {vs : List aVl} {R : aRS} (M : MI T S nh ns vs R) (x : Int32) : (∃ s, s < ns ∧ x = nI s ∧ gX11_linked x S = some (S.2.2.1 19 s, sI S 0 0)) ∨ ((∀ s, s < ns → x ≠ nI s) ∧ gX11_linked x S = some (-2, sI S 0 0)) := by
  have h10 := M.2.2.2.2.1
  have e16 : (sI S 0 0).1 16 = nI ns := M.z.2.2.2.2.2.1
  unfold gX11_linked
  rw [g_in, o_bs, e16]
  rcases in_h (x := x) (n := ns) (by omega) with ⟨s, hs, rfl, e1⟩ | ⟨h1, e1⟩
  · refine Or.inl ⟨s, hs, rfl, ?_⟩
    rw [e1, if_neg (show ¬ (1 : Int32) = 0 by decide), mrA_n _ 19 _ (by rw [ml_19]; omega) (by omega), o_bs]
    rfl
  · exact Or.inr ⟨h1, by rw [e1, if_pos rfl]⟩
theorem g_about0 {T S : mS} {nh ns : Nat} {vs : List aVl} {R : aRS} (M : MI T S nh ns vs R) {x : Int32} (hx : ∀ c, c < nh → x ≠ nI c) (w : Int32) : gX11_about x w S = some (-2, sI S 0 0) := by
  unfold gX11_about
  rw [g_isHandle (nh := nh) M.z.1.2, o_bs]
  rcases in_h (x := x) (n := nh) M.2.1.1.1 with ⟨c, hc, e, -⟩ | ⟨-, z⟩
  · exact absurd e (hx c hc)
  · rw [z, if_pos rfl]
/-- what about answers of a handle -/
def abA (T : mS) (c : Nat) (w : Int32) : Int32 := if w = 0 then tI T 3 c else if w = 7 then tI T 5 c else if inI w.toInt64 1 (tI T 3 c).toInt64 = 0 then -3 else tI T 4 (6 * c + (w.toNatClampNeg - 1))
theorem in_1n {w : Int32} {n : Nat} (hn : n ≤ 60) (h : ¬ inI w.toInt64 1 (nI n).toInt64 = 0) : ∃ k, 1 ≤ k ∧ k ≤ n ∧ w = nI k := by
  unfold inI at h
  have h1 : ¬ lg_cmp w.toInt64 1 < 0 := fun z => h (by rw [if_pos z])
  have h2 : ¬ 0 < lg_cmp w.toInt64 (nI n).toInt64 := fun z => h (by rw [if_neg h1, if_pos z])
  rw [lg_cmp_lt] at h1
  rw [lg_cmp_gt, nI_l (by omega)] at h2
  have h0 : ¬ w.toInt64 < 0 := by
    rw [Int64.lt_iff_toInt_lt] at h1 ⊢
    have z : (0 : Int64).toInt = 0 := rfl
    have z1 : (1 : Int64).toInt = 1 := rfl
    rw [z1] at h1
    rw [z]
    omega
  obtain ⟨k, hk, e⟩ := lN_of h0 h2 (by omega)
  refine ⟨k, ?_, hk, by rw [← Int32.toInt32_toInt64 w, e, lN_i]⟩
  rw [e, show (1 : Int64) = lN 1 from rfl, lN_lt (by omega) (by omega)] at h1
  omega
theorem g_about {T S : mS} {nh ns c : Nat} {vs : List aVl} {R : aRS} (M : MI T S nh ns vs R) (hc : c < nh) (w : Int32) : gX11_about (nI c) w S = some (abA T c w, sI S 0 0) := by
  have hc60 : c < 60 := Nat.lt_of_lt_of_le hc M.2.1.1.1
  have hM := M.2.1.1.m hc
  have hT : ∀ k i, 2 ≤ k → k ≤ 12 → (sI S 0 0).2.2.1 k i = tI T k i := fun k i h1 h2 => by rw [(M.z.1.1 k h1 h2).1]
  unfold gX11_about abA
  rw [g_isHandle (nh := nh) M.z.1.2, o_bs, in_1 hc M.2.1.1.1, if_neg (show ¬ (1 : Int32) = 0 by decide)]
  by_cases h0 : w = 0
  · rw [if_pos h0, if_pos h0, mrA_n _ 3 _ (by rw [ml_3]; omega) (by omega), o_bs, hT 3 c (by decide) (by decide)]
  · rw [if_neg h0, if_neg h0]
    by_cases h7 : w = 7
    · rw [if_pos h7, if_pos h7, mrA_n _ 5 _ (by rw [ml_5]; omega) (by omega), o_bs, hT 5 c (by decide) (by decide)]
    · rw [if_neg h7, if_neg h7, mrA_n _ 3 _ (by rw [ml_3]; omega) (by omega), o_bs, hT 3 c (by decide) (by decide), g_in, o_bs]
      by_cases hi : inI w.toInt64 1 (tI T 3 c).toInt64 = 0
      · rw [if_pos hi, if_pos hi]
      · rw [if_neg hi, if_neg hi]
        rw [hM.1] at hi
        obtain ⟨k, hk1, hk2, rfl⟩ := in_1n (by omega) hi
        rw [nI_clamp (by omega), nI_6, show 6 * c + k = 6 * c + (k - 1) + 1 by omega, nI_p1, mrA_n _ 4 _ (by rw [ml_4]; omega) (by omega), o_bs, hT 4 _ (by decide) (by decide)]
