/-! CLASS AND REFERENCE: other. My own rows. -/
theorem lkX_iff : ∀ j, j < 13 → (((3 ≤ j ∧ j ≤ 9) ∨ j = 12) ↔ (¬ inI (nI j).toInt64 3 9 = 0 ∨ nI j = 12)) := by decide +kernel
theorem lkY_iff : ∀ j, j < 13 → ((j = 6 ∨ j = 9) ↔ (nI j = 6 ∨ nI j = 9)) := by decide +kernel
section
variable {z : Nat → Nat} {h0 : aH}
theorem c_lkX (F : Int32) : (¬ inI F.toInt64 3 9 = 0 ∨ F = 12 → fX6_looksAtX z F h0 = some (1, h0)) ∧ (¬ (¬ inI F.toInt64 3 9 = 0 ∨ F = 12) → fX6_looksAtX z F h0 = some (0, h0)) := by
  unfold fX6_looksAtX fX6_looksAtX_e
  have e : fX6_isWithin z F 3 9 h0 = some (inI F.toInt64 3 9, h0) := c_with F 3 9
  rw [e, o_bs]
  simp only
  by_cases h1 : inI F.toInt64 3 9 = 0
  · rw [if_pos h1]
    by_cases h2 : F = 12
    · rw [if_pos h2]
      exact ⟨fun _ => chk_1 _, fun q => absurd (Or.inr h2) q⟩
    · rw [if_neg h2]
      exact ⟨fun q => q.elim (fun u => absurd h1 u) fun u => absurd u h2, fun _ => chk_0 _⟩
  · rw [if_neg h1]
    exact ⟨fun _ => chk_1 _, fun q => absurd (Or.inl h1) q⟩
theorem c_lkY (F : Int32) : (F = 6 ∨ F = 9 → fX6_looksAtY z F h0 = some (1, h0)) ∧ (¬ (F = 6 ∨ F = 9) → fX6_looksAtY z F h0 = some (0, h0)) := by
  unfold fX6_looksAtY fX6_looksAtY_e
  by_cases h1 : F = 6
  · rw [if_pos h1]
    exact ⟨fun _ => chk_1 _, fun q => absurd (Or.inl h1) q⟩
  · rw [if_neg h1]
    by_cases h2 : F = 9
    · rw [if_pos h2]
      exact ⟨fun _ => chk_1 _, fun q => absurd (Or.inr h2) q⟩
    · rw [if_neg h2]
      exact ⟨fun q => q.elim (fun u => absurd u h1) fun u => absurd u h2, fun _ => chk_0 _⟩
end
section
variable {z : Nat → Nat} {ac : Nat} {T S : mS} {r : aH} {ha sa : Nat → Nat} {nh ns tg : Nat} {vs : List aVl} {R : aRS} {C : cS} {f0 : Nat → Int32}
theorem j_o24 (M : MI T S nh ns vs R) (X : CX ac T r ha sa nh ns vs R S C) (hlow : ∀ s, s < ns → ac ≤ sa s) (hF : FRS r) (hr : ac + 228 ≤ r.1) (hz : out ac (z 0)) (hz0 : r.2.2 (z 0) = some (.inl (tg, 0, .inl f0))) {h x : Nat} (hh : h < nh) (hx : x < nh) (F XX YY A b : Int32) (qX : ∀ j, j < 13 → F = nI j → lkX j → XX = nI x) : JS ac S r (fX10_other_24 z ac F YY A b (some (ha h)) (some (ha x)) (co ac C (mo (ac + 197) S r))) (gX11_other_41 F (nI h) XX YY A b (sI S 0 0)) := by
  have X1 := cx_mo X S
  have h60 := M.2.1.1.1
  have M0 := M.z
  obtain ⟨f8, o8⟩ := q_o8 ac C (mo (ac + 197) S r)
  by_cases hly : F = 6 ∨ F = 9
  · have eg : gX11_other_41 F (nI h) XX YY A b (sI S 0 0) = gX11_other_53 F (nI h) XX YY A b (sI S 0 0) := by
      unfold gX11_other_41
      by_cases h1 : F = 6
      · rw [if_pos h1]
      · rw [if_neg h1, if_pos (hly.resolve_left h1)]
    rw [eg]
    unfold fX10_other_24 gX11_other_53
    rw [(c_lkY F).1 hly, o_bs, g_isHandle (nh := nh) M0.1.2, o_bs]
    simp only
    rw [if_neg (show ¬ (1 : Int32) = 0 by decide), o8, o_bs]
    rcases c_handle (z := z) X1 h60 YY with ⟨y, hy, rfl, e2⟩ | ⟨hy, e2⟩
    · rw [e2, o_bs, in_1 hy h60, if_neg (show ¬ (1 : Int32) = 0 by decide)]
      exact j_o65 M X hlow hF hr hz hz0 hh hx hy F XX (nI y) A b qX (fun j _ _ _ => rfl)
    · rw [e2, o_bs]
      rcases in_h (x := YY) (n := nh) h60 with ⟨c, hc, ec, -⟩ | ⟨-, zz⟩
      · exact absurd ec (hy c hc)
      · rw [zz, if_pos rfl]
        exact js_jr hlow (j_no (a := -2) M X1 rfl rfl)
  · have eg : gX11_other_41 F (nI h) XX YY A b (sI S 0 0) = gX11_other_65 F (nI h) XX YY A b (sI S 0 0) := by
      unfold gX11_other_41
      rw [if_neg (fun u => hly (Or.inl u)), if_neg (fun u => hly (Or.inr u))]
    rw [eg]
    unfold fX10_other_24
    rw [(c_lkY F).2 hly, o_bs]
    simp only
    rw [if_pos trivial]
    exact j_o65 M X hlow hF hr hz hz0 hh hx hh F XX YY A b qX (fun j hj e l => absurd (by rw [e]; exact (lkY_iff j hj).mp l) hly)
theorem c_none (r7 : Option Nat) (sr : Option Nat) (F YY A b : Int32) (hn : r7 = none ∨ sr = none) (X1 : CX ac T r ha sa nh ns vs R S C) (h60 : nh ≤ 60) : fX10_other_24 z ac F YY A b r7 sr (co ac C r) = some (-2, co ac C r) := by
  have e44 : ∀ s3, fX10_other_44 z ac F A b r7 sr s3 (co ac C r) = some (-2, co ac C r) := fun s3 => by
    unfold fX10_other_44
    rcases hn with rfl | rfl
    · rfl
    · cases r7 <;> rfl
  obtain ⟨f8, o8⟩ := q_o8 ac C r
  unfold fX10_other_24
  by_cases hly : F = 6 ∨ F = 9
  · rw [(c_lkY F).1 hly, o_bs]
    simp only
    rw [if_neg (show ¬ (1 : Int32) = 0 by decide), o8, o_bs]
    rcases c_handle (z := z) X1 h60 YY with ⟨y, hy, rfl, e2⟩ | ⟨hy, e2⟩
    · rw [e2, o_bs]; exact e44 _
    · rw [e2, o_bs]; exact e44 _
  · rw [(c_lkY F).2 hly, o_bs]
    simp only
    rw [if_pos trivial]
    exact e44 _
theorem j_other (M : MI T S nh ns vs R) (X : CX ac T r ha sa nh ns vs R S C) (hlow : ∀ s, s < ns → ac ≤ sa s) (hF : FRS r) (hr : ac + 228 ≤ r.1) (hz : out ac (z 0)) (hz0 : r.2.2 (z 0) = some (.inl (tg, 0, .inl f0))) (F HH XX YY A b : Int32) : JS ac S r (fX10_other z ac F HH XX YY A b (co ac C (mo (ac + 197) S r))) (gX11_other F HH XX YY A b S) := by
  have X1 := cx_mo X S
  have h60 := M.2.1.1.1
  have M0 := M.z
  obtain ⟨f8, o8⟩ := q_o8 ac C (mo (ac + 197) S r)
  unfold fX10_other gX11_other
  rw [o8, o_bs, g_isHandle (nh := nh) M0.1.2, o_bs]
  rcases c_handle (z := z) X1 h60 HH with ⟨h, hh, rfl, e⟩ | ⟨hH, e⟩
  · rw [e, o_bs, in_1 hh h60]
    simp only
    rw [if_neg (show ¬ (1 : Int32) = 0 by decide), g_in, o_bs]
    simp only
    by_cases hlx : ¬ inI F.toInt64 3 9 = 0 ∨ F = 12
    · have eg : (if inI F.toInt64 3 9 = 0 then (if F = 12 then gX11_other_33 F (nI h) XX YY A b (sI S 0 0) else gX11_other_41 F (nI h) XX YY A b (sI S 0 0)) else gX11_other_33 F (nI h) XX YY A b (sI S 0 0)) = gX11_other_33 F (nI h) XX YY A b (sI S 0 0) := by
        by_cases h1 : inI F.toInt64 3 9 = 0
        · rw [if_pos h1, if_pos (hlx.resolve_left fun u => u h1)]
        · rw [if_neg h1]
      rw [eg, (c_lkX F).1 hlx, o_bs]
      unfold gX11_other_33
      rw [g_isHandle (nh := nh) M0.1.2, o_bs]
      simp only
      rw [if_neg (show ¬ (1 : Int32) = 0 by decide), o8, o_bs]
      rcases c_handle (z := z) X1 h60 XX with ⟨x, hx, rfl, e2⟩ | ⟨hx, e2⟩
      · rw [e2, o_bs, in_1 hx h60, if_neg (show ¬ (1 : Int32) = 0 by decide)]
        exact j_o24 M X hlow hF hr hz hz0 hh hx F (nI x) YY A b (fun j _ _ _ => rfl)
      · rw [e2, o_bs]
        rcases in_h (x := XX) (n := nh) h60 with ⟨c, hc, ec, -⟩ | ⟨-, zz⟩
        · exact absurd ec (hx c hc)
        · rw [zz, if_pos rfl]
          exact js_jr hlow (j_no (a := -2) M X1 (c_none _ _ F YY A b (Or.inr rfl) X1 h60) rfl)
    · have h1 : inI F.toInt64 3 9 = 0 := Classical.byContradiction fun u => hlx (Or.inl u)
      rw [if_pos h1, if_neg (fun u => hlx (Or.inr u)), (c_lkX F).2 hlx, o_bs]
      simp only
      rw [if_pos trivial]
      exact j_o24 M X hlow hF hr hz hz0 hh hh F XX YY A b (fun j hj e l => absurd (by rw [e]; exact (lkX_iff j hj).mp l) hlx)
  · rw [e, o_bs]
    rcases in_h (x := HH) (n := nh) h60 with ⟨c, hc, ec, -⟩ | ⟨-, zz⟩
    · exact absurd ec (hH c hc)
    · rw [zz]
      simp only
      rw [if_pos trivial]
      refine js_jr hlow (j_no (a := -2) M X1 ?_ rfl)
      by_cases hlx : ¬ inI F.toInt64 3 9 = 0 ∨ F = 12
      · rw [(c_lkX F).1 hlx, o_bs]
        simp only
        rw [if_neg (show ¬ (1 : Int32) = 0 by decide), o8, o_bs]
        rcases c_handle (z := z) X1 h60 XX with ⟨x, hx, rfl, e2⟩ | ⟨hx, e2⟩
        · rw [e2, o_bs]; exact c_none _ _ F YY A b (Or.inl rfl) X1 h60
        · rw [e2, o_bs]; exact c_none _ _ F YY A b (Or.inl rfl) X1 h60
      · rw [(c_lkX F).2 hlx, o_bs]
        simp only
        rw [if_pos trivial]
        exact c_none _ _ F YY A b (Or.inl rfl) X1 h60
end
