/-! TYPES: others, and runs. My own rows. -/
theorem i64_j {j : Nat} (h : j < 2 ^ 30) : (nI j).toInt64 + 1 = (nI (j + 1)).toInt64 := by rw [nI_l (by omega), nI_l (by omega), lN_1]
/-- what a run's function has -/
def PS (T : mS) (nh nr m : Nat) (rec : aRec) : Prop := ∀ (c : Nat) (as : List aVl) (R : aRS), c < nh → VTs R.2.1 (tys T c) as → RT R → m ≤ R.1 ∧ nr ≤ R.2.1 → SO R (tI T 5 c) (rec c as R)
def PE80 (rec : aRec) : Prop := ∀ (c : Nat) (as : List aVl) (R : aRS) (q : aRes), 80 ≤ R.1 → rec c as R = some q → q.1 ≠ 0
theorem so_loop {T : mS} {nh nr m x : Nat} {rec : aRec} {lim : Int64} {t : Int32} (h : PS T nh nr m rec) (hP : PP nh rec) (hE : PE80 rec) (hx : x < nh) (ht : tys T x = [t, 0]) (hg : tI T 5 x = t) : ∀ (k j : Nat) (v : aVl) (R : aRS), 82 ≤ k + R.1 → 1 ≤ k → j + k = 200 → RT R → m ≤ R.1 ∧ nr ≤ R.2.1 → VT R.2.1 t v → SO R t (sLoop rec x lim k (nI j).toInt64 v R) := by
  intro k
  induction k with
  | zero => intro j v R _ hk; omega
  | succ k ih =>
    intro j v R h82 _ hj hR hm hv
    unfold sLoop
    refine so_ite (fun _ => so_is hR hv) fun _ => ?_
    have hs := h x [v, (0, (nI j).toInt64)] R hx (by rw [ht]; exact ⟨hv, vt0 (vi_32 _), trivial⟩) hR hm
    refine so_bnd hs fun q e b c d w => ?_
    by_cases hz : q.1 = 0
    · rw [if_pos hz, i64_j (by omega)]
      have hlt := (hP x _ R hx q e).2
      have h80 : ¬ 80 ≤ R.1 := fun z => hE x _ R q z e hz
      exact ih (j + 1) q.2.1 q.2.2 (by omega) (by omega) (by omega) b ⟨by omega, by omega⟩ (by rw [← hg]; exact w hz)
    · rw [if_neg hz]; exact so_fail b hz
theorem VTs.cons {nr : Nat} {t : Int32} {ts : List Int32} {v : aVl} {vs : List aVl} (h : VT nr t v) (h2 : VTs nr ts vs) : VTs nr (t :: ts) (v :: vs) := ⟨h, h2⟩
theorem VTs.split {nr : Nat} : ∀ {ts us : List Int32} {vs : List aVl}, VTs nr (ts ++ us) vs → VTs nr ts (vs.take ts.length) ∧ VTs nr us (vs.drop ts.length) := by
  intro ts us vs h
  have h1 := h.take ts.length
  have h2 := h.drop ts.length
  rw [List.take_left'] at h1
  rw [List.drop_left'] at h2
  exact ⟨h1, h2⟩
  all_goals rfl
theorem ad_vts {T : mS} {nr c h : Nat} : ∀ (n k : Nat) (l : List aVl), (∀ j, k ≤ j → j < k + n → CA (tI T 4 (6 * c + j)) (tI T 4 (6 * h + j)) ∧ isT (tI T 4 (6 * h + j))) → VTs nr ((List.range' k n).map fun j => tI T 4 (6 * c + j)) l → (adL T c h k l).1 = 0 → VTs nr ((List.range' k n).map fun j => tI T 4 (6 * h + j)) (adL T c h k l).2 := by
  intro n
  induction n with
  | zero =>
    intro k l _ hl _
    have : l = [] := hl.nil
    subst this
    exact trivial
  | succ n ih =>
    intro k l hc hl h0
    rw [List.range'_succ, List.map_cons] at hl ⊢
    obtain ⟨v, ws, rfl, hv, hw⟩ := hl.one
    unfold adL at h0 ⊢
    by_cases hz : (adS (tI T 4 (6 * c + k)) (tI T 4 (6 * h + k)) v.1 v.2).1 = 0
    · rw [if_pos hz] at h0 ⊢
      exact ⟨ad_vt (hc k (by omega) (by omega)).1 (hc k (by omega) (by omega)).2 hv hz, ih (k + 1) ws (fun j h1 h2 => hc j (by omega) (by omega)) hw h0⟩
    · rw [if_neg hz] at h0
      exact absurd h0 hz
theorem rt_gat {R : aRS} {nr : Nat} {vs : List aVl} (h : RT R) : RT (gat R nr vs) := ⟨h.1, h.2⟩
theorem ot_so {T : mS} {nh nr m c : Nat} {rec : aRec} {as : List aVl} {R : aRS} (h : PS T nh nr m rec) (hP : PP nh rec) (hE : PE80 rec) (hW : WT T nh) (hY : YO T nr c) (hc : c < nh) (hn : nr ≤ R.2.1) (hA : VTs R.2.1 (tys T c) as) (hR : RT R) (hm : m ≤ R.1) : SO R (tI T 5 c) (so T rec c as R) := by
  have hlen : as.length = tN T 3 c := hA.len.trans (tys_len T c)
  obtain ⟨-, -, hwt⟩ := hW.2 c hc
  have hF20 : ∀ j : Nat, j < 14 → ¬ tI T 2 c = nI j := by
    intro j hj e
    unfold YO at hY
    rw [e] at hY
    have hne : ∀ z : Nat, 20 ≤ z → z ≤ 32 → ¬ nI j = nI z := fun z h1 h2 e2 => by
      have := (nI_eq (by omega) (by omega)).mp e2
      omega
    rcases hY with ⟨z, -⟩ | ⟨z, -⟩ | ⟨z, -⟩ | ⟨z, -⟩ | ⟨z, -⟩ | ⟨z, -⟩ | ⟨z, -⟩ | ⟨z, -⟩ | ⟨z, -⟩ | ⟨z, -⟩ | ⟨z, -⟩ | ⟨z, -⟩ | ⟨z, -⟩
    · exact hne 20 (by decide) (by decide) z
    · exact hne 21 (by decide) (by decide) z
    · exact hne 22 (by decide) (by decide) z
    · exact hne 23 (by decide) (by decide) z
    · exact hne 24 (by decide) (by decide) z
    · exact hne 25 (by decide) (by decide) z
    · exact hne 26 (by decide) (by decide) z
    · exact hne 27 (by decide) (by decide) z
    · exact hne 28 (by decide) (by decide) z
    · exact hne 29 (by decide) (by decide) z
    · exact hne 30 (by decide) (by decide) z
    · exact hne 31 (by decide) (by decide) z
    · exact hne 32 (by decide) (by decide) z
  rcases hwt with ⟨j, hj, hf⟩ | ⟨hH, hwt⟩
  · exact absurd hf (hF20 j hj)
  rcases hwt with ⟨hF, hw⟩ | ⟨hF, hw⟩ | ⟨hF, hw⟩ | ⟨hF, hX, hw⟩ | ⟨hF, hX, hw⟩ | ⟨hF, hX, hw⟩ | ⟨hF, hX, hZ, hw⟩ | ⟨hF, hX, hw⟩ | ⟨hF, hX, hw⟩ | ⟨hF, hX, hZ, hw⟩ | ⟨hF, hw⟩ | ⟨hF, hw⟩ | ⟨hF, hw⟩
  · unfold so
    rw [if_pos hF]
    rcases hY with ⟨-, hg, t, ht, hv⟩ | ⟨z, -⟩ | ⟨z, -⟩ | ⟨z, -⟩ | ⟨z, -⟩ | ⟨z, -⟩ | ⟨z, -⟩ | ⟨z, -⟩ | ⟨z, -⟩ | ⟨z, -⟩ | ⟨z, -⟩ | ⟨z, -⟩ | ⟨z, -⟩
    · rw [hg]
      exact h _ _ R hH.2 (by rw [ht]; exact VTs.app (VTs.cons (hv.mono hn) (hA.drop _)) (hA.take _)) hR ⟨hm, hn⟩
    · rw [hF] at z; exact absurd z (by decide)
    · rw [hF] at z; exact absurd z (by decide)
    · rw [hF] at z; exact absurd z (by decide)
    · rw [hF] at z; exact absurd z (by decide)
    · rw [hF] at z; exact absurd z (by decide)
    · rw [hF] at z; exact absurd z (by decide)
    · rw [hF] at z; exact absurd z (by decide)
    · rw [hF] at z; exact absurd z (by decide)
    · rw [hF] at z; exact absurd z (by decide)
    · rw [hF] at z; exact absurd z (by decide)
    · rw [hF] at z; exact absurd z (by decide)
    · rw [hF] at z; exact absurd z (by decide)
  · unfold so
    rw [if_neg (by rw [hF]; decide), if_pos hF]
    rcases hY with ⟨z, -⟩ | ⟨-, hg, ht⟩ | ⟨z, -⟩ | ⟨z, -⟩ | ⟨z, -⟩ | ⟨z, -⟩ | ⟨z, -⟩ | ⟨z, -⟩ | ⟨z, -⟩ | ⟨z, -⟩ | ⟨z, -⟩ | ⟨z, -⟩ | ⟨z, -⟩
    · rw [hF] at z; exact absurd z (by decide)
    · rw [hg]
      exact h _ _ R hH.2 (by rw [ht]; exact VTs.app (hA.drop _) (hA.take _)) hR ⟨hm, hn⟩
    · rw [hF] at z; exact absurd z (by decide)
    · rw [hF] at z; exact absurd z (by decide)
    · rw [hF] at z; exact absurd z (by decide)
    · rw [hF] at z; exact absurd z (by decide)
    · rw [hF] at z; exact absurd z (by decide)
    · rw [hF] at z; exact absurd z (by decide)
    · rw [hF] at z; exact absurd z (by decide)
    · rw [hF] at z; exact absurd z (by decide)
    · rw [hF] at z; exact absurd z (by decide)
    · rw [hF] at z; exact absurd z (by decide)
    · rw [hF] at z; exact absurd z (by decide)
  · unfold so
    rw [if_neg (by rw [hF]; decide), if_neg (by rw [hF]; decide), if_pos hF]
    rcases hY with ⟨z, -⟩ | ⟨z, -⟩ | ⟨-, hg, hd, ht⟩ | ⟨z, -⟩ | ⟨z, -⟩ | ⟨z, -⟩ | ⟨z, -⟩ | ⟨z, -⟩ | ⟨z, -⟩ | ⟨z, -⟩ | ⟨z, -⟩ | ⟨z, -⟩ | ⟨z, -⟩
    · rw [hF] at z; exact absurd z (by decide)
    · rw [hF] at z; exact absurd z (by decide)
    · rw [hg, hlen]
      refine h _ _ R hH.2 ?_ hR ⟨hm, hn⟩
      rw [ht]
      refine VTs.map _ _ _ fun k hk => hA.get _ ?_
      rw [tys_len]
      exact hd k (List.mem_range.mp hk)
    · rw [hF] at z; exact absurd z (by decide)
    · rw [hF] at z; exact absurd z (by decide)
    · rw [hF] at z; exact absurd z (by decide)
    · rw [hF] at z; exact absurd z (by decide)
    · rw [hF] at z; exact absurd z (by decide)
    · rw [hF] at z; exact absurd z (by decide)
    · rw [hF] at z; exact absurd z (by decide)
    · rw [hF] at z; exact absurd z (by decide)
    · rw [hF] at z; exact absurd z (by decide)
    · rw [hF] at z; exact absurd z (by decide)
  · unfold so
    rw [if_neg (by rw [hF]; decide), if_neg (by rw [hF]; decide), if_neg (by rw [hF]; decide), if_pos hF]
    rcases hY with ⟨z, -⟩ | ⟨z, -⟩ | ⟨z, -⟩ | ⟨-, hg, hx, ht⟩ | ⟨z, -⟩ | ⟨z, -⟩ | ⟨z, -⟩ | ⟨z, -⟩ | ⟨z, -⟩ | ⟨z, -⟩ | ⟨z, -⟩ | ⟨z, -⟩ | ⟨z, -⟩
    · rw [hF] at z; exact absurd z (by decide)
    · rw [hF] at z; exact absurd z (by decide)
    · rw [hF] at z; exact absurd z (by decide)
    · rw [hg]
      refine so_thn (h _ _ R hX.2 (by rw [hx]; exact hA.take _) hR ⟨hm, hn⟩) fun v R2 r1 r2 r3 r4 => ?_
      refine h _ _ R2 hH.2 ?_ r1 ⟨by omega, by omega⟩
      rw [ht]
      by_cases h4 : tI T 5 (tN T 7 c) = 4
      · rw [if_pos h4, if_pos h4]; exact hA.mono r2
      · rw [if_neg h4, if_neg h4]; exact ⟨r4, hA.mono r2⟩
    · rw [hF] at z; exact absurd z (by decide)
    · rw [hF] at z; exact absurd z (by decide)
    · rw [hF] at z; exact absurd z (by decide)
    · rw [hF] at z; exact absurd z (by decide)
    · rw [hF] at z; exact absurd z (by decide)
    · rw [hF] at z; exact absurd z (by decide)
    · rw [hF] at z; exact absurd z (by decide)
    · rw [hF] at z; exact absurd z (by decide)
    · rw [hF] at z; exact absurd z (by decide)
  · unfold so
    rw [if_neg (by rw [hF]; decide), if_neg (by rw [hF]; decide), if_neg (by rw [hF]; decide), if_neg (by rw [hF]; decide), if_pos hF]
    rcases hY with ⟨z, -⟩ | ⟨z, -⟩ | ⟨z, -⟩ | ⟨z, -⟩ | ⟨-, hg, hx, ht⟩ | ⟨z, -⟩ | ⟨z, -⟩ | ⟨z, -⟩ | ⟨z, -⟩ | ⟨z, -⟩ | ⟨z, -⟩ | ⟨z, -⟩ | ⟨z, -⟩
    · rw [hF] at z; exact absurd z (by decide)
    · rw [hF] at z; exact absurd z (by decide)
    · rw [hF] at z; exact absurd z (by decide)
    · rw [hF] at z; exact absurd z (by decide)
    · rw [hg]
      refine so_thn (h _ _ R hX.2 (by rw [hx]; exact (hA.drop _).take _) hR ⟨hm, hn⟩) fun v R2 r1 r2 r3 r4 => ?_
      refine h _ _ R2 hH.2 ?_ r1 ⟨by omega, by omega⟩
      rw [ht]
      exact VTs.app (VTs.cons r4 ((hA.mono r2).drop _)) ((hA.mono r2).take _)
    · rw [hF] at z; exact absurd z (by decide)
    · rw [hF] at z; exact absurd z (by decide)
    · rw [hF] at z; exact absurd z (by decide)
    · rw [hF] at z; exact absurd z (by decide)
    · rw [hF] at z; exact absurd z (by decide)
    · rw [hF] at z; exact absurd z (by decide)
    · rw [hF] at z; exact absurd z (by decide)
    · rw [hF] at z; exact absurd z (by decide)
  · unfold so
    rw [if_neg (by rw [hF]; decide), if_neg (by rw [hF]; decide), if_neg (by rw [hF]; decide), if_neg (by rw [hF]; decide), if_neg (by rw [hF]; decide), if_pos hF]
    rcases hY with ⟨z, -⟩ | ⟨z, -⟩ | ⟨z, -⟩ | ⟨z, -⟩ | ⟨z, -⟩ | ⟨-, hg, ht, hx⟩ | ⟨z, -⟩ | ⟨z, -⟩ | ⟨z, -⟩ | ⟨z, -⟩ | ⟨z, -⟩ | ⟨z, -⟩ | ⟨z, -⟩
    · rw [hF] at z; exact absurd z (by decide)
    · rw [hF] at z; exact absurd z (by decide)
    · rw [hF] at z; exact absurd z (by decide)
    · rw [hF] at z; exact absurd z (by decide)
    · rw [hF] at z; exact absurd z (by decide)
    · rw [hg]
      refine so_thn (h _ _ R hH.2 (by rw [ht]; exact hA) hR ⟨hm, hn⟩) fun v R2 r1 r2 r3 r4 => ?_
      refine h _ _ R2 hX.2 ?_ r1 ⟨by omega, by omega⟩
      rw [hx]
      by_cases h4 : tI T 5 (tN T 6 c) = 4
      · rw [if_pos h4, if_pos h4]; exact trivial
      · rw [if_neg h4, if_neg h4]; exact ⟨r4, trivial⟩
    · rw [hF] at z; exact absurd z (by decide)
    · rw [hF] at z; exact absurd z (by decide)
    · rw [hF] at z; exact absurd z (by decide)
    · rw [hF] at z; exact absurd z (by decide)
    · rw [hF] at z; exact absurd z (by decide)
    · rw [hF] at z; exact absurd z (by decide)
    · rw [hF] at z; exact absurd z (by decide)
  · unfold so
    rw [if_neg (by rw [hF]; decide), if_neg (by rw [hF]; decide), if_neg (by rw [hF]; decide), if_neg (by rw [hF]; decide), if_neg (by rw [hF]; decide), if_neg (by rw [hF]; decide), if_pos hF]
    rcases hY with ⟨z, -⟩ | ⟨z, -⟩ | ⟨z, -⟩ | ⟨z, -⟩ | ⟨z, -⟩ | ⟨z, -⟩ | ⟨-, hg, hg2, ht, hx, hy⟩ | ⟨z, -⟩ | ⟨z, -⟩ | ⟨z, -⟩ | ⟨z, -⟩ | ⟨z, -⟩ | ⟨z, -⟩
    · rw [hF] at z; exact absurd z (by decide)
    · rw [hF] at z; exact absurd z (by decide)
    · rw [hF] at z; exact absurd z (by decide)
    · rw [hF] at z; exact absurd z (by decide)
    · rw [hF] at z; exact absurd z (by decide)
    · rw [hF] at z; exact absurd z (by decide)
    · refine so_thn (h _ _ R hH.2 (by rw [ht]; exact hA.take _) hR ⟨hm, hn⟩) fun v R2 r1 r2 r3 r4 => ?_
      by_cases h0 : lg_cmp v.2 0 = 0
      · rw [if_pos h0, hg2]; exact h _ _ R2 hZ.2 (by rw [hy]; exact hA.mono r2) r1 ⟨by omega, by omega⟩
      · rw [if_neg h0, hg]; exact h _ _ R2 hX.2 (by rw [hx]; exact hA.mono r2) r1 ⟨by omega, by omega⟩
    · rw [hF] at z; exact absurd z (by decide)
    · rw [hF] at z; exact absurd z (by decide)
    · rw [hF] at z; exact absurd z (by decide)
    · rw [hF] at z; exact absurd z (by decide)
    · rw [hF] at z; exact absurd z (by decide)
    · rw [hF] at z; exact absurd z (by decide)
  · unfold so
    rw [if_neg (by rw [hF]; decide), if_neg (by rw [hF]; decide), if_neg (by rw [hF]; decide), if_neg (by rw [hF]; decide), if_neg (by rw [hF]; decide), if_neg (by rw [hF]; decide), if_neg (by rw [hF]; decide), if_pos hF]
    rcases hY with ⟨z, -⟩ | ⟨z, -⟩ | ⟨z, -⟩ | ⟨z, -⟩ | ⟨z, -⟩ | ⟨z, -⟩ | ⟨z, -⟩ | ⟨-, hg, hg2, ht, hx⟩ | ⟨z, -⟩ | ⟨z, -⟩ | ⟨z, -⟩ | ⟨z, -⟩ | ⟨z, -⟩
    · rw [hF] at z; exact absurd z (by decide)
    · rw [hF] at z; exact absurd z (by decide)
    · rw [hF] at z; exact absurd z (by decide)
    · rw [hF] at z; exact absurd z (by decide)
    · rw [hF] at z; exact absurd z (by decide)
    · rw [hF] at z; exact absurd z (by decide)
    · rw [hF] at z; exact absurd z (by decide)
    · refine so_bnd (h _ _ R hH.2 (by rw [ht]; exact hA) hR ⟨hm, hn⟩) fun q e r1 r2 r3 r4 => ?_
      refine so_ite (fun _ => ?_) fun _ => ?_
      · rw [hg2]; exact h _ _ q.2.2 hX.2 (by rw [hx]; exact ⟨vt0 (vi_32 _), hA.mono r2⟩) r1 ⟨by omega, by omega⟩
      · rw [hg]; exact ⟨q, rfl, r1, Nat.le_refl _, Nat.le_refl _, r4⟩
    · rw [hF] at z; exact absurd z (by decide)
    · rw [hF] at z; exact absurd z (by decide)
    · rw [hF] at z; exact absurd z (by decide)
    · rw [hF] at z; exact absurd z (by decide)
    · rw [hF] at z; exact absurd z (by decide)
  · unfold so
    rw [if_neg (by rw [hF]; decide), if_neg (by rw [hF]; decide), if_neg (by rw [hF]; decide), if_neg (by rw [hF]; decide), if_neg (by rw [hF]; decide), if_neg (by rw [hF]; decide), if_neg (by rw [hF]; decide), if_neg (by rw [hF]; decide), if_pos hF]
    rcases hY with ⟨z, -⟩ | ⟨z, -⟩ | ⟨z, -⟩ | ⟨z, -⟩ | ⟨z, -⟩ | ⟨z, -⟩ | ⟨z, -⟩ | ⟨z, -⟩ | ⟨-, hg, ht, hx⟩ | ⟨z, -⟩ | ⟨z, -⟩ | ⟨z, -⟩ | ⟨z, -⟩
    · rw [hF] at z; exact absurd z (by decide)
    · rw [hF] at z; exact absurd z (by decide)
    · rw [hF] at z; exact absurd z (by decide)
    · rw [hF] at z; exact absurd z (by decide)
    · rw [hF] at z; exact absurd z (by decide)
    · rw [hF] at z; exact absurd z (by decide)
    · rw [hF] at z; exact absurd z (by decide)
    · rw [hF] at z; exact absurd z (by decide)
    · refine so_bnd (h _ _ R hH.2 (by rw [ht]; exact hA) hR ⟨hm, hn⟩) fun q e r1 r2 r3 r4 => ?_
      have hvi : VI (if inI q.1.toInt64 7 10 = 0 then q.1.toInt64 else 99) := by
        by_cases h0 : inI q.1.toInt64 7 10 = 0
        · rw [if_pos h0]; exact vi_32 _
        · rw [if_neg h0]; show (99 : Int64).toInt32.toInt64 = 99; decide
      refine so_bnd (h _ _ q.2.2 hX.2 (by rw [hx]; exact ⟨vt0 hvi, hA.mono r2⟩) r1 ⟨by omega, by omega⟩) fun q2 e2 s1 s2 s3 s4 => ?_
      by_cases hz : q2.1 = 0
      · rw [if_pos hz, hg]; exact ⟨_, rfl, s1, Nat.le_refl _, Nat.le_refl _, fun z => (r4 z).mono s2⟩
      · rw [if_neg hz]; exact so_fail s1 hz
    · rw [hF] at z; exact absurd z (by decide)
    · rw [hF] at z; exact absurd z (by decide)
    · rw [hF] at z; exact absurd z (by decide)
    · rw [hF] at z; exact absurd z (by decide)
  · unfold so
    rw [if_neg (by rw [hF]; decide), if_neg (by rw [hF]; decide), if_neg (by rw [hF]; decide), if_neg (by rw [hF]; decide), if_neg (by rw [hF]; decide), if_neg (by rw [hF]; decide), if_neg (by rw [hF]; decide), if_neg (by rw [hF]; decide), if_neg (by rw [hF]; decide), if_pos hF]
    rcases hY with ⟨z, -⟩ | ⟨z, -⟩ | ⟨z, -⟩ | ⟨z, -⟩ | ⟨z, -⟩ | ⟨z, -⟩ | ⟨z, -⟩ | ⟨z, -⟩ | ⟨z, -⟩ | ⟨-, hg, hg2, ht, hh, hgh, hx, hy⟩ | ⟨z, -⟩ | ⟨z, -⟩ | ⟨z, -⟩
    · rw [hF] at z; exact absurd z (by decide)
    · rw [hF] at z; exact absurd z (by decide)
    · rw [hF] at z; exact absurd z (by decide)
    · rw [hF] at z; exact absurd z (by decide)
    · rw [hF] at z; exact absurd z (by decide)
    · rw [hF] at z; exact absurd z (by decide)
    · rw [hF] at z; exact absurd z (by decide)
    · rw [hF] at z; exact absurd z (by decide)
    · rw [hF] at z; exact absurd z (by decide)
    · refine so_thn (h _ _ R hH.2 (by rw [hh]; exact trivial) hR ⟨hm, hn⟩) fun v R2 r1 r2 r3 r4 => ?_
      refine so_thn (h _ _ R2 hZ.2 (by rw [hy]; exact trivial) r1 ⟨by omega, by omega⟩) fun w R3 s1 s2 s3 s4 => ?_
      exact so_loop h hP hE hX.2 hx hg.symm 200 0 w R3 (by omega) (by decide) (by decide) s1 ⟨by omega, by omega⟩ (by rw [hg2]; exact s4)
    · rw [hF] at z; exact absurd z (by decide)
    · rw [hF] at z; exact absurd z (by decide)
    · rw [hF] at z; exact absurd z (by decide)
  · unfold so
    rw [if_neg (by rw [hF]; decide), if_neg (by rw [hF]; decide), if_neg (by rw [hF]; decide), if_neg (by rw [hF]; decide), if_neg (by rw [hF]; decide), if_neg (by rw [hF]; decide), if_neg (by rw [hF]; decide), if_neg (by rw [hF]; decide), if_neg (by rw [hF]; decide), if_neg (by rw [hF]; decide), if_pos hF]
    rcases hY with ⟨z, -⟩ | ⟨z, -⟩ | ⟨z, -⟩ | ⟨z, -⟩ | ⟨z, -⟩ | ⟨z, -⟩ | ⟨z, -⟩ | ⟨z, -⟩ | ⟨z, -⟩ | ⟨z, -⟩ | ⟨-, hg, ts, ht, hh⟩ | ⟨z, -⟩ | ⟨z, -⟩
    · rw [hF] at z; exact absurd z (by decide)
    · rw [hF] at z; exact absurd z (by decide)
    · rw [hF] at z; exact absurd z (by decide)
    · rw [hF] at z; exact absurd z (by decide)
    · rw [hF] at z; exact absurd z (by decide)
    · rw [hF] at z; exact absurd z (by decide)
    · rw [hF] at z; exact absurd z (by decide)
    · rw [hF] at z; exact absurd z (by decide)
    · rw [hF] at z; exact absurd z (by decide)
    · rw [hF] at z; exact absurd z (by decide)
    · rw [ht] at hA
      obtain ⟨a1, a2⟩ := hA.split
      obtain ⟨u, ws, e, hu, hw⟩ := a2.one
      have hwn := hw.nil
      subst hwn
      have hl1 : as.length = ts.length + 1 := by rw [hA.len]; simp
      have hat : as = as.take ts.length ++ [u] := by rw [← e, List.take_append_drop]
      have hu0 : as[as.length - 1]? = some u := by
        rw [hl1, Nat.add_sub_cancel]
        have : (as.drop ts.length)[0]? = some u := by rw [e]; rfl
        rw [List.getElem?_drop] at this
        exact this
      rw [hu0, o_bs]
      refine so_ite (fun _ => so_bad hR (by decide)) fun h3 => ?_
      obtain ⟨r, m2, hr, hr60, hm2, hk, hv, hv2, hl2, hrr⟩ := row_of hR hu h3
      rw [hrr, o_bs, hg]
      refine so_ite (fun _ => ?_) fun _ => so_bad hR (by decide)
      refine h _ _ R hH.2 ?_ hR ⟨hm, hn⟩
      rw [hh, hl1, Nat.add_sub_cancel]
      exact VTs.app (VTs.map _ _ _ fun k hk => vt0 (vi_32 _)) a1
    · rw [hF] at z; exact absurd z (by decide)
    · rw [hF] at z; exact absurd z (by decide)
  · unfold so
    rw [if_neg (by rw [hF]; decide), if_neg (by rw [hF]; decide), if_neg (by rw [hF]; decide), if_neg (by rw [hF]; decide), if_neg (by rw [hF]; decide), if_neg (by rw [hF]; decide), if_neg (by rw [hF]; decide), if_neg (by rw [hF]; decide), if_neg (by rw [hF]; decide), if_neg (by rw [hF]; decide), if_neg (by rw [hF]; decide), if_pos hF]
    rcases hY with ⟨z, -⟩ | ⟨z, -⟩ | ⟨z, -⟩ | ⟨z, -⟩ | ⟨z, -⟩ | ⟨z, -⟩ | ⟨z, -⟩ | ⟨z, -⟩ | ⟨z, -⟩ | ⟨z, -⟩ | ⟨z, -⟩ | ⟨-, hg, ha5, ts, ht, hh⟩ | ⟨z, -⟩
    · rw [hF] at z; exact absurd z (by decide)
    · rw [hF] at z; exact absurd z (by decide)
    · rw [hF] at z; exact absurd z (by decide)
    · rw [hF] at z; exact absurd z (by decide)
    · rw [hF] at z; exact absurd z (by decide)
    · rw [hF] at z; exact absurd z (by decide)
    · rw [hF] at z; exact absurd z (by decide)
    · rw [hF] at z; exact absurd z (by decide)
    · rw [hF] at z; exact absurd z (by decide)
    · rw [hF] at z; exact absurd z (by decide)
    · rw [hF] at z; exact absurd z (by decide)
    · have hl1 : as.length = ts.length + tN T 9 c := by rw [hA.len, ht]; simp
      refine so_ite (fun _ => so_bad hR (by decide)) fun h60 => ?_
      have hlt : R.2.1 < 60 := by have := hR.1; omega
      rw [ht] at hA
      obtain ⟨a1, a2⟩ := hA.split
      rw [hg]
      refine so_le (h _ _ (gat (rnew R (tN T 9 c)) R.2.1 (as.drop (as.length - tN T 9 c))) hH.2 ?_ (rt_gat (rt_new hR hlt (by omega))) ⟨hm, Nat.le_succ_of_le hn⟩) (Nat.le_succ _) (Nat.le_refl _)
      rw [hh, hl1, Nat.add_sub_cancel]
      exact VTs.app (VTs.cons (ts := []) (vs := []) (vt3 (Nat.lt_succ_self _)) trivial) (a1.mono (Nat.le_succ _))
    · rw [hF] at z; exact absurd z (by decide)
  · unfold so
    rw [if_neg (by rw [hF]; decide), if_neg (by rw [hF]; decide), if_neg (by rw [hF]; decide), if_neg (by rw [hF]; decide), if_neg (by rw [hF]; decide), if_neg (by rw [hF]; decide), if_neg (by rw [hF]; decide), if_neg (by rw [hF]; decide), if_neg (by rw [hF]; decide), if_neg (by rw [hF]; decide), if_neg (by rw [hF]; decide), if_neg (by rw [hF]; decide), if_pos hF]
    rcases hY with ⟨z, -⟩ | ⟨z, -⟩ | ⟨z, -⟩ | ⟨z, -⟩ | ⟨z, -⟩ | ⟨z, -⟩ | ⟨z, -⟩ | ⟨z, -⟩ | ⟨z, -⟩ | ⟨z, -⟩ | ⟨z, -⟩ | ⟨z, -⟩ | ⟨-, hcg, hig, hmm, hck⟩
    · rw [hF] at z; exact absurd z (by decide)
    · rw [hF] at z; exact absurd z (by decide)
    · rw [hF] at z; exact absurd z (by decide)
    · rw [hF] at z; exact absurd z (by decide)
    · rw [hF] at z; exact absurd z (by decide)
    · rw [hF] at z; exact absurd z (by decide)
    · rw [hF] at z; exact absurd z (by decide)
    · rw [hF] at z; exact absurd z (by decide)
    · rw [hF] at z; exact absurd z (by decide)
    · rw [hF] at z; exact absurd z (by decide)
    · rw [hF] at z; exact absurd z (by decide)
    · rw [hF] at z; exact absurd z (by decide)
    · refine so_ite (fun h0 => ?_) fun h0 => so_bad hR h0
      have hv2 : VTs R.2.1 (tys T (tN T 6 c)) (adL T c (tN T 6 c) 0 as).2 := by
        unfold tys
        rw [hmm, List.range_eq_range']
        refine ad_vts (tN T 3 c) 0 as (fun j _ h2 => hck j (by omega)) ?_ h0
        rw [← List.range_eq_range']
        exact hA
      refine so_thn (h _ _ R hH.2 hv2 hR ⟨hm, hn⟩) fun v R2 r1 r2 r3 r4 => ?_
      exact ⟨_, rfl, r1, Nat.le_refl _, Nat.le_refl _, fun z => ad_vt hcg hig r4 z⟩
theorem pe_sp (T : mS) (n : Nat) : PE80 (sp T n) := by
  intro c as R q h e
  cases n with
  | zero => cases e
  | succ n =>
    unfold sp at e
    rw [if_pos (by omega)] at e
    cases e
    show ¬ (9 : Int32) = 0
    decide
/-- a run of well typed handles is never stuck -/
theorem ps_sp {T : mS} {nh nr : Nat} (hW : WT T nh) (hB : WB T nh) (hY : WY T nh nr) : ∀ (n : Nat) (c : Nat) (as : List aVl) (R : aRS), c < nh → VTs R.2.1 (tys T c) as → RT R → nr ≤ R.2.1 → 81 ≤ n + R.1 → 1 ≤ n → SO R (tI T 5 c) (sp T n c as R) := by
  intro n
  induction n with
  | zero => intro c as R _ _ _ _ _ h; omega
  | succ n ih =>
    intro c as R hc hA hR hnr h81 _
    unfold sp
    by_cases h80 : 80 < R.1 + 1
    · rw [if_pos h80]
      exact ⟨_, rfl, hR, Nat.le_refl _, Nat.le_succ _, fun z => absurd z (show ¬ (9 : Int32) = 0 by decide)⟩
    · rw [if_neg h80]
      have hPS : PS T nh nr (R.1 + 1) (sp T n) := fun c2 as2 R2 g1 g2 g3 g4 => ih c2 as2 R2 g1 g2 g3 g4.2 (by omega) (by omega)
      refine so_le (R2 := (R.1 + 1, R.2)) ?_ (Nat.le_refl _) (Nat.le_succ _)
      rcases hY c hc with hp | ho
      · have h20 : ¬ 20 ≤ tI T 2 c := by
          rcases hp with ⟨z, -⟩ | ⟨z, -⟩ | ⟨z, -⟩ | ⟨z, -⟩ | ⟨z, -⟩ | ⟨z, -⟩ | ⟨z, -⟩ | ⟨z, -⟩ | ⟨z, -⟩ | ⟨z, -⟩
          · rw [z]; decide
          · rw [z]; decide
          · rcases z with z | z | z | z | z <;> rw [z] <;> decide
          · rw [z]; decide
          · rw [z]; decide
          · rw [z]; decide
          · rw [z]; decide
          · rw [z]; decide
          · rw [z]; decide
          · rw [z]; decide
        rw [if_neg h20]
        exact pl_so hp (fun z => (hB c hc z).2) hnr hA hR
      · have h20 : 20 ≤ tI T 2 c := by
          rcases ho with ⟨z, -⟩ | ⟨z, -⟩ | ⟨z, -⟩ | ⟨z, -⟩ | ⟨z, -⟩ | ⟨z, -⟩ | ⟨z, -⟩ | ⟨z, -⟩ | ⟨z, -⟩ | ⟨z, -⟩ | ⟨z, -⟩ | ⟨z, -⟩ | ⟨z, -⟩ <;> rw [z] <;> decide
        rw [if_pos h20]
        exact ot_so hPS (pp_sp hW hB n) (pe_sp T n) hW ho hc hnr hA hR (Nat.le_refl _)
