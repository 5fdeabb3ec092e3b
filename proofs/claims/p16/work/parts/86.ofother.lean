/-! THE CLASS: types of other handles, the other forms. My own rows. -/
section
variable {z : Nat → Nat} {ac : Nat} {r : aH} {C : cS} {T : mS} {h x y th tx ty : Nat}
theorem o_4 {a : Nat} {q : Option (Option Nat × aH)} (hF : FRS r) (hr : ac + 228 ≤ r.1) (H : aTy ac r th (tys T h) (tI T 5 h)) (X : aTy ac r tx (tys T x) (tI T 5 x)) (ha : a < tN T 3 h) (eq : q = (fX8_count z tx (co ac C r)).bind fun q126 => if q126.1 = 1 then (rdI q126.2 tx [6] 1).bind fun x129 => (obO q126.2 th 6).bind fun _ => (fX8_at z th (nI a) q126.2).bind fun q131 => if x129 = q131.1 then (rdR q131.2 tx [6] 0).bind fun r135 => (obO q131.2 th 6).bind fun _ => (fX8_spliced z th (nI a) 1 r135 q131.2).bind fun q136 => some (q136.1, q136.2) else some (none, q131.2) else some (none, q126.2)) : TO ac r C q (tN T 3 x = 1 ∧ tI T 5 x = tI T 4 (6 * h + a)) ((tys T h).take a ++ tI T 4 (6 * x) :: (tys T h).drop (a + 1)) (tI T 5 h) := by
  have hn := H.n
  have xn := X.n
  obtain ⟨fh, ofh⟩ := t_ob (C := C) H
  have cx := t_count (z := z) (C := C) X
  rw [tys_len] at cx
  rw [eq, cx, o_bs]
  simp only
  by_cases h1 : tN T 3 x = 1
  · rw [if_pos (show nI (tN T 3 x) = 1 by rw [h1]; rfl), t_gives X, o_bs, ofh, o_bs, t_at0 H ha, o_bs]
    simp only
    by_cases hg : tI T 5 x = tI T 4 (6 * h + a)
    · obtain ⟨kx, hkx, rkx⟩ := X.ar
      rw [if_pos hg, rkx, o_bs, ofh, o_bs]
      obtain ⟨s1, -⟩ := c_spl (z := z) (C := C) (p := a) (c := 1) hF hr H hkx (by rw [tys_len]; omega) (by rw [tys_len]; omega)
      obtain ⟨r2, t, e, G, a2⟩ := s1 (by rw [tys_len, tys_len]; omega)
      have e : fX8_spliced z th (nI a) 1 (some kx) (co ac C r) = _ := e
      rw [e, o_bs]
      have ex : tys T x = [tI T 4 (6 * x)] := by
        unfold tys
        rw [h1]
        rfl
      rw [ex, List.append_assoc] at a2
      exact to_yes ⟨h1, hg⟩ rfl (G.up (by decide) (by decide)) a2
    · rw [if_neg hg]
      exact to_no hF (fun q => hg q.2) rfl
  · rw [if_neg (show ¬ nI (tN T 3 x) = 1 from fun e => h1 ((nI_eq (b := 1) (by omega) (by decide)).mp e))]
    exact to_no hF (fun q => h1 q.1) rfl
theorem o_9 (hF : FRS r) (H : aTy ac r th (tys T h) (tI T 5 h)) (X : aTy ac r tx (tys T x) (tI T 5 x)) (Y : aTy ac r ty (tys T y) (tI T 5 y)) (hA : ∀ k, k < tN T 3 x → (tI T 4 (6 * x + k) = 0 ∨ tI T 4 (6 * x + k) = 1 ∨ tI T 4 (6 * x + k) = 2 ∨ tI T 4 (6 * x + k) = 3)) : TO ac r C (fX6_round z (some th) (some tx) (some ty) (co ac C r)) (tN T 3 h = 0 ∧ tI T 5 h = 0 ∧ tN T 3 y = 0 ∧ tI T 5 y ≠ 4 ∧ tN T 3 x = 2 ∧ tI T 4 (6 * x) = tI T 5 y ∧ tI T 4 (6 * x + 1) = 0 ∧ tI T 5 x = tI T 5 y) (tys T h) (tI T 5 y) := by
  have hn := H.n
  have xn := X.n
  have yn := Y.n
  obtain ⟨fh, ofh⟩ := t_ob (C := C) H
  obtain ⟨fx, ofx⟩ := t_ob (C := C) X
  obtain ⟨fy, ofy⟩ := t_ob (C := C) Y
  have ch := t_count (z := z) (C := C) H
  rw [tys_len] at ch
  have cx := t_count (z := z) (C := C) X
  rw [tys_len] at cx
  have cy := t_count (z := z) (C := C) Y
  rw [tys_len] at cy
  have cz : ∀ n : Nat, n ≤ 6 → ((nI n = 0) ↔ n = 0) := fun n hn => by rw [← nI_0]; exact nI_eq (by omega) (by decide)
  have c2 : (nI (tN T 3 x) = 2) ↔ tN T 3 x = 2 := nI_eq (b := 2) (by omega) (by decide)
  have R78 : ∀ (u v w : Bool), fX6_round_78 z (some ty) (if u = true then 1 else 0) (if v = true then 1 else 0) (if w = true then 1 else 0) (co ac C r) = some (if (u && v && w) = true then some ty else none, co ac C r) := by
    intro u v w
    unfold fX6_round_78
    cases u <;> cases v <;> cases w <;> rfl
  have R43 : ∀ (u v : Bool), fX6_round_43 z (some tx) (some ty) (if u = true then 1 else 0) (if v = true then 1 else 0) (co ac C r) = some (if (u && v && (decide (tN T 3 x = 2) && decide (tI T 4 (6 * x) = tI T 5 x) && decide (tI T 4 (6 * x + 1) = 0))) = true then some ty else none, co ac C r) := by
    intro u v
    have n77 := R78 u v false
    rw [if_neg (show ¬ (false = true) by decide)] at n77
    unfold fX6_round_43 fX6_round_77
    simp only [o_bs, ofx, cx]
    by_cases h2 : tN T 3 x = 2
    · have e0 := t_at0 (z := z) (C := C) (i := 0) X (by omega)
      rw [nI_0, Nat.add_zero] at e0
      have e1 : fX8_at z tx 1 (co ac C r) = some (tI T 4 (6 * x + 1), co ac C r) := t_at0 (z := z) (C := C) (i := 1) X (by omega)
      rw [if_pos (c2.mpr h2), e0, o_bs]
      simp only
      rw [t_gives X, o_bs]
      by_cases h3 : tI T 4 (6 * x) = tI T 5 x
      · rw [if_pos h3, ofx, o_bs, e1, o_bs]
        simp only
        by_cases h5 : tI T 4 (6 * x + 1) = 0
        · have y78 := R78 u v true
          rw [if_pos rfl] at y78
          rw [if_pos h5, y78]
          simp [h2, h3, h5]
        · rw [if_neg h5, n77]
          simp [h5]
      · rw [if_neg h3, n77]
        simp [h3]
    · rw [if_neg (fun q => h2 (c2.mp q)), n77]
      simp [h2]
  have R19 : ∀ u : Bool, fX6_round_19 z (some tx) (some ty) (if u = true then 1 else 0) (co ac C r) = some (if (u && (decide (tN T 3 y = 0) && decide (tI T 5 y = tI T 5 x)) && (decide (tN T 3 x = 2) && decide (tI T 4 (6 * x) = tI T 5 x) && decide (tI T 4 (6 * x + 1) = 0))) = true then some ty else none, co ac C r) := by
    intro u
    have n42 := R43 u false
    rw [if_neg (show ¬ (false = true) by decide)] at n42
    unfold fX6_round_19 fX6_round_42
    simp only [o_bs, ofy, cy]
    by_cases h0 : tN T 3 y = 0
    · rw [if_pos ((cz _ yn).mpr h0), t_gives Y, o_bs, t_gives X, o_bs]
      by_cases h5 : tI T 5 y = tI T 5 x
      · have y43 := R43 u true
        rw [if_pos rfl] at y43
        rw [if_pos h5, y43]
        simp [h0, h5]
      · rw [if_neg h5, n42]
        simp [h5]
    · rw [if_neg (fun q => h0 ((cz _ yn).mp q)), n42]
      simp [h0]
  have RR : fX6_round z (some th) (some tx) (some ty) (co ac C r) = some (if ((decide (tN T 3 h = 0) && decide (tI T 5 h = 0)) && (decide (tN T 3 y = 0) && decide (tI T 5 y = tI T 5 x)) && (decide (tN T 3 x = 2) && decide (tI T 4 (6 * x) = tI T 5 x) && decide (tI T 4 (6 * x + 1) = 0))) = true then some ty else none, co ac C r) := by
    have n18 := R19 false
    rw [if_neg (show ¬ (false = true) by decide)] at n18
    unfold fX6_round fX6_round_18
    simp only [o_bs, ofh, ch]
    by_cases h0 : tN T 3 h = 0
    · rw [if_pos ((cz _ hn).mpr h0), t_gives H, o_bs]
      by_cases h5 : tI T 5 h = 0
      · have y19 := R19 true
        rw [if_pos rfl] at y19
        rw [if_pos h5, y19]
        simp [h0, h5]
      · rw [if_neg h5, n18]
        simp [h5]
    · rw [if_neg (fun q => h0 ((cz _ hn).mp q)), n18]
      simp [h0]
  rw [RR]
  by_cases hc : tN T 3 h = 0 ∧ tI T 5 h = 0 ∧ tN T 3 y = 0 ∧ tI T 5 y ≠ 4 ∧ tN T 3 x = 2 ∧ tI T 4 (6 * x) = tI T 5 y ∧ tI T 4 (6 * x + 1) = 0 ∧ tI T 5 x = tI T 5 y
  · obtain ⟨k1, k2, k3, k4, k5, k6, k7, k8⟩ := id hc
    have : ((decide (tN T 3 h = 0) && decide (tI T 5 h = 0)) && (decide (tN T 3 y = 0) && decide (tI T 5 y = tI T 5 x)) && (decide (tN T 3 x = 2) && decide (tI T 4 (6 * x) = tI T 5 x) && decide (tI T 4 (6 * x + 1) = 0))) = true := by simp [k1, k2, k3, k5, k7]; exact ⟨k8.symm, k6.trans k8.symm⟩
    rw [if_pos this]
    have e1 : tys T h = tys T y := by rw [List.eq_nil_of_length_eq_zero ((tys_len T h).trans k1), List.eq_nil_of_length_eq_zero ((tys_len T y).trans k3)]
    refine to_same hF hc rfl ?_
    rw [e1]
    exact Y
  · rw [if_neg (fun q => hc (by
      simp only [Bool.and_eq_true, decide_eq_true_eq] at q
      obtain ⟨⟨⟨k1, k2⟩, k3, k4⟩, ⟨k5, k6⟩, k7⟩ := q
      refine ⟨k1, k2, k3, fun q4 => ?_, k5, k6.trans k4.symm, k7, k4.symm⟩
      have := hA 0 (by omega)
      rw [Nat.add_zero, k6, ← k4, q4] at this
      revert this
      decide))]
    exact to_no hF hc rfl
theorem o_12 (hF : FRS r) (H : aTy ac r th (tys T h) (tI T 5 h)) (X : aTy ac r tx (tys T x) (tI T 5 x)) : (tN T 3 x = tN T 3 h ∧ caB (tI T 5 h) (tI T 5 x) = true ∧ (∀ i, i < tN T 3 h → caB (tI T 4 (6 * x + i)) (tI T 4 (6 * h + i)) = true) → fX6_canAdaptAll z (some th) (some tx) (co ac C r) = some (1, co ac C r)) ∧ (¬ (tN T 3 x = tN T 3 h ∧ caB (tI T 5 h) (tI T 5 x) = true ∧ ∀ i, i < tN T 3 h → caB (tI T 4 (6 * x + i)) (tI T 4 (6 * h + i)) = true) → fX6_canAdaptAll z (some th) (some tx) (co ac C r) = some (0, co ac C r)) := by
  have hn := H.n
  have xn := X.n
  obtain ⟨fh, ofh⟩ := t_ob (C := C) H
  obtain ⟨fx, ofx⟩ := t_ob (C := C) X
  have ch := t_count (z := z) (C := C) H
  rw [tys_len] at ch
  have cx := t_count (z := z) (C := C) X
  rw [tys_len] at cx
  have loop : tN T 3 x = tN T 3 h → ∀ (u n k : Nat), k + u = tN T 3 h → u < n → ((∀ i, k ≤ i → i < tN T 3 h → caB (tI T 4 (6 * x + i)) (tI T 4 (6 * h + i)) = true) → fX6_canAdaptAll_29 z n (some th) (some tx) (nI k) (co ac C r) = some (1, co ac C r)) ∧ (¬ (∀ i, k ≤ i → i < tN T 3 h → caB (tI T 4 (6 * x + i)) (tI T 4 (6 * h + i)) = true) → fX6_canAdaptAll_29 z n (some th) (some tx) (nI k) (co ac C r) = some (0, co ac C r)) := by
    intro hxh u
    induction u with
    | zero =>
      intro n k hk hn
      obtain ⟨n, rfl⟩ : ∃ q, n = q + 1 := ⟨n - 1, by omega⟩
      rw [fX6_canAdaptAll_29]
      simp only [o_bs, ofh, ch]
      rw [if_pos (nI_le (by omega) (by omega))]
      exact ⟨fun _ => rfl, fun q => absurd (fun i h1 h2 => by omega) q⟩
    | succ u ih =>
      intro n k hk hn
      obtain ⟨n, rfl⟩ : ∃ q, n = q + 1 := ⟨n - 1, by omega⟩
      rw [fX6_canAdaptAll_29]
      simp only [o_bs, ofh, ch, ofx, t_at0 X (show k < tN T 3 x by omega), t_at0 H (show k < tN T 3 h by omega), c_allow]
      rw [if_neg (nI_ge (by omega) (by omega)), nI_1]
      obtain ⟨i1, i2⟩ := ih n (k + 1) (by omega) (by omega)
      by_cases hc : caB (tI T 4 (6 * x + k)) (tI T 4 (6 * h + k)) = true
      · rw [if_pos hc, if_neg (show ¬ (1 : Int32) = 0 by decide)]
        refine ⟨fun q => i1 fun i h1 h2 => q i (by omega) h2, fun q => i2 fun q2 => q fun i h1 h2 => ?_⟩
        by_cases hik : i = k
        · rw [hik]; exact hc
        · exact q2 i (by omega) h2
      · rw [if_neg hc, if_pos rfl]
        exact ⟨fun q => absurd (q k (Nat.le_refl _) (by omega)) hc, fun _ => rfl⟩
  unfold fX6_canAdaptAll fX6_canAdaptAll_e
  simp only [o_bs, ofh, ch, ofx, cx]
  by_cases h1 : tN T 3 x = tN T 3 h
  · rw [if_pos (show nI (tN T 3 h) = nI (tN T 3 x) by rw [h1]), t_gives H, o_bs, t_gives X, o_bs, c_allow, o_bs]
    by_cases hc : caB (tI T 5 h) (tI T 5 x) = true
    · rw [if_pos hc]
      simp only
      rw [if_neg (show ¬ (1 : Int32) = 0 by decide)]
      obtain ⟨i1, i2⟩ := loop h1 (tN T 3 h) 4000 0 (by omega) (by omega)
      rw [nI_0] at i1 i2
      exact ⟨fun q => by rw [i1 fun i _ h2 => q.2.2 i h2, chk_1], fun q => by rw [i2 fun q2 => q ⟨h1, hc, fun i h2 => q2 i (Nat.zero_le _) h2⟩, chk_0]⟩
    · rw [if_neg hc]
      simp only
      rw [if_pos trivial, chk_0]
      exact ⟨fun q => absurd q.2.1 hc, fun _ => rfl⟩
  · rw [if_neg (fun e => h1 ((nI_eq (by omega) (by omega)).mp e).symm), chk_0]
    exact ⟨fun q => absurd q.1 h1, fun _ => rfl⟩
end
