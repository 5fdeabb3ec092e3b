/-! THE CLASS: types of spread, gathered, moved handles. My own rows. -/
/-- each place is met -/
theorem onto : ∀ (n : Nat) (D : Nat → Nat), (∀ k, k < n → D k < n) → (∀ i k, i < n → k < n → D i = D k → i = k) → ∀ p, p < n → ∃ k, k < n ∧ D k = p := by
  intro n
  induction n with
  | zero => intro D _ _ p hp; omega
  | succ n ih =>
    intro D hD hI p hp
    -- swap so that the last goes to n
    by_cases hl : D n = p
    · exact ⟨n, by omega, hl⟩
    · let E : Nat → Nat := fun k => if D k = n then D n else D k
      have hE : ∀ k, k < n → E k < n := by
        intro k hk
        show (if D k = n then D n else D k) < n
        by_cases h : D k = n
        · rw [if_pos h]
          have h1 := hD n (by omega)
          have h2 : D n ≠ n := fun q => by have := hI k n (by omega) (by omega) (h.trans q.symm); omega
          omega
        · rw [if_neg h]
          have := hD k (by omega)
          omega
      have hEI : ∀ i k, i < n → k < n → E i = E k → i = k := by
        intro i k hi hk e
        have e : (if D i = n then D n else D i) = (if D k = n then D n else D k) := e
        by_cases h1 : D i = n
        · by_cases h2 : D k = n
          · exact hI i k (by omega) (by omega) (h1.trans h2.symm)
          · rw [if_pos h1, if_neg h2] at e
            have := hI n k (by omega) (by omega) e
            omega
        · by_cases h2 : D k = n
          · rw [if_neg h1, if_pos h2] at e
            have := hI i n (by omega) (by omega) e
            omega
          · rw [if_neg h1, if_neg h2] at e
            exact hI i k (by omega) (by omega) e
      by_cases hpn : p = n
      · -- D n is some place below n; it is met by E at the k with D k = n
        have h1 := hD n (by omega)
        have h2 : D n < n := by omega
        obtain ⟨k, hk, e⟩ := ih E hE hEI (D n) h2
        have e : (if D k = n then D n else D k) = D n := e
        by_cases h3 : D k = n
        · exact ⟨k, by omega, h3.trans hpn.symm⟩
        · rw [if_neg h3] at e
          have := hI k n (by omega) (by omega) e
          omega
      · obtain ⟨k, hk, e⟩ := ih E hE hEI p (by omega)
        have e : (if D k = n then D n else D k) = p := e
        by_cases h3 : D k = n
        · rw [if_pos h3] at e
          exact absurd e hl
        · rw [if_neg h3] at e
          exact ⟨k, by omega, e⟩
section
variable {z : Nat → Nat} {ac : Nat} {r : aH} {C : cS} {T : mS} {h x y th tx ty : Nat}
theorem o_10 {a : Nat} (hF : FRS r) (hr : ac + 228 ≤ r.1) (H : aTy ac r th (tys T h) (tI T 5 h)) (ha1 : 1 ≤ a) (ha6 : a ≤ 6) : TO ac r C (fX6_spread z (some th) (nI a) (co ac C r)) (a ≤ tN T 3 h ∧ ∀ i, tN T 3 h - a ≤ i → i < tN T 3 h → tI T 4 (6 * h + i) = 0) ((tys T h).take (tN T 3 h - a) ++ [3]) (tI T 5 h) := by
  have hn := H.n
  obtain ⟨fh, ofh⟩ := t_ob (C := C) H
  have ch := t_count (z := z) (C := C) H
  rw [tys_len] at ch
  unfold fX6_spread
  simp only [o_bs, ofh, ch]
  by_cases hal : a ≤ tN T 3 h
  · rw [nI_subN hal, if_pos (nI_pos' (by omega))]
    have loop : ∀ (u n k : Nat), k + u = tN T 3 h → tN T 3 h - a ≤ k → u < n → TO ac r C (fX6_spread_15 z n (some th) (nI a) (nI (tN T 3 h - a)) (nI k) (co ac C r)) (∀ i, k ≤ i → i < tN T 3 h → tI T 4 (6 * h + i) = 0) ((tys T h).take (tN T 3 h - a) ++ [3]) (tI T 5 h) := by
      intro u
      induction u with
      | zero =>
        intro n k hk hka hn2
        obtain ⟨n, rfl⟩ : ∃ q, n = q + 1 := ⟨n - 1, by omega⟩
        rw [fX6_spread_15]
        simp only [o_bs, ofh, ch]
        rw [if_pos (nI_le (by omega) (by omega))]
        have e1 := a1 (ac := ac) (C := C) (r := r) (v := 3) (show ac + 197 ≤ r.1 by omega)
        obtain ⟨x1, y1, e1⟩ := bnd e1
        have G1 := GX.new hF (show ac ≤ r.1 by omega) 1 (.inl (0, 1, .inl (va_up (fun _ => (0 : Int32)) 0 3)))
        have H1 := H.gx G1
        have A1 : aAr ac (hnew r 1 (.inl (0, 1, .inl (va_up (fun _ => (0 : Int32)) 0 3)))) r.1 [3] := ⟨by unfold out; omega, 0, _, new_at _ _ _, fun i t hi => by
          match i, hi with
          | 0, hi => cases hi; rfl
          | i + 1, hi => simp at hi⟩
        obtain ⟨fs, ofs⟩ := t_ob (C := C) H1
        obtain ⟨s1, -⟩ := c_spl (z := z) (C := C) (p := tN T 3 h - a) (c := a) G1.1 (show ac + 228 ≤ r.1 + 1 by omega) H1 A1 (by simp) (by rw [tys_len]; omega)
        obtain ⟨r2, t, e, G, a2⟩ := s1 (by rw [tys_len]; simp; omega)
        rw [y1, o_bs]
        show ((awI x1 r.1 0 3).bind fun h105 => (obO h105 th 6).bind fun _ => (fX8_spliced z th (nI (tN T 3 h - a)) (nI a) (some r.1) h105).bind fun q106 => some (q106.1, q106.2)) = _ → _
        sorry
      | succ u ih =>
        intro n k hk hka hn2
        obtain ⟨n, rfl⟩ : ∃ q, n = q + 1 := ⟨n - 1, by omega⟩
        rw [fX6_spread_15]
        simp only [o_bs, ofh, ch, t_at0 H (show k < tN T 3 h by omega)]
        rw [if_neg (nI_ge (by omega) (by omega)), nI_1]
        by_cases h0 : tI T 4 (6 * h + k) = 0
        · rw [if_pos h0]
          obtain ⟨i1, i2⟩ := ih n (k + 1) (by omega) (by omega) (by omega)
          refine ⟨fun q => i1 fun i h1 h2 => q i (by omega) h2, fun q => i2 fun q2 => q fun i h1 h2 => ?_⟩
          by_cases hik : i = k
          · rw [hik]; exact h0
          · exact q2 i (by omega) h2
        · rw [if_neg h0]
          exact to_no hF (fun q => h0 (q k (Nat.le_refl _) (by omega))) rfl
    obtain ⟨i1, i2⟩ := loop a 4000 (tN T 3 h - a) (by omega) (Nat.le_refl _) (by omega)
    exact ⟨fun q => i1 q.2, fun q => i2 fun q2 => q ⟨hal, q2⟩⟩
  · have hneg : ¬ (0 : Int32) ≤ nI (tN T 3 h) - nI a := by
      rw [Int32.le_iff_toInt_le, pk_sub_toInt (by omega) (by omega)]
      show ¬ (0 : Int) ≤ _
      omega
    rw [if_neg hneg]
    exact to_no hF (fun q => hal q.1) rfl
end
