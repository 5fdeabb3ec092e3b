/-! THE CLASS: types of spread, gathered, moved handles. My own rows. -/
/-- each place is met -/
theorem onto : ∀ (n : Nat) (D : Nat → Nat), (∀ k, k < n → D k < n) → (∀ i k, i < n → k < n → D i = D k → i = k) → ∀ p, p < n → ∃ k, k < n ∧ D k = p := by
  intro n
  induction n with
  | zero => intro D _ _ p hp; omega
  | succ n ih =>
    intro D hD hI p hp
    -- swap so that the last goes to n
    by_cases hl : D n = p
    · exact ⟨n, by omega, hl⟩
    · let E : Nat → Nat := fun k => if D k = n then D n else D k
      have hE : ∀ k, k < n → E k < n := by
        intro k hk
        show (if D k = n then D n else D k) < n
        by_cases h : D k = n
        · rw [if_pos h]
          have h1 := hD n (by omega)
          have h2 : D n ≠ n := fun q => by have := hI k n (by omega) (by omega) (h.trans q.symm); omega
          omega
        · rw [if_neg h]
          have := hD k (by omega)
          omega
      have hEI : ∀ i k, i < n → k < n → E i = E k → i = k := by
        intro i k hi hk e
        have e : (if D i = n then D n else D i) = (if D k = n then D n else D k) := e
        by_cases h1 : D i = n
        · by_cases h2 : D k = n
          · exact hI i k (by omega) (by omega) (h1.trans h2.symm)
          · rw [if_pos h1, if_neg h2] at e
            have := hI n k (by omega) (by omega) e
            omega
        · by_cases h2 : D k = n
          · rw [if_neg h1, if_pos h2] at e
            have := hI i n (by omega) (by omega) e
            omega
          · rw [if_neg h1, if_neg h2] at e
            exact hI i k (by omega) (by omega) e
      by_cases hpn : p = n
      · -- D n is some place below n; it is met by E at the k with D k = n
        have h1 := hD n (by omega)
        have h2 : D n < n := by omega
        obtain ⟨k, hk, e⟩ := ih E hE hEI (D n) h2
        have e : (if D k = n then D n else D k) = D n := e
        by_cases h3 : D k = n
        · exact ⟨k, by omega, h3.trans hpn.symm⟩
        · rw [if_neg h3] at e
          have := hI k n (by omega) (by omega) e
          omega
      · obtain ⟨k, hk, e⟩ := ih E hE hEI p (by omega)
        have e : (if D k = n then D n else D k) = p := e
        by_cases h3 : D k = n
        · rw [if_pos h3] at e
          exact absurd e hl
        · rw [if_neg h3] at e
          exact ⟨k, by omega, e⟩
section
variable {z : Nat → Nat} {ac : Nat} {r : aH} {C : cS} {T : mS} {h x y th tx ty : Nat}
theorem o_10 {a : Nat} (hF : FRS r) (hr : ac + 228 ≤ r.1) (H : aTy ac r th (tys T h) (tI T 5 h)) (ha1 : 1 ≤ a) (ha6 : a ≤ 6) : TO ac r C (fX6_spread z (some th) (nI a) (co ac C r)) (a ≤ tN T 3 h ∧ ∀ i, tN T 3 h - a ≤ i → i < tN T 3 h → tI T 4 (6 * h + i) = 0) ((tys T h).take (tN T 3 h - a) ++ [3]) (tI T 5 h) := by
  have hn := H.n
  obtain ⟨fh, ofh⟩ := t_ob (C := C) H
  have ch := t_count (z := z) (C := C) H
  rw [tys_len] at ch
  unfold fX6_spread
  simp only [o_bs, ofh, ch]
  by_cases hal : a ≤ tN T 3 h
  · rw [nI_subN hal, if_pos (nI_pos' (by omega))]
    have loop : ∀ (u n k : Nat), k + u = tN T 3 h → tN T 3 h - a ≤ k → u < n → TO ac r C (fX6_spread_15 z n (some th) (nI a) (nI (tN T 3 h - a)) (nI k) (co ac C r)) (∀ i, k ≤ i → i < tN T 3 h → tI T 4 (6 * h + i) = 0) ((tys T h).take (tN T 3 h - a) ++ [3]) (tI T 5 h) := by
      intro u
      induction u with
      | zero =>
        intro n k hk hka hn2
        obtain ⟨n, rfl⟩ : ∃ q, n = q + 1 := ⟨n - 1, by omega⟩
        rw [fX6_spread_15]
        simp only [o_bs, ofh, ch]
        rw [if_pos (nI_le (by omega) (by omega))]
        have e1 := a1 (ac := ac) (C := C) (r := r) (v := 3) (show ac + 197 ≤ r.1 by omega)
        obtain ⟨x1, y1, e1⟩ := bnd e1
        have G1 := GX.new hF (show ac ≤ r.1 by omega) 1 (.inl (0, 1, .inl (va_up (fun _ => (0 : Int32)) 0 3)))
        have H1 := H.gx G1
        have A1 : aAr ac (hnew r 1 (.inl (0, 1, .inl (va_up (fun _ => (0 : Int32)) 0 3)))) r.1 [3] := ⟨by unfold out; omega, 0, _, new_at _ _ _, fun i t hi => by
          match i, hi with
          | 0, hi => cases hi; rfl
          | i + 1, hi => simp at hi⟩
        obtain ⟨fs, ofs⟩ := t_ob (C := C) H1
        obtain ⟨s1, -⟩ := c_spl (z := z) (C := C) (p := tN T 3 h - a) (c := a) G1.1 (show ac + 228 ≤ r.1 + 1 by omega) H1 A1 (by simp) (by rw [tys_len]; omega)
        obtain ⟨r2, t, e, G, a2⟩ := s1 (by rw [tys_len]; simp; omega)
        rw [y1, o_bs]
        show TO ac r C ((awI x1 r.1 0 3).bind fun h105 => (obO h105 th 6).bind fun _ => (fX8_spliced z th (nI (tN T 3 h - a)) (nI a) (some r.1) h105).bind fun q106 => some (q106.1, q106.2)) _ _ _
        have ed : (tys T h).drop (tN T 3 h - a + a) = [] := List.drop_eq_nil_of_le (by rw [tys_len]; omega)
        rw [ed, List.append_nil] at a2
        rw [e1, o_bs, ofs, o_bs, e, o_bs]
        exact to_yes (fun i h1 h2 => by omega) rfl ((G1.tr G).up (by decide) (by decide)) a2
      | succ u ih =>
        intro n k hk hka hn2
        obtain ⟨n, rfl⟩ : ∃ q, n = q + 1 := ⟨n - 1, by omega⟩
        rw [fX6_spread_15]
        simp only [o_bs, ofh, ch, t_at0 H (show k < tN T 3 h by omega)]
        rw [if_neg (nI_ge (by omega) (by omega)), nI_1]
        by_cases h0 : tI T 4 (6 * h + k) = 0
        · rw [if_pos h0]
          obtain ⟨i1, i2⟩ := ih n (k + 1) (by omega) (by omega) (by omega)
          refine ⟨fun q => i1 fun i h1 h2 => q i (by omega) h2, fun q => i2 fun q2 => q fun i h1 h2 => ?_⟩
          by_cases hik : i = k
          · rw [hik]; exact h0
          · exact q2 i (by omega) h2
        · rw [if_neg h0]
          exact to_no hF (fun q => h0 (q k (Nat.le_refl _) (by omega))) rfl
    obtain ⟨i1, i2⟩ := loop a 4000 (tN T 3 h - a) (by omega) (Nat.le_refl _) (by omega)
    exact ⟨fun q => i1 q.2, fun q => i2 fun q2 => q ⟨hal, q2⟩⟩
  · have hneg : ¬ (0 : Int32) ≤ nI (tN T 3 h) - nI a := by
      rw [Int32.le_iff_toInt_le, pk_sub_toInt (by omega) (by omega)]
      show ¬ (0 : Int) ≤ _
      omega
    rw [if_neg hneg]
    exact to_no hF (fun q => hal q.1) rfl
theorem at_m1 {a : Nat} : fX8_at z a (-1) (co ac C r) = some (-1, co ac C r) := by
  unfold fX8_at
  rw [if_pos (by decide)]
theorem o_11 {a : Nat} (hF : FRS r) (hr : ac + 228 ≤ r.1) (H : aTy ac r th (tys T h) (tI T 5 h)) (ha : a ≤ 5) : TO ac r C (fX6_gathered z (some th) (nI a) (co ac C r)) (tN T 3 h ≠ 0 ∧ tI T 4 (6 * h + (tN T 3 h - 1)) = 3 ∧ tN T 3 h - 1 + a ≤ 6) ((tys T h).take (tN T 3 h - 1) ++ List.replicate a 0) (tI T 5 h) := by
  have hn := H.n
  obtain ⟨fh, ofh⟩ := t_ob (C := C) H
  have ch := t_count (z := z) (C := C) H
  rw [tys_len] at ch
  unfold fX6_gathered
  simp only [o_bs, ofh, ch]
  rw [if_neg (nI_pos (show a < 2 ^ 31 by omega))]
  by_cases h0 : tN T 3 h = 0
  · rw [h0, show nI 0 - 1 = -1 by decide, at_m1, o_bs]
    simp only
    rw [if_neg (by decide)]
    exact to_no hF (fun q => q.1 rfl) rfl
  · have e1 : nI (tN T 3 h) - 1 = nI (tN T 3 h - 1) := nI_subN (b := 1) (by omega)
    rw [e1, t_at0 H (show tN T 3 h - 1 < tN T 3 h by omega), o_bs]
    simp only
    by_cases h3 : tI T 4 (6 * h + (tN T 3 h - 1)) = 3
    · rw [if_pos h3, c_nwI (by omega) (by omega), o_bs]
      have G1 := GX.new hF (show ac ≤ r.1 by omega) a (.inl (0, a, .inl (fun _ => (0 : Int32))))
      have H1 := H.gx G1
      obtain ⟨f1, of1⟩ := t_ob (C := C) H1
      have A1 : aAr ac (hnew r a (.inl (0, a, .inl (fun _ => (0 : Int32))))) r.1 (List.replicate a 0) := ⟨by unfold out; omega, 0, _, by rw [List.length_replicate]; exact new_at _ _ _, fun i t hi => by
        rw [List.getElem?_replicate] at hi
        split at hi
        · cases hi; rfl
        · cases hi⟩
      obtain ⟨s1, s2⟩ := c_spl (z := z) (C := C) (p := tN T 3 h - 1) (c := 1) G1.1 (show ac + 228 ≤ r.1 + 1 by omega) H1 A1 (by rw [List.length_replicate]; omega) (by rw [tys_len]; omega)
      have el : (tys T h).length - 1 + (List.replicate a (0 : Int32)).length = tN T 3 h - 1 + a := by rw [tys_len, List.length_replicate]
      rw [el] at s1 s2
      have ed : (tys T h).drop (tN T 3 h - 1 + 1) = [] := List.drop_eq_nil_of_le (by rw [tys_len]; omega)
      rw [ed, List.append_nil] at s1
      have loop : ∀ (u n k : Nat), k + u = a → u < n → TO ac r C (fX6_gathered_29 z n (some th) (nI a) (nI (tN T 3 h - 1)) (some r.1) (nI k) (co ac C (hnew r a (.inl (0, a, .inl (fun _ => (0 : Int32))))))) (tN T 3 h - 1 + a ≤ 6) ((tys T h).take (tN T 3 h - 1) ++ List.replicate a 0) (tI T 5 h) := by
        intro u
        induction u with
        | zero =>
          intro n k hk hn2
          obtain ⟨n, rfl⟩ : ∃ q, n = q + 1 := ⟨n - 1, by omega⟩
          rw [fX6_gathered_29, if_pos (nI_le (by omega) (by omega)), o_bs, of1, o_bs]
          by_cases h6 : tN T 3 h - 1 + a ≤ 6
          · obtain ⟨r2, t, e, G, a2⟩ := s1 h6
            have e : fX8_spliced z th (nI (tN T 3 h - 1)) 1 (some r.1) _ = _ := e
            rw [e, o_bs]
            exact to_yes h6 rfl ((G1.tr G).up (by omega) (by omega)) a2
          · have e := s2 h6
            have e : fX8_spliced z th (nI (tN T 3 h - 1)) 1 (some r.1) _ = _ := e
            rw [e, o_bs]
            exact ⟨fun q => absurd q h6, fun _ => ⟨_, rfl, G1.up (by omega) (by omega)⟩⟩
        | succ u ih =>
          intro n k hk hn2
          obtain ⟨n, rfl⟩ : ∃ q, n = q + 1 := ⟨n - 1, by omega⟩
          rw [fX6_gathered_29, if_neg (nI_ge (by omega) (by omega)), o_bs, c_awN 0 (by omega) (by omega) (by omega), o_bs]
          have ez : va_up (fun _ => (0 : Int32)) k 0 = fun _ => 0 := by
            funext i
            unfold va_up
            split <;> rfl
          rw [ez, nI_1]
          exact ih n (k + 1) (by omega) (by omega)
      have L := loop a 4000 0 (by omega) (by omega)
      rw [nI_0] at L
      obtain ⟨i1, i2⟩ := L
      exact ⟨fun q => i1 q.2.2, fun q => i2 fun q2 => q ⟨h0, h3, q2⟩⟩
    · rw [if_neg h3]
      exact to_no hF (fun q => h3 q.2.1) rfl
theorem o_2 {a : Nat} {ts : List Int32} (hF : FRS r) (hr : ac + 228 ≤ r.1) (H : aTy ac r th (tys T h) (tI T 5 h)) (ha : a < 2 ^ 31) (hD : ∀ k, k < tN T 3 h → dgt (nI a) (tN T 3 h) k < tN T 3 h) (hI : ∀ i k, i < tN T 3 h → k < tN T 3 h → dgt (nI a) (tN T 3 h) i = dgt (nI a) (tN T 3 h) k → i = k) (hl : ts.length = tN T 3 h) (ht : ∀ i, i < tN T 3 h → ts[dgt (nI a) (tN T 3 h) i]? = some (tI T 4 (6 * h + i))) : TO ac r C (fX6_moved z (some th) (nI a) (co ac C r)) True ts (tI T 5 h) := by
  have hn := H.n
  obtain ⟨fh, ofh⟩ := t_ob (C := C) H
  have ch := t_count (z := z) (C := C) H
  rw [tys_len] at ch
  unfold fX6_moved
  simp only [o_bs, ofh, ch]
  rw [c_nwI (by omega) (by omega), o_bs]
  have loop : ∀ (u n k : Nat) (f : Nat → Int32), k + u = tN T 3 h → u < n → (∀ i, i < k → f (dgt (nI a) (tN T 3 h) i) = tI T 4 (6 * h + i)) → TO ac r C (fX6_moved_9 z n (some th) (nI a) (some r.1) (nI k) (co ac C (hnew r (tN T 3 h) (.inl (0, tN T 3 h, .inl f))))) True ts (tI T 5 h) := by
    intro u
    induction u with
    | zero =>
      intro n k f hk hn2 hf
      obtain ⟨n, rfl⟩ : ∃ q, n = q + 1 := ⟨n - 1, by omega⟩
      have G1 := GX.new hF (show ac ≤ r.1 by omega) (tN T 3 h) (.inl (0, tN T 3 h, .inl f))
      have G2 := GX.new G1.1 (show ac ≤ r.1 + 1 by omega) 2 (.inr (6, dz6))
      have eN := p_an (ac := ac) (C := C) (new_at r (tN T 3 h) (.inl (0, tN T 3 h, .inl f))) (by unfold out; omega)
      rw [fX6_moved_9, o_bs, eN, o_bs, if_pos (nI_le (by omega) (by omega)), o_bs, co_hnew (show ac + 197 ≤ r.1 + 1 by omega), t_gives (H.gx (G1.tr G2)), o_bs]
      have hcell : (hnew (hnew r (tN T 3 h) (.inl (0, tN T 3 h, .inl f))) 2 (.inr (6, dz6))).2.2 r.1 = some (.inl (0, ts.length, .inl f)) := by
        rw [hl]
        exact new_old G1.1 _ _ (new_at _ _ _)
      obtain ⟨i1, i2⟩ := c_tnew (ac := ac) (z := z) (C := C) (r := hnew (hnew r (tN T 3 h) (.inl (0, tN T 3 h, .inl f))) 2 (.inr (6, dz6))) (a := r.1 + 1) (k := r.1) (ts := ts) (g := tI T 5 h) (by unfold out; omega) (by omega) (new_at (hnew r (tN T 3 h) (.inl (0, tN T 3 h, .inl f))) _ _) (by unfold out; omega) hcell (by omega) (fun i t hi => by
        have hil : i < ts.length := (List.getElem?_eq_some_iff.mp hi).1
        obtain ⟨q, hq, e⟩ := onto (tN T 3 h) (dgt (nI a) (tN T 3 h)) hD hI i (by omega)
        have e2 := ht q hq
        rw [e, hi] at e2
        have e3 := hf q (by omega)
        rw [e] at e3
        rw [e3]
        exact (Option.some.inj e2).symm)
      show TO ac r C ((fX8_init z (r.1 + 1) (some r.1) (tI T 5 h) (co ac C (hnew (hnew r (tN T 3 h) (.inl (0, tN T 3 h, .inl f))) 2 (.inr (6, dz6))))).bind fun q105 => some (some (r.1 + 1), q105)) _ _ _
      rw [i1, o_bs]
      exact to_yes trivial rfl (((G1.tr G2).hup (hF (r.1 + 1) (by omega)) (new_at (hnew r (tN T 3 h) (.inl (0, tN T 3 h, .inl f))) _ _) (by omega)).up (by omega) (by omega)) i2
    | succ u ih =>
      intro n k f hk hn2 hf
      obtain ⟨n, rfl⟩ : ∃ q, n = q + 1 := ⟨n - 1, by omega⟩
      have G1 := GX.new hF (show ac ≤ r.1 by omega) (tN T 3 h) (.inl (0, tN T 3 h, .inl f))
      have H1 := H.gx G1
      obtain ⟨f1, of1⟩ := t_ob (C := C) H1
      have eN := p_an (ac := ac) (C := C) (new_at r (tN T 3 h) (.inl (0, tN T 3 h, .inl f))) (by unfold out; omega)
      have ep : fX6_placeAt z (nI a) (nI (tN T 3 h)) (nI k) (co ac C (hnew r (tN T 3 h) (.inl (0, tN T 3 h, .inl f)))) = some (nI (dgt (nI a) (tN T 3 h) k), co ac C (hnew r (tN T 3 h) (.inl (0, tN T 3 h, .inl f)))) := by
        rw [c_place (show k < tN T 3 h by omega) hn ha]
        unfold dgt
        rw [nI_clamp ha]
      have hd := hD k (by omega)
      rw [fX6_moved_9, o_bs, eN, o_bs, if_neg (nI_ge (by omega) (by omega)), o_bs, ep, o_bs]
      simp only
      rw [if_neg (nI_pos (by omega)), eN, o_bs, if_neg (nI_ge (by omega) (by omega)), o_bs, of1, o_bs, t_at0 H1 (show k < tN T 3 h by omega), o_bs]
      simp only
      rw [c_awN _ (by omega) (by omega) hd, o_bs, nI_1]
      refine ih n (k + 1) _ (by omega) (by omega) fun i hi => ?_
      unfold va_up
      by_cases hik : i = k
      · rw [hik, if_pos rfl]
      · rw [if_neg (fun e => hik (hI i k (by omega) (by omega) e)), hf i (by omega)]
  have L := loop (tN T 3 h) 4000 0 (fun _ => 0) (by omega) (by omega) (fun i hi => by omega)
  rw [nI_0] at L
  exact L
end
