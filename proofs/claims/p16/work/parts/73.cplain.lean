/-! CLASS AND REFERENCE: plain. My own rows. -/
section
variable {z : Nat → Nat} {ac : Nat} {r : aH} {C : cS}
theorem c_208 (hF : FRS r) (hr : ac + 228 ≤ r.1) : ∃ r2, fX6_ofPlain_208 z (co ac C r) = some (some r.1, co ac C r2) ∧ GX ac 2 8 r r2 ∧ aTy ac r2 r.1 [0, 0] 0 := by
  have e2 := a2 (ac := ac) (C := C) (r := hnew r 2 (.inr (6, dz6))) (v := 0) (w := 0) (show ac + 197 ≤ r.1 + 1 by omega)
  obtain ⟨r2, e, g, t⟩ := c_tarr (ac := ac) (z := z) (C := C) (r := r) (ts := [0, 0]) (g := 0) (f := va_up (va_up (fun _ => 0) 0 0) 1 0) (n := 2) rfl hF hr (by decide) (fun i t h => by
    match i, h with
    | 0, h => cases h; rfl
    | 1, h => cases h; rfl
    | i + 2, h => simp at h)
  refine ⟨r2, ?_, g, t⟩
  unfold fX6_ofPlain_208
  rw [co_hnew (by omega)]
  show (((nwI (co ac C (hnew r 2 (.inr (6, dz6)))) 2).bind fun h101 => (awI h101 (hnew r 2 (.inr (6, dz6))).1 0 0).bind fun h102 => (awI h102 (hnew r 2 (.inr (6, dz6))).1 1 0).bind fun h103 => (fX8_init z r.1 (some (hnew r 2 (.inr (6, dz6))).1) 0 h103).bind fun q104 => some (some r.1, q104))) = _
  obtain ⟨x1, y1, e2⟩ := bnd e2
  obtain ⟨x2, y2, e2⟩ := bnd e2
  rw [y1, o_bs, y2, o_bs, e2, o_bs, e, o_bs]
theorem c_ofPlain {f0 : Nat → Int32} {tg : Nat} (hF : FRS r) (hr : ac + 228 ≤ r.1) (hz : out ac (z 0)) (hz0 : r.2.2 (z 0) = some (.inl (tg, 0, .inl f0))) (F a : Int32) : ∃ r2, fX6_ofPlain z F a (co ac C r) = some (some r.1, co ac C r2) ∧ GX ac 2 8 r r2 ∧ aTy ac r2 r.1 (pTs F a) (pGv F a) := by
  unfold fX6_ofPlain pTs pGv
  by_cases h0 : F = 0
  · rw [if_pos h0, if_pos h0, if_pos h0]
    obtain ⟨r2, e, g, t⟩ := c_tno (ac := ac) (z := z) (C := C) (r := r) (g := a) hF hr hz hz0
    refine ⟨r2, ?_, g, t⟩
    rw [co_hnew (by omega)]
    show ((fX8_init z r.1 (some (z 0)) a (co ac C (hnew r 2 (.inr (6, dz6))))).bind fun q => some (some r.1, q)) = _
    rw [e, o_bs]
  rw [if_neg h0, if_neg h0, if_neg h0]
  by_cases h1 : F = 1
  · rw [if_pos h1, if_pos h1, if_pos h1]
    have e2 := a1 (ac := ac) (C := C) (r := hnew r 2 (.inr (6, dz6))) (v := a) (show ac + 197 ≤ r.1 + 1 by omega)
    obtain ⟨r2, e, g, t⟩ := c_tarr (ac := ac) (z := z) (C := C) (r := r) (ts := [a]) (g := a) (f := va_up (fun _ => 0) 0 a) (n := 1) rfl hF hr (by decide) (fun i t h => by
      match i, h with
      | 0, h => cases h; rfl
      | i + 1, h => simp at h
      )
    refine ⟨r2, ?_, g, t⟩
    rw [co_hnew (by omega)]
    show ((nwI (co ac C (hnew r 2 (.inr (6, dz6)))) 1).bind fun h1 => (awI h1 (hnew r 2 (.inr (6, dz6))).1 0 a).bind fun h2 => (fX8_init z r.1 (some (hnew r 2 (.inr (6, dz6))).1) a h2).bind fun q => some (some r.1, q)) = _
    obtain ⟨x1, y1, e2⟩ := bnd e2
    rw [y1, o_bs, e2, o_bs, e, o_bs]
  rw [if_neg h1, if_neg h1, if_neg h1]
  by_cases h2 : F = 2
  · rw [if_pos h2, if_neg (show ¬ F = 7 by rw [h2]; decide), if_neg (show ¬ F = 8 by rw [h2]; decide), if_neg (show ¬ F = 9 by rw [h2]; decide), if_neg (show ¬ F = 10 by rw [h2]; decide), if_neg (show ¬ F = 11 by rw [h2]; decide), if_neg (show ¬ F = 12 by rw [h2]; decide), if_neg (show ¬ F = 13 by rw [h2]; decide), if_neg (show ¬ F = 7 by rw [h2]; decide), if_neg (show ¬ F = 8 by rw [h2]; decide), if_neg (show ¬ F = 9 by rw [h2]; decide), if_neg (show ¬ F = 10 by rw [h2]; decide), if_neg (show ¬ F = 11 by rw [h2]; decide), if_neg (show ¬ F = 12 by rw [h2]; decide), if_neg (show ¬ F = 13 by rw [h2]; decide)]
    exact c_208 hF hr
  rw [if_neg h2]
  by_cases h3 : F = 3
  · rw [if_pos h3, if_neg (show ¬ F = 7 by rw [h3]; decide), if_neg (show ¬ F = 8 by rw [h3]; decide), if_neg (show ¬ F = 9 by rw [h3]; decide), if_neg (show ¬ F = 10 by rw [h3]; decide), if_neg (show ¬ F = 11 by rw [h3]; decide), if_neg (show ¬ F = 12 by rw [h3]; decide), if_neg (show ¬ F = 13 by rw [h3]; decide), if_neg (show ¬ F = 7 by rw [h3]; decide), if_neg (show ¬ F = 8 by rw [h3]; decide), if_neg (show ¬ F = 9 by rw [h3]; decide), if_neg (show ¬ F = 10 by rw [h3]; decide), if_neg (show ¬ F = 11 by rw [h3]; decide), if_neg (show ¬ F = 12 by rw [h3]; decide), if_neg (show ¬ F = 13 by rw [h3]; decide)]
    exact c_208 hF hr
  rw [if_neg h3]
  by_cases h4 : F = 4
  · rw [if_pos h4, if_neg (show ¬ F = 7 by rw [h4]; decide), if_neg (show ¬ F = 8 by rw [h4]; decide), if_neg (show ¬ F = 9 by rw [h4]; decide), if_neg (show ¬ F = 10 by rw [h4]; decide), if_neg (show ¬ F = 11 by rw [h4]; decide), if_neg (show ¬ F = 12 by rw [h4]; decide), if_neg (show ¬ F = 13 by rw [h4]; decide), if_neg (show ¬ F = 7 by rw [h4]; decide), if_neg (show ¬ F = 8 by rw [h4]; decide), if_neg (show ¬ F = 9 by rw [h4]; decide), if_neg (show ¬ F = 10 by rw [h4]; decide), if_neg (show ¬ F = 11 by rw [h4]; decide), if_neg (show ¬ F = 12 by rw [h4]; decide), if_neg (show ¬ F = 13 by rw [h4]; decide)]
    exact c_208 hF hr
  rw [if_neg h4]
  by_cases h5 : F = 5
  · rw [if_pos h5, if_neg (show ¬ F = 7 by rw [h5]; decide), if_neg (show ¬ F = 8 by rw [h5]; decide), if_neg (show ¬ F = 9 by rw [h5]; decide), if_neg (show ¬ F = 10 by rw [h5]; decide), if_neg (show ¬ F = 11 by rw [h5]; decide), if_neg (show ¬ F = 12 by rw [h5]; decide), if_neg (show ¬ F = 13 by rw [h5]; decide), if_neg (show ¬ F = 7 by rw [h5]; decide), if_neg (show ¬ F = 8 by rw [h5]; decide), if_neg (show ¬ F = 9 by rw [h5]; decide), if_neg (show ¬ F = 10 by rw [h5]; decide), if_neg (show ¬ F = 11 by rw [h5]; decide), if_neg (show ¬ F = 12 by rw [h5]; decide), if_neg (show ¬ F = 13 by rw [h5]; decide)]
    exact c_208 hF hr
  rw [if_neg h5]
  by_cases h6 : F = 6
  · rw [if_pos h6, if_neg (show ¬ F = 7 by rw [h6]; decide), if_neg (show ¬ F = 8 by rw [h6]; decide), if_neg (show ¬ F = 9 by rw [h6]; decide), if_neg (show ¬ F = 10 by rw [h6]; decide), if_neg (show ¬ F = 11 by rw [h6]; decide), if_neg (show ¬ F = 12 by rw [h6]; decide), if_neg (show ¬ F = 13 by rw [h6]; decide), if_neg (show ¬ F = 7 by rw [h6]; decide), if_neg (show ¬ F = 8 by rw [h6]; decide), if_neg (show ¬ F = 9 by rw [h6]; decide), if_neg (show ¬ F = 10 by rw [h6]; decide), if_neg (show ¬ F = 11 by rw [h6]; decide), if_neg (show ¬ F = 12 by rw [h6]; decide), if_neg (show ¬ F = 13 by rw [h6]; decide)]
    exact c_208 hF hr
  rw [if_neg h6]
  by_cases h7 : F = 7
  · rw [if_pos h7, if_pos h7, if_pos h7]
    have e2 := a2 (ac := ac) (C := C) (r := hnew r 2 (.inr (6, dz6))) (v := 1) (w := 1) (show ac + 197 ≤ r.1 + 1 by omega)
    obtain ⟨r2, e, g, t⟩ := c_tarr (ac := ac) (z := z) (C := C) (r := r) (ts := [1, 1]) (g := 1) (f := va_up (va_up (fun _ => 0) 0 1) 1 1) (n := 2) rfl hF hr (by decide) (fun i t h => by
      match i, h with
      | 0, h => cases h; rfl
      | 1, h => cases h; rfl
      | i + 2, h => simp at h
      )
    refine ⟨r2, ?_, g, t⟩
    rw [co_hnew (by omega)]
    show ((nwI (co ac C (hnew r 2 (.inr (6, dz6)))) 2).bind fun h1 => (awI h1 (hnew r 2 (.inr (6, dz6))).1 0 1).bind fun h2 => (awI h2 (hnew r 2 (.inr (6, dz6))).1 1 1).bind fun h3 => (fX8_init z r.1 (some (hnew r 2 (.inr (6, dz6))).1) 1 h3).bind fun q => some (some r.1, q)) = _
    obtain ⟨x1, y1, e2⟩ := bnd e2
    obtain ⟨x2, y2, e2⟩ := bnd e2
    rw [y1, o_bs, y2, o_bs, e2, o_bs, e, o_bs]
  rw [if_neg h7, if_neg h7, if_neg h7]
  by_cases h8 : F = 8
  · rw [if_pos h8, if_pos h8, if_pos h8]
    have e2 := a2 (ac := ac) (C := C) (r := hnew r 2 (.inr (6, dz6))) (v := 3) (w := 0) (show ac + 197 ≤ r.1 + 1 by omega)
    obtain ⟨r2, e, g, t⟩ := c_tarr (ac := ac) (z := z) (C := C) (r := r) (ts := [3, 0]) (g := 0) (f := va_up (va_up (fun _ => 0) 0 3) 1 0) (n := 2) rfl hF hr (by decide) (fun i t h => by
      match i, h with
      | 0, h => cases h; rfl
      | 1, h => cases h; rfl
      | i + 2, h => simp at h
      )
    refine ⟨r2, ?_, g, t⟩
    rw [co_hnew (by omega)]
    show ((nwI (co ac C (hnew r 2 (.inr (6, dz6)))) 2).bind fun h1 => (awI h1 (hnew r 2 (.inr (6, dz6))).1 0 3).bind fun h2 => (awI h2 (hnew r 2 (.inr (6, dz6))).1 1 0).bind fun h3 => (fX8_init z r.1 (some (hnew r 2 (.inr (6, dz6))).1) 0 h3).bind fun q => some (some r.1, q)) = _
    obtain ⟨x1, y1, e2⟩ := bnd e2
    obtain ⟨x2, y2, e2⟩ := bnd e2
    rw [y1, o_bs, y2, o_bs, e2, o_bs, e, o_bs]
  rw [if_neg h8, if_neg h8, if_neg h8]
  by_cases h9 : F = 9
  · rw [if_pos h9, if_pos h9, if_pos h9]
    have e2 := a3 (ac := ac) (C := C) (r := hnew r 2 (.inr (6, dz6))) (v := 3) (w := 0) (u := 0) (show ac + 197 ≤ r.1 + 1 by omega)
    obtain ⟨r2, e, g, t⟩ := c_tarr (ac := ac) (z := z) (C := C) (r := r) (ts := [3, 0, 0]) (g := 4) (f := va_up (va_up (va_up (fun _ => 0) 0 3) 1 0) 2 0) (n := 3) rfl hF hr (by decide) (fun i t h => by
      match i, h with
      | 0, h => cases h; rfl
      | 1, h => cases h; rfl
      | 2, h => cases h; rfl
      | i + 3, h => simp at h
      )
    refine ⟨r2, ?_, g, t⟩
    rw [co_hnew (by omega)]
    show ((nwI (co ac C (hnew r 2 (.inr (6, dz6)))) 3).bind fun h1 => (awI h1 (hnew r 2 (.inr (6, dz6))).1 0 3).bind fun h2 => (awI h2 (hnew r 2 (.inr (6, dz6))).1 1 0).bind fun h3 => (awI h3 (hnew r 2 (.inr (6, dz6))).1 2 0).bind fun h4 => (fX8_init z r.1 (some (hnew r 2 (.inr (6, dz6))).1) 4 h4).bind fun q => some (some r.1, q)) = _
    obtain ⟨x1, y1, e2⟩ := bnd e2
    obtain ⟨x2, y2, e2⟩ := bnd e2
    obtain ⟨x3, y3, e2⟩ := bnd e2
    rw [y1, o_bs, y2, o_bs, y3, o_bs, e2, o_bs, e, o_bs]
  rw [if_neg h9, if_neg h9, if_neg h9]
  by_cases h10 : F = 10
  · rw [if_pos h10, if_pos h10, if_pos h10]
    have e2 := a1 (ac := ac) (C := C) (r := hnew r 2 (.inr (6, dz6))) (v := 3) (show ac + 197 ≤ r.1 + 1 by omega)
    obtain ⟨r2, e, g, t⟩ := c_tarr (ac := ac) (z := z) (C := C) (r := r) (ts := [3]) (g := 0) (f := va_up (fun _ => 0) 0 3) (n := 1) rfl hF hr (by decide) (fun i t h => by
      match i, h with
      | 0, h => cases h; rfl
      | i + 1, h => simp at h
      )
    refine ⟨r2, ?_, g, t⟩
    rw [co_hnew (by omega)]
    show ((nwI (co ac C (hnew r 2 (.inr (6, dz6)))) 1).bind fun h1 => (awI h1 (hnew r 2 (.inr (6, dz6))).1 0 3).bind fun h2 => (fX8_init z r.1 (some (hnew r 2 (.inr (6, dz6))).1) 0 h2).bind fun q => some (some r.1, q)) = _
    obtain ⟨x1, y1, e2⟩ := bnd e2
    rw [y1, o_bs, e2, o_bs, e, o_bs]
  rw [if_neg h10, if_neg h10, if_neg h10]
  by_cases h11 : F = 11
  · rw [if_pos h11, if_pos h11, if_pos h11]
    have e2 := a1 (ac := ac) (C := C) (r := hnew r 2 (.inr (6, dz6))) (v := 0) (show ac + 197 ≤ r.1 + 1 by omega)
    obtain ⟨r2, e, g, t⟩ := c_tarr (ac := ac) (z := z) (C := C) (r := r) (ts := [0]) (g := 3) (f := va_up (fun _ => 0) 0 0) (n := 1) rfl hF hr (by decide) (fun i t h => by
      match i, h with
      | 0, h => cases h; rfl
      | i + 1, h => simp at h
      )
    refine ⟨r2, ?_, g, t⟩
    rw [co_hnew (by omega)]
    show ((nwI (co ac C (hnew r 2 (.inr (6, dz6)))) 1).bind fun h1 => (awI h1 (hnew r 2 (.inr (6, dz6))).1 0 0).bind fun h2 => (fX8_init z r.1 (some (hnew r 2 (.inr (6, dz6))).1) 3 h2).bind fun q => some (some r.1, q)) = _
    obtain ⟨x1, y1, e2⟩ := bnd e2
    rw [y1, o_bs, e2, o_bs, e, o_bs]
  rw [if_neg h11, if_neg h11, if_neg h11]
  by_cases h12 : F = 12
  · rw [if_pos h12, if_pos h12, if_pos h12]
    obtain ⟨r2, e, g, t⟩ := c_tno (ac := ac) (z := z) (C := C) (r := r) (g := a) hF hr hz hz0
    refine ⟨r2, ?_, g, t⟩
    rw [co_hnew (by omega)]
    show ((fX8_init z r.1 (some (z 0)) a (co ac C (hnew r 2 (.inr (6, dz6))))).bind fun q => some (some r.1, q)) = _
    rw [e, o_bs]
  rw [if_neg h12, if_neg h12, if_neg h12]
  by_cases h13 : F = 13
  · rw [if_pos h13, if_pos h13, if_pos h13]
    obtain ⟨r2, e, g, t⟩ := c_tno (ac := ac) (z := z) (C := C) (r := r) (g := 0) hF hr hz hz0
    refine ⟨r2, ?_, g, t⟩
    rw [co_hnew (by omega)]
    show ((fX8_init z r.1 (some (z 0)) 0 (co ac C (hnew r 2 (.inr (6, dz6))))).bind fun q => some (some r.1, q)) = _
    rw [e, o_bs]
  rw [if_neg h13, if_neg h13, if_neg h13]
  exact c_208 hF hr
end
