/-! THE CLASS: types of other handles, all forms. My own rows. -/
theorem o_eta {α β : Type} (x : Option (α × β)) : (x.bind fun q => some (q.1, q.2)) = x := by cases x <;> rfl
section
variable {z : Nat → Nat} {ac : Nat} {r : aH} {C : cS}
theorem TO.mp {q : Option (Option Nat × aH)} {P Q : Prop} {ts us : List Int32} {g g2 : Int32} (t : TO ac r C q P us g) (h : Q ↔ P) (e : Q → ts = us) (eg : g2 = g) : TO ac r C q Q ts g2 := by
  subst eg
  refine ⟨fun p => ?_, fun p => t.2 fun w => p (h.mpr w)⟩
  rw [e p]
  exact t.1 (h.mp p)
end
section
variable {z : Nat → Nat} {ac : Nat} {r : aH} {C : cS} {T : mS} {nh h x y a pa : Nat} {A b : Int32} {vs : List aVl} {ts : List Int32} {ha : Nat → Nat}
set_option maxHeartbeats 4000000 in
theorem c_ofOther {f0 : Nat → Int32} {tg : Nat} (hA : WA T nh) (hF : FRS r) (hr : ac + 228 ≤ r.1) (hz : out ac (z 0)) (hz0 : r.2.2 (z 0) = some (.inl (tg, 0, .inl f0))) {j : Nat} (hj : j < 13) (hx : x < nh) (H : hOk ac T r ha h) (X : hOk ac T r ha x) (Y : hOk ac T r ha y) (p : pOk ac r pa (nI j) (ha h) (ha x) (ha y) A b) (hV : oV T j h a A b) (ht : (j ≠ 0 → oC T vs j h x y a) → oT T j h x a b ts) : TO ac r C (fX6_ofOther z (some pa) (co ac C r)) (j ≠ 0 → oC T vs j h x y a) ts (oG T j h x y) := by
  obtain ⟨th, Hh, rh⟩ := h_ty H
  obtain ⟨tx, Hx, rx⟩ := h_ty X
  obtain ⟨ty, Hy, ry⟩ := h_ty Y
  obtain ⟨po, pc⟩ := p
  have hn := Hh.n
  have xn := Hx.n
  have d0 : rdI (co ac C r) pa [2] 0 = some (nI j) := p_rdI pc po (by decide) rfl
  have d1 : rdR (co ac C r) pa [2] 1 = some (some (ha h)) := p_rdR pc po (by decide) rfl
  have d2 : rdR (co ac C r) pa [2] 2 = some (some (ha x)) := p_rdR pc po (by decide) rfl
  have d3 : rdR (co ac C r) pa [2] 3 = some (some (ha y)) := p_rdR pc po (by decide) rfl
  have d4 : rdI (co ac C r) pa [2] 4 = some A := p_rdI pc po (by decide) rfl
  obtain ⟨fh, ofh⟩ := t_ob (C := C) Hh
  obtain ⟨fx, ofx⟩ := t_ob (C := C) Hx
  have cx := t_count (z := z) (C := C) Hx
  rw [tys_len] at cx
  unfold fX6_ofOther
  rw [o_bs, d1, o_bs, o_bs, rh, o_bs, d2, o_bs, o_bs, rx, o_bs, d3, o_bs, o_bs, ry, o_bs, d0, o_bs]
  obtain rfl | rfl | rfl | rfl | rfl | rfl | rfl | rfl | rfl | rfl | rfl | rfl | rfl : j = 0 ∨ j = 1 ∨ j = 2 ∨ j = 3 ∨ j = 4 ∨ j = 5 ∨ j = 6 ∨ j = 7 ∨ j = 8 ∨ j = 9 ∨ j = 10 ∨ j = 11 ∨ j = 12 := by omega
  · rw [if_pos (by decide)]
    obtain ⟨eA, hal⟩ := hV.1 (Or.inl rfl)
    rw [d4, o_bs, o_bs, ofh, o_bs, o_eta, eA]
    exact (o_0 hF hr hz hz0 Hh hal).mp ⟨fun _ => trivial, fun _ e => absurd rfl e⟩ (fun q => (ht q).1 rfl) (by simp [oG])
  · rw [if_neg (by decide), if_pos (by decide)]
    obtain ⟨eA, hal, -⟩ := hV.2.1 rfl
    have e1 : nwI (co ac C r) 1 = some (co ac C (hnew r 1 (.inl (0, 1, .inl (fun _ => 0))))) := c_nwI (n := 1) (by omega) (by decide)
    have d5 : rdI (co ac C (hnew r 1 (.inl (0, 1, .inl (fun _ => 0))))) pa [2] 5 = some b := p_rdI (new_old hF _ _ pc) po (by decide) rfl
    have t := o_1 (z := z) (C := C) (b := b) hF hr Hh hal
    rw [e1, o_bs] at t
    rw [d4, o_bs, e1, o_bs, d5, o_bs, eA]
    exact t.mp ⟨fun q => oC_1.mp (q (by decide)), fun q _ => oC_1.mpr q⟩ (fun q => (ht q).2.1 rfl) (by simp [oG])
  · rw [if_neg (by decide), if_neg (by decide), if_pos (by decide)]
    obtain ⟨eA, hal, hD, hI⟩ := hV.2.2.1 rfl
    have h10 : 10 ^ tN T 3 h ≤ 10 ^ 6 := Nat.pow_le_pow_right (by decide) hn
    obtain ⟨l1, l2⟩ := (ht fun _ => oC_2).2.2.1 rfl
    rw [d4, o_bs, o_eta, eA]
    exact (o_2 hF hr Hh (by omega) hD hI l1 l2).mp ⟨fun _ => trivial, fun _ _ => oC_2⟩ (fun _ => rfl) (by simp [oG])
  · rw [if_neg (by decide), if_neg (by decide), if_neg (by decide), if_pos (by decide), o_eta]
    exact (o_3 hF hr hz hz0 Hh Hx (hA x hx).1).mp ⟨fun q => oC_3.mp (q (by decide)), fun q _ => oC_3.mpr q⟩ (fun q => (ht q).2.2.2.1 rfl) (by simp [oG])
  · rw [if_neg (by decide), if_neg (by decide), if_neg (by decide), if_neg (by decide), if_pos (by decide)]
    obtain ⟨eA, hal⟩ := hV.1 (Or.inr rfl)
    rw [eA] at d4
    refine (o_4 (z := z) hF hr Hh Hx hal ?_).mp ⟨fun q => oC_4.mp (q (by decide)), fun q _ => oC_4.mpr q⟩ (fun q => (ht q).2.2.2.2.1 rfl) (by simp [oG])
    simp only [o_bs, ofx, cx, d4, t_gives Hx, ofh, t_at0 Hh hal]
  · rw [if_neg (by decide), if_neg (by decide), if_neg (by decide), if_neg (by decide), if_neg (by decide), if_pos (by decide), o_eta]
    exact (o_5 hF hr Hh Hx).mp ⟨fun q => oC_5.mp (q (by decide)), fun q _ => oC_5.mpr q⟩ (fun q => (ht q).2.2.2.2.2.1 (Or.inl rfl)) (by simp [oG])
  · rw [if_neg (by decide), if_neg (by decide), if_neg (by decide), if_neg (by decide), if_neg (by decide), if_neg (by decide), if_pos (by decide)]
    have al := t_alike (z := z) (C := C) Hx Hy
    have hf := t_from (z := z) (C := C) (p := 0) Hx Hh (by decide)
    rw [nI_0, tys_len, tys_len, List.drop_zero] at hf
    refine TO.mp (P := tI T 5 h = 0 ∧ (tN T 3 h ≤ tN T 3 x ∧ tys T h = (tys T x).take (tN T 3 h)) ∧ tys T x = tys T y ∧ tI T 5 x = tI T 5 y) (us := tys T x) (g := tI T 5 x) ?_ ⟨fun q => oC_6.mp (q (by decide)), fun q _ => oC_6.mpr q⟩ (fun q => (ht q).2.2.2.2.2.2.1 (Or.inl rfl)) (by simp [oG])
    rw [o_bs, t_gives Hh, o_bs]
    by_cases k1 : tI T 5 h = 0
    · rw [if_pos k1, o_bs, ofx, o_bs, al, o_bs]
      by_cases k2 : tys T x = tys T y ∧ tI T 5 x = tI T 5 y
      · rw [if_pos k2]
        simp only
        rw [if_neg (by decide), ofx, o_bs, hf, o_bs]
        by_cases k3 : 0 + tN T 3 h ≤ tN T 3 x ∧ (tys T x).take (tN T 3 h) = tys T h
        · rw [if_pos k3]
          simp only
          rw [if_neg (by decide)]
          exact to_same hF ⟨k1, ⟨by omega, k3.2.symm⟩, k2⟩ rfl Hx
        · rw [if_neg k3]
          simp only
          rw [if_pos trivial]
          exact to_no hF (fun q => k3 ⟨by omega, q.2.1.2.symm⟩) rfl
      · rw [if_neg k2]
        simp only
        rw [if_pos trivial]
        exact to_no hF (fun q => k2 q.2.2) rfl
    · rw [if_neg k1]
      exact to_no hF (fun q => k1 q.1) rfl
  · rw [if_neg (by decide), if_neg (by decide), if_neg (by decide), if_neg (by decide), if_neg (by decide), if_neg (by decide), if_neg (by decide), if_pos (by decide)]
    obtain ⟨n1, n2⟩ := c_tna (z := z) (C := C) Hh Hx
    refine TO.mp (P := tN T 3 x = tN T 3 h + 1 ∧ tI T 4 (6 * x) = 0 ∧ (tys T x).drop 1 = tys T h ∧ tI T 5 x = tI T 5 h) (us := tys T h) (g := tI T 5 h) ?_ ⟨fun q => oC_7.mp (q (by decide)), fun q _ => oC_7.mpr q⟩ (fun q => (ht q).2.2.2.2.2.1 (Or.inr (Or.inl rfl))) (by simp [oG])
    rw [o_bs, t_gives Hx, o_bs, o_bs, t_gives Hh, o_bs]
    by_cases k1 : tI T 5 x = tI T 5 h
    · rw [if_pos k1]
      by_cases k2 : tN T 3 x = tN T 3 h + 1 ∧ tI T 4 (6 * x) = 0 ∧ (tys T x).drop 1 = tys T h
      · rw [n1 k2, o_bs]
        simp only
        rw [if_neg (by decide)]
        exact to_same hF ⟨k2.1, k2.2.1, k2.2.2, k1⟩ rfl Hh
      · rw [n2 k2, o_bs]
        simp only
        rw [if_pos trivial]
        exact to_no hF (fun q => k2 ⟨q.1, q.2.1, q.2.2.1⟩) rfl
    · rw [if_neg k1]
      exact to_no hF (fun q => k1 q.2.2.2) rfl
  · rw [if_neg (by decide), if_neg (by decide), if_neg (by decide), if_neg (by decide), if_neg (by decide), if_neg (by decide), if_neg (by decide), if_neg (by decide), if_pos (by decide)]
    obtain ⟨n1, n2⟩ := c_tna (z := z) (C := C) Hh Hx
    refine TO.mp (P := tN T 3 x = tN T 3 h + 1 ∧ tI T 4 (6 * x) = 0 ∧ (tys T x).drop 1 = tys T h ∧ tI T 5 x = 4) (us := tys T h) (g := tI T 5 h) ?_ ⟨fun q => oC_8.mp (q (by decide)), fun q _ => oC_8.mpr q⟩ (fun q => (ht q).2.2.2.2.2.1 (Or.inr (Or.inr (Or.inl rfl)))) (by simp [oG])
    rw [o_bs, t_gives Hx, o_bs]
    by_cases k1 : tI T 5 x = 4
    · rw [if_pos k1]
      by_cases k2 : tN T 3 x = tN T 3 h + 1 ∧ tI T 4 (6 * x) = 0 ∧ (tys T x).drop 1 = tys T h
      · rw [n1 k2, o_bs]
        simp only
        rw [if_neg (by decide)]
        exact to_same hF ⟨k2.1, k2.2.1, k2.2.2, k1⟩ rfl Hh
      · rw [n2 k2, o_bs]
        simp only
        rw [if_pos trivial]
        exact to_no hF (fun q => k2 ⟨q.1, q.2.1, q.2.2.1⟩) rfl
    · rw [if_neg k1]
      exact to_no hF (fun q => k1 q.2.2.2) rfl
  · rw [if_neg (by decide), if_neg (by decide), if_neg (by decide), if_neg (by decide), if_neg (by decide), if_neg (by decide), if_neg (by decide), if_neg (by decide), if_neg (by decide), if_pos (by decide), o_eta]
    exact (o_9 hF Hh Hx Hy (hA x hx).2).mp ⟨fun q => oC_9.mp (q (by decide)), fun q _ => oC_9.mpr q⟩ (fun q => (ht q).2.2.2.2.2.1 (Or.inr (Or.inr (Or.inr rfl)))) (by simp [oG])
  · rw [if_neg (by decide), if_neg (by decide), if_neg (by decide), if_neg (by decide), if_neg (by decide), if_neg (by decide), if_neg (by decide), if_neg (by decide), if_neg (by decide), if_neg (by decide), if_pos (by decide)]
    obtain ⟨eA, a1, a6⟩ := hV.2.2.2.1 rfl
    rw [d4, o_bs, o_eta, eA]
    exact (o_10 hF hr Hh a1 a6).mp ⟨fun q => oC_10.mp (q (by decide)), fun q _ => oC_10.mpr q⟩ (fun q => (ht q).2.2.2.2.2.2.2.1 rfl) (by simp [oG])
  · rw [if_neg (by decide), if_neg (by decide), if_neg (by decide), if_neg (by decide), if_neg (by decide), if_neg (by decide), if_neg (by decide), if_neg (by decide), if_neg (by decide), if_neg (by decide), if_neg (by decide), if_pos (by decide)]
    obtain ⟨eA, a5⟩ := hV.2.2.2.2 rfl
    rw [d4, o_bs, o_eta, eA]
    exact (o_11 hF hr Hh a5).mp ⟨fun q => oC_11.mp (q (by decide)), fun q _ => oC_11.mpr q⟩ (fun q => (ht q).2.2.2.2.2.2.2.2 rfl) (by simp [oG])
  · rw [if_neg (by decide), if_neg (by decide), if_neg (by decide), if_neg (by decide), if_neg (by decide), if_neg (by decide), if_neg (by decide), if_neg (by decide), if_neg (by decide), if_neg (by decide), if_neg (by decide), if_neg (by decide), if_pos (by decide)]
    obtain ⟨n1, n2⟩ := o_12 (z := z) (C := C) hF Hh Hx
    refine TO.mp (P := tN T 3 x = tN T 3 h ∧ caB (tI T 5 h) (tI T 5 x) = true ∧ ∀ i, i < tN T 3 h → caB (tI T 4 (6 * x + i)) (tI T 4 (6 * h + i)) = true) (us := tys T x) (g := tI T 5 x) ?_ ⟨fun q => oC_12.mp (q (by decide)), fun q _ => oC_12.mpr q⟩ (fun q => (ht q).2.2.2.2.2.2.1 (Or.inr rfl)) (by simp [oG])
    by_cases k2 : tN T 3 x = tN T 3 h ∧ caB (tI T 5 h) (tI T 5 x) = true ∧ ∀ i, i < tN T 3 h → caB (tI T 4 (6 * x + i)) (tI T 4 (6 * h + i)) = true
    · rw [n1 k2, o_bs]
      simp only
      rw [if_neg (by decide)]
      exact to_same hF k2 rfl Hx
    · rw [n2 k2, o_bs]
      simp only
      rw [if_pos trivial]
      exact to_no hF k2 rfl
end
