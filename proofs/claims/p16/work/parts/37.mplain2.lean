/-! THE REFERENCE: plainly. My own rows. -/
theorem m_ofRow {S : mS} {p : Nat} {as : List aVl} {R R2 : aRS} {f F : Int32} {v : aVl} {x y : Int64} (hR : RSt R S) (hF : FV S p as) (hS : S.1 33 = nI (p + 1)) (hp : p < 80) (hx : S.2.2.2 38 (7 * p) = x) (hy : S.2.2.2 38 (7 * p + 1) = y) (hs : spO F as R = some (f, v, R2)) :
    ∃ S2, ((gX11_ofRow (nI p) F x y S).bind fun q => (gX11_over q).bind fun q2 => some q2) = some S2 ∧ PE S S2 p f v R2 := by
  unfold spO at hs
  obtain ⟨a0, h0, hs⟩ := bnd hs
  obtain ⟨f1, f2⟩ := hF 0 a0 h0
  simp only [Nat.add_zero] at f1 f2
  have hxa : x = a0.2 := hx.symm.trans f2
  subst hxa
  unfold gX11_ofRow
  rw [nI_7, mrA_n S 37 _ (by rw [ml_37]; omega) (by omega), o_bs, f1]
  by_cases h3 : a0.1 = 3
  · rw [if_pos h3] at hs ⊢
    obtain ⟨rfl, rfl, rfl⟩ : 3 = f ∧ (0, 0) = v ∧ R = R2 := by simpa [bad] using hs
    exact pe_bad hS hR 3 (by decide) (0, 0)
  · rw [if_neg h3] at hs ⊢
    by_cases h10 : F = 10
    · rw [if_pos h10] at hs ⊢
      obtain ⟨n, hn, hs⟩ := bnd hs
      rw [m_rrl hR, hn, o_bs]
      obtain ⟨rfl, rfl, rfl⟩ : (0 : Int32) = f ∧ (0, n.toInt64) = v ∧ R = R2 := by simpa using hs
      exact pe_ok hS hR 0 n.toInt64
    · rw [if_neg h10] at hs ⊢
      obtain ⟨n, hn, hs⟩ := bnd hs
      rw [m_rrl hR, hn, o_bs]
      obtain ⟨a1, h1, hs⟩ := bnd hs
      obtain ⟨g1, g2⟩ := hF 1 a1 h1
      have hya : y = a1.2 := hy.symm.trans g2
      subst hya
      rw [g_in, o_bs]
      show ∃ S2, (Option.bind (if inI a1.2 0 (n - 1).toInt64 = 0 then _ else _) _) = some S2 ∧ _
      by_cases h4 : inI a1.2 0 (n - 1).toInt64 = 0
      · rw [if_pos h4] at hs ⊢
        obtain ⟨rfl, rfl, rfl⟩ : 4 = f ∧ (0, 0) = v ∧ R = R2 := by simpa [bad] using hs
        exact pe_bad hS hR 4 (by decide) (0, 0)
      · rw [if_neg h4] at hs ⊢
        by_cases h8 : F = 8
        · rw [if_pos h8] at hs ⊢
          obtain ⟨w, hw, hs⟩ := bnd hs
          rw [m_rri hR, hw, o_bs]
          obtain ⟨rfl, rfl, rfl⟩ : (0 : Int32) = f ∧ (0, w.toInt64) = v ∧ R = R2 := by simpa using hs
          exact pe_ok hS hR 0 w.toInt64
        · rw [if_neg h8] at hs ⊢
          obtain ⟨a2, h2, hs⟩ := bnd hs
          obtain ⟨k1, k2⟩ := hF 2 a2 h2
          rw [show nI (7 * p) + 2 = nI (7 * p + 2) from nI_add _ 2, mrB_n S 38 _ (by rw [ml_38]; omega) (by omega), o_bs, k2]
          obtain ⟨R3, hw, hs⟩ := bnd hs
          obtain ⟨rfl, rfl, rfl⟩ : (0 : Int32) = f ∧ ((3 : Int32), (0 : Int64)) = v ∧ R3 = R2 := by simpa using hs
          unfold rwi at hw
          split at hw
          · next hi =>
            cases hw
            rw [mwA, ml_15, if_pos hi, o_bs]
            have hR3 : RSt (R.1, R.2.1, R.2.2.1, va_up R.2.2.2.1 (20 * a0.2.toInt32 + a1.2.toInt32).toNatClampNeg a2.2.toInt32, R.2.2.2.2) (sA S 15 (20 * a0.2.toInt32 + a1.2.toInt32).toNatClampNeg a2.2.toInt32) :=
              ⟨hR.1, hR.2.1, hR.2.2.1, by simpa [sA, va_up] using hR.2.2.2.1, by simp [sA, va_up, hR.2.2.2.2.1], hR.2.2.2.2.2⟩
            obtain ⟨S2, e2, hP⟩ := pe_ok (p := p) (S := sA S 15 (20 * a0.2.toInt32 + a1.2.toInt32).toNatClampNeg a2.2.toInt32) hS hR3 3 0
            exact ⟨S2, e2, hP.pre (eqB.A rfl)⟩
          · cases hw
theorem i64_le20 {x : Int64} (h1 : ¬ lg_cmp x 0 < 0) (h2 : ¬ 0 < lg_cmp x 20) : ∃ L : Nat, L ≤ 20 ∧ x.toInt32 = nI L := by
  have a1 : (0 : Int64) ≤ x := by
    unfold lg_cmp at h1
    by_cases c1 : x > 0
    · exact Int64.le_of_lt c1
    · rw [if_neg c1] at h1
      by_cases c2 : x = 0
      · rw [c2]; decide
      · rw [if_neg c2] at h1; exact absurd (by decide) h1
  have a2 : x ≤ 20 := by
    unfold lg_cmp at h2
    by_cases c1 : x > 20
    · rw [if_pos c1] at h2; exact absurd (by decide) h2
    · exact Int64.not_lt.mp c1
  obtain ⟨L, hL, rfl⟩ := pk_lOf (Int64.not_lt.mpr a1)
  have hL20 : L ≤ 20 := (pk_lLE (b := 20) hL (by decide)).mp a2
  exact ⟨L, hL20, lN_i L⟩
set_option maxHeartbeats 4000000 in
theorem m_plainly {T S : mS} {p c : Nat} {as : List aVl} {R R2 : aRS} {f : Int32} {v : aVl} (hT : TB T S) (hR : RSt R S) (hF : FV S p as) (hS : S.1 33 = nI (p + 1)) (hc : c < 60) (hp : p < 80) {j : Nat} (hj : j < 14) (hf : tI T 2 c = nI j) (hs : spP T c as R = some (f, v, R2)) (hb : tI T 2 c = 12 → 100 + tI T 10 c ≠ 0) : ∃ S2, gX11_plainly (nI p) (nI c) S = some S2 ∧ PE S S2 p f v R2 := by
  unfold gX11_plainly
  rw [nI_7, mrB_n S 38 _ (by rw [ml_38]; omega) (by omega), o_bs, nI_1, mrB_n S 38 _ (by rw [ml_38]; omega) (by omega), o_bs, mrA_n S 9 _ (by rw [ml_9]; omega) (by omega), o_bs, mrA_n S 10 _ (by rw [ml_10]; omega) (by omega), o_bs, mrA_n _ 2 _ (by rw [ml_2]; omega) (by omega), o_bs]
  have t9 : S.2.2.1 9 c = tI T 9 c := by rw [(hT 9 (by decide) (by decide)).1]
  have t10 : S.2.2.1 10 c = tI T 10 c := by rw [(hT 10 (by decide) (by decide)).1]
  have t2 : (sI S 29 0).2.2.1 2 c = nI j := by
    show S.2.2.1 2 c = _
    rw [(hT 2 (by decide) (by decide)).1]; exact hf
  rw [t9, t10, t2]
  have q0 : eqB fPl S (sI S 29 0) := eqB.I rfl
  have hS0 : (sI S 29 0).1 33 = nI (p + 1) := hS
  have hR0 : RSt R (sI S 29 0) := hR.eq (f := fun k => k == 29) (eqB.I rfl) rfl rfl rfl rfl rfl
  have hF0 : FV (sI S 29 0) p as := hF
  have x38 : (sI S 29 0).2.2.2 38 = S.2.2.2 38 := rfl
  have ok0 : ∀ (kd : Int32) (w : Int64), ∃ S2, ((gX11_comes kd w (sI S 29 0)).bind fun q => (gX11_over q).bind fun q2 => some q2) = some S2 ∧ PE S S2 p 0 (kd, w) R := fun kd w => by
    obtain ⟨S2, e, hP⟩ := pe_ok hS0 hR0 kd w
    exact ⟨S2, e, hP.pre q0⟩
  have bad0 : ∀ (w : Int32), w ≠ 0 → ∃ S2, ((gX11_over (sI (sI S 29 0) 29 w)).bind fun q2 => some q2) = some S2 ∧ PE S S2 p w (0, 0) R := fun w hw => by
    obtain ⟨S2, e, hP⟩ := pe_bad hS0 hR0 w hw (0, 0)
    exact ⟨S2, e, hP.pre q0⟩
  unfold spP at hs
  rw [hf] at hs
  rcases (show j = 0 ∨ j = 1 ∨ j = 2 ∨ j = 3 ∨ j = 4 ∨ j = 5 ∨ j = 6 ∨ j = 7 ∨ j = 8 ∨ j = 9 ∨ j = 10 ∨ j = 11 ∨ j = 12 ∨ j = 13 by omega) with rfl | rfl | rfl | rfl | rfl | rfl | rfl | rfl | rfl | rfl | rfl | rfl | rfl | rfl
  · rw [if_pos (by decide)]
    rw [if_pos (by decide)] at hs
    by_cases h1 : tI T 9 c = 1
    · rw [if_pos h1] at hs ⊢
      obtain ⟨rfl, rfl, rfl⟩ : (0 : Int32) = f ∧ (1, (tI T 10 c).toInt64) = v ∧ R = R2 := by simpa using hs
      rw [gX11_plainly_152, if_neg (by rw [h1]; decide)]
      exact ok0 1 _
    rw [if_neg h1] at hs ⊢
    by_cases h3 : tI T 9 c = 3
    · rw [if_pos h3] at hs ⊢
      obtain ⟨rfl, rfl, rfl⟩ : (0 : Int32) = f ∧ (2, (tI T 10 c).toInt64) = v ∧ R = R2 := by simpa using hs
      rw [gX11_plainly_152, if_neg (by rw [h3]; decide)]
      exact ok0 2 _
    rw [if_neg h3] at hs ⊢
    by_cases h4 : tI T 9 c = 4
    · rw [if_pos h4] at hs ⊢
      obtain ⟨rfl, rfl, rfl⟩ : (0 : Int32) = f ∧ (3, 0) = v ∧ R = R2 := by simpa using hs
      rw [gX11_plainly_152, if_pos h4]
      exact ok0 3 0
    rw [if_neg h4] at hs ⊢
    obtain ⟨rfl, rfl, rfl⟩ : (0 : Int32) = f ∧ (0, (tI T 10 c).toInt64) = v ∧ R = R2 := by simpa using hs
    rw [gX11_plainly_152, if_neg h4]
    exact ok0 0 _
  · rw [if_neg (by decide), if_pos (by decide)]
    rw [if_neg (by decide), if_pos (by decide)] at hs
    obtain ⟨a0, h0, hs⟩ := bnd hs
    obtain ⟨f1, f2⟩ := hF 0 a0 h0
    simp only [Nat.add_zero] at f1 f2
    obtain ⟨rfl, rfl, rfl⟩ : (0 : Int32) = f ∧ a0 = v ∧ R = R2 := by simpa using hs
    rw [mrA_n _ 37 _ (by rw [ml_37]; omega) (by omega), o_bs, show (sI S 29 0).2.2.1 37 (7 * p) = a0.1 from f1, f2]
    exact ok0 a0.1 a0.2
  · rw [if_neg (by decide), if_neg (by decide), if_pos (by decide)]
    rw [if_neg (by decide), if_neg (by decide), if_neg (by decide), if_neg (by decide), if_neg (by decide), if_neg (by decide)] at hs
    obtain ⟨a0, h0, hs⟩ := bnd hs
    obtain ⟨a1, h1, hs⟩ := bnd hs
    obtain ⟨-, f2⟩ := hF 0 a0 h0
    obtain ⟨-, g2⟩ := hF 1 a1 h1
    simp only [Nat.add_zero] at f2
    rw [f2, g2]
    unfold sp2 at hs
    rw [if_pos (by decide)] at hs
    obtain ⟨rfl, rfl, rfl⟩ : (0 : Int32) = f ∧ (0, (a0.2 + a1.2).toInt32.toInt64) = v ∧ R = R2 := by simpa using hs
    exact ok0 0 _
  · rw [if_neg (by decide), if_neg (by decide), if_neg (by decide), if_pos (by decide)]
    rw [if_neg (by decide), if_neg (by decide), if_neg (by decide), if_neg (by decide), if_neg (by decide), if_neg (by decide)] at hs
    obtain ⟨a0, h0, hs⟩ := bnd hs
    obtain ⟨a1, h1, hs⟩ := bnd hs
    obtain ⟨-, f2⟩ := hF 0 a0 h0
    obtain ⟨-, g2⟩ := hF 1 a1 h1
    simp only [Nat.add_zero] at f2
    rw [f2, g2]
    unfold sp2 at hs
    rw [if_neg (by decide), if_pos (by decide)] at hs
    obtain ⟨rfl, rfl, rfl⟩ : (0 : Int32) = f ∧ (0, (a0.2 - a1.2).toInt32.toInt64) = v ∧ R = R2 := by simpa using hs
    exact ok0 0 _
  · rw [if_neg (by decide), if_neg (by decide), if_neg (by decide), if_neg (by decide), if_pos (by decide)]
    rw [if_neg (by decide), if_neg (by decide), if_neg (by decide), if_neg (by decide), if_neg (by decide), if_neg (by decide)] at hs
    obtain ⟨a0, h0, hs⟩ := bnd hs
    obtain ⟨a1, h1, hs⟩ := bnd hs
    obtain ⟨-, f2⟩ := hF 0 a0 h0
    obtain ⟨-, g2⟩ := hF 1 a1 h1
    simp only [Nat.add_zero] at f2
    rw [f2, g2]
    unfold sp2 at hs
    rw [if_neg (by decide), if_neg (by decide), if_pos (by decide)] at hs
    obtain ⟨rfl, rfl, rfl⟩ : (0 : Int32) = f ∧ (0, (a0.2 * a1.2).toInt32.toInt64) = v ∧ R = R2 := by simpa using hs
    exact ok0 0 _
  · rw [if_neg (by decide), if_neg (by decide), if_neg (by decide), if_neg (by decide), if_neg (by decide), if_pos (by decide)]
    rw [if_neg (by decide), if_neg (by decide), if_neg (by decide), if_neg (by decide), if_neg (by decide), if_neg (by decide)] at hs
    obtain ⟨a0, h0, hs⟩ := bnd hs
    obtain ⟨a1, h1, hs⟩ := bnd hs
    obtain ⟨-, f2⟩ := hF 0 a0 h0
    obtain ⟨-, g2⟩ := hF 1 a1 h1
    simp only [Nat.add_zero] at f2
    rw [f2, g2]
    unfold sp2 at hs
    rw [if_neg (by decide), if_neg (by decide), if_neg (by decide), if_pos (by decide)] at hs
    by_cases hz : a1.2 = 0
    · rw [if_pos hz] at hs
      obtain ⟨rfl, rfl, rfl⟩ : 1 = f ∧ (0, 0) = v ∧ R = R2 := by simpa [bad] using hs
      rw [if_pos (i64_nz.mpr hz)]
      exact bad0 1 (by decide)
    rw [if_neg hz] at hs
    obtain ⟨rfl, rfl, rfl⟩ : (0 : Int32) = f ∧ (0, (a0.2 / a1.2).toInt32.toInt64) = v ∧ R = R2 := by simpa using hs
    rw [if_neg (fun q => hz (i64_nz.mp q)), if_neg hz]
    exact ok0 0 _
  · rw [if_neg (by decide), if_neg (by decide), if_neg (by decide), if_neg (by decide), if_neg (by decide), if_neg (by decide), if_pos (by decide)]
    rw [if_neg (by decide), if_neg (by decide), if_neg (by decide), if_neg (by decide), if_neg (by decide), if_neg (by decide)] at hs
    obtain ⟨a0, h0, hs⟩ := bnd hs
    obtain ⟨a1, h1, hs⟩ := bnd hs
    obtain ⟨-, f2⟩ := hF 0 a0 h0
    obtain ⟨-, g2⟩ := hF 1 a1 h1
    simp only [Nat.add_zero] at f2
    rw [f2, g2]
    unfold sp2 at hs
    rw [if_neg (by decide), if_neg (by decide), if_neg (by decide), if_neg (by decide), if_pos (by decide)] at hs
    by_cases hz : 0 ≤ lg_cmp a0.2 a1.2
    · rw [if_pos hz] at hs ⊢
      obtain ⟨rfl, rfl, rfl⟩ : (0 : Int32) = f ∧ (0, 0) = v ∧ R = R2 := by simpa using hs
      exact ok0 0 0
    rw [if_neg hz] at hs ⊢
    obtain ⟨rfl, rfl, rfl⟩ : (0 : Int32) = f ∧ (0, 1) = v ∧ R = R2 := by simpa using hs
    exact ok0 0 1
  · rw [if_neg (by decide), if_neg (by decide), if_neg (by decide), if_neg (by decide), if_neg (by decide), if_neg (by decide), if_neg (by decide), if_pos (by decide)]
    rw [if_neg (by decide), if_neg (by decide), if_neg (by decide), if_neg (by decide), if_neg (by decide), if_neg (by decide)] at hs
    obtain ⟨a0, h0, hs⟩ := bnd hs
    obtain ⟨a1, h1, hs⟩ := bnd hs
    obtain ⟨-, f2⟩ := hF 0 a0 h0
    obtain ⟨-, g2⟩ := hF 1 a1 h1
    simp only [Nat.add_zero] at f2
    rw [f2, g2]
    unfold sp2 at hs
    rw [if_neg (by decide), if_neg (by decide), if_neg (by decide), if_neg (by decide), if_neg (by decide), if_pos (by decide)] at hs
    obtain ⟨rfl, rfl, rfl⟩ : (0 : Int32) = f ∧ (1, a0.2 + a1.2) = v ∧ R = R2 := by simpa using hs
    exact ok0 1 _
  · rw [if_neg (by decide), if_neg (by decide), if_neg (by decide), if_neg (by decide), if_neg (by decide), if_neg (by decide), if_neg (by decide), if_neg (by decide), if_pos (by decide)]
    rw [if_neg (by decide), if_neg (by decide), if_neg (by decide), if_neg (by decide), if_neg (by decide), if_pos (by decide)] at hs
    rw [gX11_plainly_390, mrA_n _ 2 _ (by rw [ml_2]; omega) (by omega), o_bs, t2]
    obtain ⟨S2, e, hP⟩ := m_ofRow (x := S.2.2.2 38 (7 * p)) (y := S.2.2.2 38 (7 * p + 1)) hR0 hF0 hS0 hp rfl rfl hs
    exact ⟨S2, e, hP.pre q0⟩
  · rw [if_neg (by decide), if_neg (by decide), if_neg (by decide), if_neg (by decide), if_neg (by decide), if_neg (by decide), if_neg (by decide), if_neg (by decide), if_neg (by decide), if_pos (by decide)]
    rw [if_neg (by decide), if_neg (by decide), if_neg (by decide), if_neg (by decide), if_neg (by decide), if_pos (by decide)] at hs
    rw [gX11_plainly_390, mrA_n _ 2 _ (by rw [ml_2]; omega) (by omega), o_bs, t2]
    obtain ⟨S2, e, hP⟩ := m_ofRow (x := S.2.2.2 38 (7 * p)) (y := S.2.2.2 38 (7 * p + 1)) hR0 hF0 hS0 hp rfl rfl hs
    exact ⟨S2, e, hP.pre q0⟩
  · rw [if_neg (by decide), if_neg (by decide), if_neg (by decide), if_neg (by decide), if_neg (by decide), if_neg (by decide), if_neg (by decide), if_neg (by decide), if_neg (by decide), if_neg (by decide), if_pos (by decide)]
    rw [if_neg (by decide), if_neg (by decide), if_neg (by decide), if_neg (by decide), if_neg (by decide), if_pos (by decide)] at hs
    rw [gX11_plainly_390, mrA_n _ 2 _ (by rw [ml_2]; omega) (by omega), o_bs, t2]
    obtain ⟨S2, e, hP⟩ := m_ofRow (x := S.2.2.2 38 (7 * p)) (y := S.2.2.2 38 (7 * p + 1)) hR0 hF0 hS0 hp rfl rfl hs
    exact ⟨S2, e, hP.pre q0⟩
  · rw [if_neg (by decide), if_neg (by decide), if_neg (by decide), if_neg (by decide), if_neg (by decide), if_neg (by decide), if_neg (by decide), if_neg (by decide), if_neg (by decide), if_neg (by decide), if_neg (by decide), if_pos (by decide)]
    rw [if_neg (by decide), if_neg (by decide), if_neg (by decide), if_neg (by decide), if_pos (by decide)] at hs
    obtain ⟨a0, h0, hs⟩ := bnd hs
    obtain ⟨-, f2⟩ := hF 0 a0 h0
    simp only [Nat.add_zero] at f2
    rw [f2]
    have k330 : ∀ w : Int32, w ≠ 0 → gX11_plainly_330 a0.2 w (sI S 29 0) = ((gX11_over (sI (sI S 29 0) 29 w)).bind fun q2 => some q2) := fun w hw => by
        rw [gX11_plainly_330, if_neg (by simpa [sI, va_up] using hw)]
    by_cases h1 : lg_cmp a0.2 0 < 0
    · rw [if_pos h1] at hs
      obtain ⟨rfl, rfl, rfl⟩ : 5 = f ∧ (0, 0) = v ∧ R = R2 := by simpa [bad] using hs
      rw [if_neg (Int32.not_le.mpr h1), k330 5 (by decide)]
      exact bad0 5 (by decide)
    rw [if_neg h1] at hs
    rw [if_pos (Int32.not_lt.mp h1)]
    by_cases h2 : 0 < lg_cmp a0.2 20
    · rw [if_pos h2] at hs
      obtain ⟨rfl, rfl, rfl⟩ : 6 = f ∧ (0, 0) = v ∧ R = R2 := by simpa [bad] using hs
      rw [if_neg (Int32.not_le.mpr h2), k330 6 (by decide)]
      exact bad0 6 (by decide)
    rw [if_neg h2] at hs
    rw [if_pos (Int32.not_lt.mp h2)]
    have e13 : (sI S 29 0).1 13 = nI R.2.1 := hR.2.1
    rw [e13]
    by_cases h3 : R.2.1 = 60
    · rw [if_pos h3] at hs
      obtain ⟨rfl, rfl, rfl⟩ : 10 = f ∧ (0, 0) = v ∧ R = R2 := by simpa [bad] using hs
      rw [if_pos (by rw [h3]; rfl), k330 10 (by decide)]
      exact bad0 10 (by decide)
    rw [if_neg h3] at hs
    have hr60 : R.2.1 < 60 := by have := hR.2.2.1; omega
    rw [if_neg (show ¬ nI R.2.1 = 60 from fun q => h3 ((nI_eq (b := 60) (by omega) (by omega)).mp q))]
    obtain ⟨L, hL, hLe⟩ : ∃ L : Nat, L ≤ 20 ∧ a0.2.toInt32 = nI L := i64_le20 h1 h2
    obtain ⟨rfl, rfl, rfl⟩ : (0 : Int32) = f ∧ (2, (nI R.2.1).toInt64) = v ∧ rnew R a0.2.toInt32.toNatClampNeg = R2 := by simpa using hs
    rw [hLe, nI_clamp (by omega)]
    rw [gX11_plainly_330, if_pos (by simp [sI, va_up]), hLe]
    have hR1 : RSt R (sI (sI S 29 0) 29 0) := hR0.eq (f := fun k => k == 29) (eqB.I rfl) rfl rfl rfl rfl rfl
    obtain ⟨S1, e1, hR2, q1⟩ := g_newRow hR1 hr60 L hL
    rw [e1, o_bs]
    obtain ⟨S2, e2, hP⟩ := pe_ok (S := S1) (p := p) (by rw [← (q1 33 rfl).1]; exact hS) hR2 2 (nI R.2.1).toInt64
    exact ⟨S2, e2, hP.pre ((q0.tr (eqB.I rfl)).tr (q1.mono (fun k hk => by simp [fPl] at hk; simp [fRow]; omega)))⟩
  · rw [if_neg (by decide), if_neg (by decide), if_neg (by decide), if_neg (by decide), if_neg (by decide), if_neg (by decide), if_neg (by decide), if_neg (by decide), if_neg (by decide), if_neg (by decide), if_neg (by decide), if_neg (by decide), if_pos (by decide)]
    rw [if_neg (by decide), if_neg (by decide), if_pos (by decide)] at hs
    obtain ⟨rfl, rfl, rfl⟩ : 100 + tI T 10 c = f ∧ (0, 0) = v ∧ R = R2 := by simpa [bad] using hs
    exact bad0 _ (hb (by rw [hf]; rfl))
  · rw [if_neg (by decide), if_neg (by decide), if_neg (by decide), if_neg (by decide), if_neg (by decide), if_neg (by decide), if_neg (by decide), if_neg (by decide), if_neg (by decide), if_neg (by decide), if_neg (by decide), if_neg (by decide), if_neg (by decide), if_pos (by decide)]
    rw [if_neg (by decide), if_neg (by decide), if_neg (by decide), if_pos (by decide)] at hs
    obtain ⟨rfl, rfl, rfl⟩ : (0 : Int32) = f ∧ (0, (R.2.2.2.2 + 1).toInt64) = v ∧ rcnt R = R2 := by simpa using hs
    have e25 : (sI S 29 0).1 25 = R.2.2.2.2 := hR.2.2.2.2.2
    rw [e25]
    have e25b : (sI (sI S 29 0) 25 (R.2.2.2.2 + 1)).1 25 = R.2.2.2.2 + 1 := by simp [sI, va_up]
    rw [e25b]
    have hR1 : RSt (rcnt R) (sI (sI S 29 0) 25 (R.2.2.2.2 + 1)) := ⟨hR.1, hR.2.1, hR.2.2.1, hR.2.2.2.1, hR.2.2.2.2.1, e25b⟩
    obtain ⟨S2, e2, hP⟩ := pe_ok (S := sI (sI S 29 0) 25 (R.2.2.2.2 + 1)) (p := p) hS hR1 0 (R.2.2.2.2 + 1).toInt64
    exact ⟨S2, e2, hP.pre (q0.tr (eqB.I rfl))⟩
