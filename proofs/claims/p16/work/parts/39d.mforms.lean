/-! THE REFERENCE: forms 22, 30, 31. My own rows. -/
theorem g_digit7 (k : Nat) (S : mS) : ∀ (d n a x : Nat), x = k + d → d < n → a < 2 ^ 31 → x < 2 ^ 31 → gX11_digit_7 n (nI k) (nI a) (nI x) S = some (nI (a / 10 ^ d % 10), S) := by
  intro d
  induction d with
  | zero =>
    intro n a x hx hn ha hx2
    obtain ⟨n, rfl⟩ : ∃ q, n = q + 1 := ⟨n - 1, by omega⟩
    rw [gX11_digit_7, if_pos (nI_le (by omega) (by omega)), show (10 : Int32) = nI 10 from rfl, pk_rem ha (by decide) (by decide), Nat.pow_zero, Nat.div_one]
  | succ d ih =>
    intro n a x hx hn ha hx2
    obtain ⟨n, rfl⟩ : ∃ q, n = q + 1 := ⟨n - 1, by omega⟩
    rw [gX11_digit_7, if_neg (nI_ge (by omega) (by omega)), show x = (k + d) + 1 by omega, pk_m1, show (10 : Int32) = nI 10 from rfl, pk_div ha (by decide) (by decide), ih n (a / 10) (k + d) rfl (by omega) (by omega) (by omega), Nat.div_div_eq_div_mul, show 10 * 10 ^ d = 10 ^ (d + 1) from (Nat.pow_succ').symm]
theorem g_digit {S : mS} {a m k : Nat} (hk : k < m) (hm : m ≤ 6) (ha : a < 2 ^ 31) : gX11_digit (nI a) (nI m) (nI k) S = some (nI (a / 10 ^ (m - 1 - k) % 10), S) := by
  obtain ⟨m, rfl⟩ : ∃ q, m = q + 1 := ⟨m - 1, by omega⟩
  unfold gX11_digit
  rw [nI_p1, g_digit7 k S (m - k) 4000 a m (by omega) (by omega) ha (by omega), Nat.add_sub_cancel]
theorem dt_1 {as : List aVl} {d : Nat} (h : d < as.length) : (as.drop d).take (d + 1 - d) = [as.getD d (0, 0)] := by
  rw [Nat.add_sub_cancel_left, List.drop_eq_getElem_cons h, List.take_succ_cons, List.take_zero, List.getD_eq_getElem?_getD, List.getElem?_eq_getElem h]
  rfl
theorem g_203 {T S : mS} {p c x a m : Nat} {as : List aVl} {R : aRS} {s : Int32} (hp : p < 80) (hm : m = as.length) (h6 : m ≤ 6) (ha : a < 2 ^ 31) (hd : ∀ i, i < m → a / 10 ^ (m - 1 - i) % 10 < m) : ∀ (j n k : Nat) (S2 : mS) (bs : List aVl), k + j = m → j < n → PR T S S2 p c as R s bs → bs.length = k →
    ∃ S3, gX11_oneOther_203 n (nI p) (nI x) (nI a) (nI m) (nI k) S2 = ((gX11_last (nI p) (nI x) S3).bind fun q => some q) ∧ PR T S S3 p c as R s (bs ++ (List.range' k j).map fun i => as.getD (a / 10 ^ (m - 1 - i) % 10) (0, 0)) := by
  intro j
  induction j with
  | zero =>
    intro n k S2 bs hk hn hP hl
    obtain ⟨n, rfl⟩ : ∃ q, n = q + 1 := ⟨n - 1, by omega⟩
    rw [gX11_oneOther_203, if_pos (nI_le (by omega) (by omega))]
    exact ⟨S2, rfl, by simpa using hP⟩
  | succ j ih =>
    intro n k S2 bs hk hn hP hl
    obtain ⟨n, rfl⟩ : ∃ q, n = q + 1 := ⟨n - 1, by omega⟩
    have hdk := hd k (by omega)
    rw [gX11_oneOther_203, if_neg (nI_ge (by omega) (by omega)), g_digit (by omega) h6 ha, o_bs, nI_1, nI_1]
    obtain ⟨S3, e3, p3⟩ := pr_own hP hp (a / 10 ^ (m - 1 - k) % 10) (a / 10 ^ (m - 1 - k) % 10 + 1) (by omega) (by omega) (by omega) (by omega)
    rw [e3, o_bs]
    rw [dt_1 (by omega)] at p3
    obtain ⟨S4, e4, p4⟩ := ih n (k + 1) S3 _ (by omega) (by omega) p3 (by simp; omega)
    refine ⟨S4, e4, ?_⟩
    rw [List.range'_succ, List.map_cons]
    simpa using p4
theorem m_22 {T S : mS} {nh p c : Nat} {as : List aVl} {R R2 : aRS} {f : Int32} {v : aVl} {rec : aRec} (ih : MR T nh rec) (H : HF T S nh p c as R) (hF : tI T 2 c = 22) (hH : tP T nh 6 c) (hM : tI T 3 c = nI (tN T 3 c) ∧ tN T 3 c ≤ 6) (hA : tI T 9 c = nI (tN T 9 c)) (ha : tN T 9 c < 1000000) (hm : tN T 3 (tN T 6 c) = tN T 3 c) (hd : ∀ k, k < tN T 3 c → dgt (tI T 9 c) (tN T 3 c) k < tN T 3 c) (hs : so T rec c as R = some (f, v, R2)) : OUT_ S p f v R R2 := by
  obtain ⟨hFS, hW, hp, hpR, hc, hlen, hF20⟩ := H
  have hc60 : c < 60 := Nat.lt_of_lt_of_le hc hW.1
  have hh60 : tN T 6 c < 60 := Nat.lt_of_lt_of_le hH.2 hW.1
  unfold so at hs
  rw [if_neg (by rw [hF]; decide), if_neg (by rw [hF]; decide), if_pos hF] at hs
  have e0 := oo_eq hFS hp hc60
  unfold ooB at e0
  rw [hF, if_neg (by decide), if_neg (by decide), if_pos (by decide), hH.1, hM.1, hA, ← nI_0] at e0
  obtain ⟨S3, e3, p3⟩ := g_203 (x := tN T 6 c) (a := tN T 9 c) hp hlen.symm hM.2 (by omega) hd (tN T 3 c) 4000 0 (S0_ S p 0) [] (by omega) (by omega) (pr_0 hFS) rfl
  rw [nI_0] at e0
  rw [nI_0] at e3
  rw [e3] at e0
  rw [List.nil_append, ← List.range_eq_range'] at p3
  rw [hlen] at hs
  exact out_last ih hFS (by omega) hp hc60 hF20 (Or.inl (by decide)) e0 p3 hs hH.2 (by simp; omega) hpR
theorem out_fails {T S S1 : mS} {p c : Nat} {as bs : List aVl} {R R1 : aRS} {s s1 w : Int32} {v : aVl} (h : FS T S p c as R s) (hp : p < 80) (hc : c < 60) (hF20 : 20 ≤ tI T 2 c) (hs : s ≤ 0 ∨ (s ≠ 9 ∧ (S.1 29 ≤ 0 ∨ tI T 2 c = 27 ∨ tI T 2 c = 28)))
    (he : gX11_oneOther (nI p) (nI c) S = gX11_fails w S1) (h1 : PR T S S1 p c as R1 s1 bs) (hw : 0 ≤ w) (hw0 : w ≠ 0) (hR : R.1 ≤ R1.1) : OUT_ S p w v R R1 := by
  unfold gX11_fails at he
  have q8 : eqB (fun k => k == 29) S1 (sI S1 29 w) := eqB.I rfl
  exact out_over h hp hc hF20 hs he (h1.1.eq q8 (fun k _ h => by simp; omega)) (h1.2.2.1.tr (FR.eq q8 (fun k h1 h2 => by simp; omega))) (h1.2.2.2.tr (rc_of q8 (by decide +kernel) (fun k hk => by simp; omega))) (by simp [sI, va_up]) (fun z => absurd z hw0) hw hR
theorem i32_nI {x : Int32} (h : ¬ x < 0) : x = nI x.toNatClampNeg := by
  obtain ⟨j, hj, rfl⟩ := nI_of h
  rw [nI_clamp hj]
theorem g_sp88 {T S : mS} {p c x a r : Nat} {as : List aVl} {R : aRS} {s : Int32} (ha : a ≤ 6) (hr : r < 60) : ∀ (j n k : Nat) (S2 : mS) (bs : List aVl), k + j = a → j < n → PR T S S2 p c as R s bs → bs.length + j ≤ 12 →
    ∃ S3, gX11_spreads_88 n (nI p) (nI x) (nI a) (nI r) (nI k) S2 = ((gX11_last (nI p) (nI x) S3).bind fun q => some q) ∧ PR T S S3 p c as R s (bs ++ (List.range' k j).map fun i => (0, (R.2.2.2.1 (20 * r + i)).toInt64)) := by
  intro j
  induction j with
  | zero =>
    intro n k S2 bs hk hn hP hl
    obtain ⟨n, rfl⟩ : ∃ q, n = q + 1 := ⟨n - 1, by omega⟩
    rw [gX11_spreads_88, if_pos (nI_le (by omega) (by omega))]
    exact ⟨S2, rfl, by simpa using hP⟩
  | succ j ih =>
    intro n k S2 bs hk hn hP hl
    obtain ⟨n, rfl⟩ : ∃ q, n = q + 1 := ⟨n - 1, by omega⟩
    rw [gX11_spreads_88, if_neg (nI_ge (by omega) (by omega)), nI_20, mrA_n S2 15 _ (by rw [ml_15]; omega) (by omega), o_bs, hP.1.2.2.2.2.2.2.2.2.2.1, nI_1]
    obtain ⟨S3, e3, p3, -⟩ := pr_add hP (by omega) 0 (R.2.2.2.1 (20 * r + k)).toInt64
    rw [e3, o_bs]
    obtain ⟨S4, e4, p4⟩ := ih n (k + 1) S3 _ (by omega) (by omega) p3 (by simp; omega)
    refine ⟨S4, e4, ?_⟩
    rw [List.range'_succ, List.map_cons]
    simpa using p4
theorem m_30 {T S : mS} {nh p c : Nat} {as : List aVl} {R R2 : aRS} {f : Int32} {v : aVl} {rec : aRec} (ih : MR T nh rec) (H : HF T S nh p c as R) (hF : tI T 2 c = 30) (hH : tP T nh 6 c) (hM : tI T 3 c = nI (tN T 3 c) ∧ tN T 3 c ≤ 6) (hA : tI T 9 c = nI (tN T 9 c)) (h1m : 1 ≤ tN T 3 c) (ha : tN T 9 c ≤ 6) (hm : tN T 3 (tN T 6 c) + 1 = tN T 3 c + tN T 9 c) (hs : so T rec c as R = some (f, v, R2)) : OUT_ S p f v R R2 := by
  obtain ⟨hFS, hW, hp, hpR, hc, hlen, hF20⟩ := H
  have hc60 : c < 60 := Nat.lt_of_lt_of_le hc hW.1
  have hh60 : tN T 6 c < 60 := Nat.lt_of_lt_of_le hH.2 hW.1
  unfold so at hs
  rw [if_neg (by rw [hF]; decide), if_neg (by rw [hF]; decide), if_neg (by rw [hF]; decide), if_neg (by rw [hF]; decide), if_neg (by rw [hF]; decide), if_neg (by rw [hF]; decide), if_neg (by rw [hF]; decide), if_neg (by rw [hF]; decide), if_neg (by rw [hF]; decide), if_neg (by rw [hF]; decide), if_pos hF] at hs
  obtain ⟨u, hu, hs⟩ := bnd hs
  have e0 := oo_eq hFS hp hc60
  unfold ooB at e0
  rw [hF, if_neg (by decide), if_neg (by decide), if_neg (by decide), if_neg (by decide), if_neg (by decide), if_neg (by decide), if_neg (by decide), if_neg (by decide), if_neg (by decide), if_neg (by decide), if_pos (by decide), hH.1, hM.1, bs_some] at e0
  have k0 := pr_0 hFS
  obtain ⟨g37, g38⟩ := k0.1.2.2.2.1 (as.length - 1) u hu
  have ix : 7 * nI p + nI (tN T 3 c) - 1 = nI (7 * p + (as.length - 1)) := by rw [nI7, show 7 * p + tN T 3 c = 7 * p + (as.length - 1) + 1 by omega, nI_p1]
  unfold gX11_spreads gX11_spreads_46 at e0
  rw [ix, mrB_n _ 38 _ (by rw [ml_38]; omega) (by omega), o_bs, mrA_n _ 37 _ (by rw [ml_37]; omega) (by omega), o_bs, g37, g38] at e0
  by_cases h3 : u.1 = 3
  · rw [if_pos h3] at hs
    rw [if_pos h3, o_bs, if_pos h3, bs_some] at e0
    obtain ⟨rfl, rfl, rfl⟩ : 3 = f ∧ (0, 0) = v ∧ R = R2 := by simpa [bad] using hs
    exact out_fails hFS hp hc60 hF20 (Or.inl (by decide)) e0 k0 (by decide) (by decide) (Nat.le_refl _)
  · rw [if_neg h3] at hs
    obtain ⟨n, hn, hs⟩ := bnd hs
    rw [if_neg h3, m_rrl k0.1.2.2.2.2.2, hn, o_bs] at e0
    by_cases h4 : n = tI T 9 c
    · rw [if_pos h4] at hs e0
      have hr : ¬ u.2.toInt32 < 0 ∧ u.2.toInt32.toNatClampNeg < 60 := by
        unfold rrl at hn
        by_cases hh : ¬ u.2.toInt32 < 0 ∧ u.2.toInt32.toNatClampNeg < 60
        · exact hh
        · rw [if_neg hh] at hn; cases hn
      obtain ⟨S1, e1, p1⟩ := pr_take k0 hp (as.length - 1) (by omega) (by omega) (by simp; omega)
      rw [show nI (tN T 3 c) - 1 = nI (as.length - 1) by rw [show tN T 3 c = as.length - 1 + 1 by omega, nI_p1], e1, o_bs, hA, i32_nI hr.1] at e0
      obtain ⟨S3, e3, p3⟩ := g_sp88 (x := tN T 6 c) (a := tN T 9 c) ha hr.2 (tN T 9 c) 4000 0 S1 _ (by omega) (by omega) p1 (by simp; omega)
      rw [nI_0] at e3
      rw [e3] at e0
      rw [List.nil_append, ← List.range_eq_range'] at p3
      exact out_last ih hFS (by omega) hp hc60 hF20 (Or.inl (by decide)) e0 p3 hs hH.2 (by simp; omega) hpR
    · rw [if_neg h4] at hs e0
      rw [o_bs, if_neg h3, bs_some] at e0
      obtain ⟨rfl, rfl, rfl⟩ : 6 = f ∧ (0, 0) = v ∧ R = R2 := by simpa [bad] using hs
      exact out_fails hFS hp hc60 hF20 (Or.inl (by decide)) e0 k0 (by decide) (by decide) (Nat.le_refl _)
theorem gat_0 (R : aRS) (nr : Nat) : gat R nr [] = R := by
  obtain ⟨a, b, c, d, e⟩ := R
  unfold gat
  simp only [List.length_nil, Nat.add_zero]
  congr 4
  funext i
  rw [if_neg (by omega)]
theorem gat_up (R : aRS) (nr k : Nat) (vs : List aVl) (w : aVl) (hk : vs[k]? = some w) : va_up (gat R nr (vs.take k)).2.2.2.1 (20 * nr + k) w.2.toInt32 = (gat R nr (vs.take (k + 1))).2.2.2.1 := by
  have hkl : k < vs.length := (List.getElem?_eq_some_iff.mp hk).1
  funext i
  simp only [gat, va_up, List.length_take]
  by_cases h : i = 20 * nr + k
  · subst h
    rw [if_pos rfl, if_pos (by omega), Nat.add_sub_cancel_left, List.getD_eq_getElem?_getD, List.getElem?_take, if_pos (by omega), hk]
    rfl
  · rw [if_neg h]
    by_cases h2 : 20 * nr ≤ i ∧ i < 20 * nr + k
    · rw [if_pos (by omega), if_pos (by omega), List.getD_eq_getElem?_getD, List.getD_eq_getElem?_getD, List.getElem?_take, List.getElem?_take, if_pos (by omega), if_pos (by omega)]
    · rw [if_neg (by omega), if_neg (by omega)]
theorem g_647 {T S : mS} {p c x a m nr : Nat} {as : List aVl} {R : aRS} {s : Int32} (hp : p < 80) (hm : m = as.length) (h6 : m ≤ 6) (ha : a ≤ m) (ha5 : a ≤ 5) (hr : nr < 60) : ∀ (j n k : Nat) (S2 : mS), k + j = a → j < n → PR T S S2 p c as (gat R nr ((as.drop (m - a)).take k)) s [] →
    ∃ S3, gX11_oneOther_647 n (nI p) (nI x) (nI a) (nI m) (nI nr) (nI k) S2 = ((gX11_last (nI p) (nI x) S3).bind fun q => some q) ∧ PR T S S3 p c as (gat R nr (as.drop (m - a))) s (as.take (m - a) ++ [(2, (nI nr).toInt64)]) := by
  intro j
  induction j with
  | zero =>
    intro n k S2 hk hn hP
    obtain ⟨n, rfl⟩ : ∃ q, n = q + 1 := ⟨n - 1, by omega⟩
    rw [gX11_oneOther_647, if_pos (nI_le (by omega) (by omega)), pk_sub ha]
    rw [List.take_of_length_le (by rw [List.length_drop]; omega)] at hP
    obtain ⟨S3, e3, p3⟩ := pr_take hP hp (m - a) (by omega) (by omega) (by simp; omega)
    obtain ⟨S4, e4, p4, -⟩ := pr_add p3 (by simp; omega) 2 (nI nr).toInt64
    rw [e3, o_bs, e4, o_bs]
    exact ⟨S4, rfl, by simpa using p4⟩
  | succ j ih =>
    intro n k S2 hk hn hP
    obtain ⟨n, rfl⟩ : ∃ q, n = q + 1 := ⟨n - 1, by omega⟩
    have hkl : m - a + k < as.length := by omega
    have hv := List.getElem?_eq_getElem hkl
    obtain ⟨-, g38⟩ := hP.1.2.2.2.1 (m - a + k) _ hv
    rw [gX11_oneOther_647, if_neg (nI_ge (by omega) (by omega)), nI7, pk_sub (by omega), nI_add, nI_20, show 7 * p + m - a + k = 7 * p + (m - a + k) by omega, mrB_n S2 38 _ (by rw [ml_38]; omega) (by omega), o_bs, g38, mwA_n S2 15 _ _ (by rw [ml_15]; omega) (by omega), o_bs, nI_1]
    have q1 : eqB (fun k => k == 15) S2 (sA S2 15 (20 * nr + k) as[m - a + k].2.toInt32) := eqB.A rfl
    obtain ⟨⟨f33, fof, fst, fFV, fTB, fR⟩, fA, fFR, fq⟩ := hP
    have r1 : S2.1 32 = nI (min R.1 80) := fR.1
    have r2 : S2.1 13 = nI R.2.1 := fR.2.1
    have r3 : R.2.1 ≤ 60 := fR.2.2.1
    have r4 : S2.2.2.1 14 = R.2.2.1 := fR.2.2.2.1
    have r6 : S2.1 25 = R.2.2.2.2 := fR.2.2.2.2.2
    have fof2 : (sA S2 15 (20 * nr + k) as[m - a + k].2.toInt32).2.2.1 35 p = nI c := by rw [← (q1 35 rfl).2.2.1]; exact fof
    have fst2 : (sA S2 15 (20 * nr + k) as[m - a + k].2.toInt32).2.2.1 36 p = s := by rw [← (q1 36 rfl).2.2.1]; exact fst
    have r42 : (sA S2 15 (20 * nr + k) as[m - a + k].2.toInt32).2.2.1 14 = R.2.2.1 := by rw [← (q1 14 rfl).2.2.1]; exact r4
    have fA2 : AB (sA S2 15 (20 * nr + k) as[m - a + k].2.toInt32) [] := ⟨by rw [← (q1 46 rfl).1]; exact fA.1, fun i w hi => by simp at hi⟩
    refine ih n (k + 1) _ (by omega) (by omega) ⟨⟨f33, fof2, fst2, ⟨fFV.eq q1 rfl rfl, fTB.eq q1 (fun k h1 h2 => by simp; omega), ⟨r1, r2, r3, r42, ?_, r6⟩⟩⟩, fA2, fFR.tr (FR.eq q1 (fun k h1 h2 => by simp; omega)), fq.tr (rc_of q1 (by decide +kernel) (fun k hk => by simp; omega))⟩
    rw [← gat_up R nr k (as.drop (m - a)) as[m - a + k] (by rw [List.getElem?_drop]; exact hv), ← fR.2.2.2.2.1]
    simp [sA, va_up]
theorem m_31 {T S : mS} {nh p c : Nat} {as : List aVl} {R R2 : aRS} {f : Int32} {v : aVl} {rec : aRec} (ih : MR T nh rec) (H : HF T S nh p c as R) (hF : tI T 2 c = 31) (hH : tP T nh 6 c) (hM : tI T 3 c = nI (tN T 3 c) ∧ tN T 3 c ≤ 6) (hA : tI T 9 c = nI (tN T 9 c)) (ha : tN T 9 c ≤ tN T 3 c) (ha5 : tN T 9 c ≤ 5) (hm : tN T 3 (tN T 6 c) + tN T 9 c = tN T 3 c + 1) (hs : so T rec c as R = some (f, v, R2)) : OUT_ S p f v R R2 := by
  obtain ⟨hFS, hW, hp, hpR, hc, hlen, hF20⟩ := H
  have hc60 : c < 60 := Nat.lt_of_lt_of_le hc hW.1
  have hh60 : tN T 6 c < 60 := Nat.lt_of_lt_of_le hH.2 hW.1
  unfold so at hs
  rw [if_neg (by rw [hF]; decide), if_neg (by rw [hF]; decide), if_neg (by rw [hF]; decide), if_neg (by rw [hF]; decide), if_neg (by rw [hF]; decide), if_neg (by rw [hF]; decide), if_neg (by rw [hF]; decide), if_neg (by rw [hF]; decide), if_neg (by rw [hF]; decide), if_neg (by rw [hF]; decide), if_neg (by rw [hF]; decide), if_pos hF] at hs
  have e0 := oo_eq hFS hp hc60
  unfold ooB at e0
  have k0 := pr_0 hFS
  have hR0 := k0.1.2.2.2.2.2
  rw [hF, if_neg (by decide), if_neg (by decide), if_neg (by decide), if_neg (by decide), if_neg (by decide), if_neg (by decide), if_neg (by decide), if_neg (by decide), if_neg (by decide), if_neg (by decide), if_neg (by decide), if_pos (by decide), hH.1, hM.1, hA, hR0.2.1] at e0
  by_cases h60 : R.2.1 = 60
  · rw [if_pos h60] at hs
    rw [if_pos (by rw [h60]; rfl), bs_some] at e0
    obtain ⟨rfl, rfl, rfl⟩ : 10 = f ∧ (0, 0) = v ∧ R = R2 := by simpa [bad] using hs
    exact out_fails hFS hp hc60 hF20 (Or.inl (by decide)) e0 k0 (by decide) (by decide) (Nat.le_refl _)
  · rw [if_neg h60] at hs
    have hlt : R.2.1 < 60 := by have := hR0.2.2.1; omega
    obtain ⟨S1, e1, r1, q1⟩ := g_newRow hR0 hlt (tN T 9 c) (by omega)
    rw [if_neg (fun z => h60 ((nI_eq (by omega) (by decide)).mp (z.trans (show (60 : Int32) = nI 60 from rfl)))), e1, o_bs] at e0
    obtain ⟨⟨f33, fof, fst, fFV, fTB, fR⟩, fA, fFR, fq⟩ := k0
    have p1 : PR T S S1 p c as (gat (rnew R (tN T 9 c)) R.2.1 ((as.drop (tN T 3 c - tN T 9 c)).take 0)) (0 + 1) [] := by
      rw [List.take_zero, gat_0]
      exact ⟨⟨by rw [← (q1 33 rfl).1]; exact f33, by rw [← (q1 35 rfl).2.2.1]; exact fof, by rw [← (q1 36 rfl).2.2.1]; exact fst, fFV.eq q1 rfl rfl, fTB.eq q1 (fun k h1 h2 => by simp [fRow]; omega), r1⟩, ⟨by rw [← (q1 46 rfl).1]; exact fA.1, fun i w hi => by simp at hi⟩, fFR.tr (FR.eq q1 (fun k h1 h2 => by simp [fRow]; omega)), fq.tr (rc_of q1 (by decide +kernel) (fun k hk => by simp [fRow]; omega))⟩
    obtain ⟨S3, e3, p3⟩ := g_647 (x := tN T 6 c) (a := tN T 9 c) hp hlen.symm hM.2 ha ha5 hlt (tN T 9 c) 4000 0 S1 (by omega) (by omega) p1
    rw [nI_0] at e3
    rw [e3] at e0
    rw [hlen] at hs
    obtain ⟨a1, a2, a3⟩ := last_ ih hFS (by omega) hp hc60 hF20 (Or.inl (by decide)) e0 p3.1 p3.2.1 hs hH.2 (by simp; omega) rfl hpR p3.2.2.1 p3.2.2.2
    exact ⟨a1, by omega, a3⟩
