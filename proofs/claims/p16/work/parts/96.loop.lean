/-! THE LAW: its loop. Made by my program loop.py. -/
section
variable {z : Nat → Nat} {ac b L : Nat} {xs : Nat → Int32}
theorem nI_k (k j : Nat) : nI (7 * k) + nI j = nI (7 * k + j) := nI_add _ _
theorem rd_k {h : aH} {k j : Nat} (q : RD b L xs h) (hk : 7 * k + 7 ≤ L) (hj : j < 7) : arI h b (nI (7 * k) + nI j) = some (xs (7 * k + j)) := by
  rw [nI_k]; exact q _ (by omega)
set_option maxHeartbeats 4000000 in
theorem law_loop (hN : L ≤ 3584) : ∀ (u n k : Nat) (h : aH), k + u = L / 7 → u < n → LWS z ac b L xs k h → ∃ h2, fL_law_18 z n (some b) (some ac) (some (ac + 197)) (nI (7 * k)) h = some (1, h2) ∧ LWS z ac b L xs (L / 7) h2 := by
  intro u
  have hL : L < 2 ^ 31 := by omega
  have cmp : ∀ k, k ≤ L / 7 → ((nI L - 7 < nI (7 * k)) ↔ L < 7 * k + 7) := fun k hk => by
    have e : (nI L - 7).toInt = (L : Int) - 7 := pk_sub_toInt (a := L) (b := 7) (by omega) (by omega)
    rw [Int32.lt_iff_toInt_lt, e, nI_toInt (by omega)]
    omega
  induction u with
  | zero =>
    intro n k h hk hn H
    obtain ⟨n, rfl⟩ : ∃ q, n = q + 1 := ⟨n - 1, by omega⟩
    obtain ⟨rd, rn⟩ := H.rd hL
    refine ⟨h, ?_, by have e : k = L / 7 := by omega
                      rw [← e]; exact H⟩
    rw [fL_law_18, o_bs, rn, o_bs, if_pos ((cmp k (by omega)).mpr (by omega))]
  | succ u ih =>
    intro n k h hk hn H
    obtain ⟨n, rfl⟩ : ∃ q, n = q + 1 := ⟨n - 1, by omega⟩
    obtain ⟨rd, rn⟩ := H.rd hL
    have hkL : 7 * k + 7 ≤ L := by omega
    have go : ∀ h2, LWS z ac b L xs (k + 1) h2 → ∃ h3, fL_law_18 z n (some b) (some ac) (some (ac + 197)) (nI (7 * k) + 7) h2 = some (1, h3) ∧ LWS z ac b L xs (L / 7) h3 := fun h2 H2 => by
      have e : nI (7 * k) + 7 = nI (7 * (k + 1)) := nI_k k 7
      rw [e]
      exact ih n (k + 1) h2 (by omega) (by omega) H2
    have r0 : arI h b (nI (7 * k)) = some (xs (7 * k)) := rd _ (by omega)
    have r1 : ∀ h1, RD b L xs h1 → arI h1 b (nI (7 * k) + 1) = some (xs (7 * k + 1)) := fun h1 q => rd_k (j := 1) q hkL (by decide)
    have r2 : ∀ h1, RD b L xs h1 → arI h1 b (nI (7 * k) + 2) = some (xs (7 * k + 2)) := fun h1 q => rd_k (j := 2) q hkL (by decide)
    have r3 : ∀ h1, RD b L xs h1 → arI h1 b (nI (7 * k) + 3) = some (xs (7 * k + 3)) := fun h1 q => rd_k (j := 3) q hkL (by decide)
    have r4 : ∀ h1, RD b L xs h1 → arI h1 b (nI (7 * k) + 4) = some (xs (7 * k + 4)) := fun h1 q => rd_k (j := 4) q hkL (by decide)
    have r5 : ∀ h1, RD b L xs h1 → arI h1 b (nI (7 * k) + 5) = some (xs (7 * k + 5)) := fun h1 q => rd_k (j := 5) q hkL (by decide)
    have r6 : ∀ h1, RD b L xs h1 → arI h1 b (nI (7 * k) + 6) = some (xs (7 * k + 6)) := fun h1 q => rd_k (j := 6) q hkL (by decide)
    rw [fL_law_18, o_bs, rn, o_bs, if_neg (fun q => absurd ((cmp k (by omega)).mp q) (by omega)), r0, o_bs]
    by_cases c0 : xs (7 * k) &&& 15 = 0
    · rw [if_pos c0]
      obtain ⟨a, a2, h1, h2, fs, fs2, o1, e1, q1, o2, e2, p1, H2⟩ := s_plain hL H (xs (7 * k + 1)) (xs (7 * k + 2)) (xs (7 * k + 3))
      simp only [o_bs, r1 h rd, r2 h rd, r3 h rd, o1, e1, r1 h1 q1, r2 h1 q1, r3 h1 q1, o2, e2]
      exact go h2 H2
    rw [if_neg c0]
    by_cases c1 : xs (7 * k) &&& 15 = 1
    · rw [if_pos c1]
      obtain ⟨a, a2, h1, h2, fs, fs2, o1, e1, q1, o2, e2, p1, H2⟩ := s_other hL H (xs (7 * k + 1)) (xs (7 * k + 2)) (xs (7 * k + 3)) (xs (7 * k + 4)) (xs (7 * k + 5)) (xs (7 * k + 6))
      simp only [o_bs, r1 h rd, r2 h rd, r3 h rd, r4 h rd, r5 h rd, r6 h rd, o1, e1, r1 h1 q1, r2 h1 q1, r3 h1 q1, r4 h1 q1, r5 h1 q1, r6 h1 q1, o2, e2]
      exact go h2 H2
    rw [if_neg c1]
    by_cases c2 : xs (7 * k) &&& 15 = 2
    · rw [if_pos c2]
      obtain ⟨a, a2, h1, h2, fs, fs2, o1, e1, q1, o2, e2, p1, H2⟩ := s_row hL H (xs (7 * k + 1))
      simp only [o_bs, r1 h rd, o1, e1, r1 h1 q1, o2, e2]
      exact go h2 H2
    rw [if_neg c2]
    by_cases c3 : xs (7 * k) &&& 15 = 3
    · rw [if_pos c3]
      obtain ⟨a, a2, h1, h2, fs, fs2, o1, e1, q1, o2, e2, p1, H2⟩ := s_set hL H (xs (7 * k + 1)) (xs (7 * k + 2)) (xs (7 * k + 3))
      simp only [o_bs, r1 h rd, r2 h rd, r3 h rd, o1, e1, r1 h1 q1, r2 h1 q1, r3 h1 q1, o2, e2]
      exact go h2 H2
    rw [if_neg c3]
    by_cases c4 : xs (7 * k) &&& 15 = 4
    · rw [if_pos c4]
      obtain ⟨a, a2, h1, h2, fs, fs2, o1, e1, q1, o2, e2, p1, H2⟩ := s_item hL H (xs (7 * k + 1)) (xs (7 * k + 2))
      simp only [o_bs, r1 h rd, r2 h rd, o1, e1, r1 h1 q1, r2 h1 q1, o2, e2]
      exact go h2 H2
    rw [if_neg c4]
    by_cases c5 : xs (7 * k) &&& 15 = 5
    · rw [if_pos c5]
      obtain ⟨a, a2, h1, h2, fs, fs2, o1, e1, q1, o2, e2, p1, H2⟩ := s_value hL H (xs (7 * k + 1)) (xs (7 * k + 2)) (((Int32.toInt64 (xs (7 * k + 3))) <<< (Int32.toInt64 32 &&& 63)) ||| ((Int32.toInt64 (xs (7 * k + 4))) &&& 4294967295))
      simp only [o_bs, r1 h rd, r2 h rd, r3 h rd, r4 h rd, o1, e1, r1 h1 q1, r2 h1 q1, r3 h1 q1, r4 h1 q1, o2, e2]
      exact go h2 H2
    rw [if_neg c5]
    by_cases c6 : xs (7 * k) &&& 15 = 6
    · rw [if_pos c6]
      obtain ⟨a, a2, h1, h2, fs, fs2, o1, e1, q1, o2, e2, p1, H2⟩ := s_clear hL H 
      simp only [o_bs, o1, e1, o2, e2]
      exact go h2 H2
    rw [if_neg c6]
    by_cases c7 : xs (7 * k) &&& 15 = 7
    · rw [if_pos c7]
      rw [r1 h rd, o_bs, r2 h rd, o_bs]
      by_cases t : xs (7 * k + 2) = 0
      · rw [if_pos t]
        obtain ⟨a, a2, h1, h2, fs, fs2, o1, e1, q1, o2, e2, p1, H2⟩ := s_run hL H (xs (7 * k + 1)) 0
        unfold fL_law_434
        simp only [o_bs, o1, e1, r1 h1 q1, r2 h1 q1, o2, e2, if_pos t]
        exact go h2 H2
      · rw [if_neg t]
        obtain ⟨a, a2, h1, h2, fs, fs2, o1, e1, q1, o2, e2, p1, H2⟩ := s_run hL H (xs (7 * k + 1)) 1
        unfold fL_law_434
        simp only [o_bs, o1, e1, r1 h1 q1, r2 h1 q1, o2, e2, if_neg t]
        exact go h2 H2
    rw [if_neg c7]
    by_cases c8 : xs (7 * k) &&& 15 = 8
    · rw [if_pos c8]
      obtain ⟨a, a2, h1, h2, fs, fs2, o1, e1, q1, o2, e2, p1, H2⟩ := s_site hL H (xs (7 * k + 1)) (xs (7 * k + 2))
      simp only [o_bs, r1 h rd, r2 h rd, o1, e1, r1 h1 q1, r2 h1 q1, o2, e2]
      exact go h2 H2
    rw [if_neg c8]
    by_cases c9 : xs (7 * k) &&& 15 = 9
    · rw [if_pos c9]
      rw [r1 h rd, o_bs, r2 h rd, o_bs]
      by_cases t : xs (7 * k + 2) = 0
      · rw [if_pos t]
        obtain ⟨a, a2, h1, h2, fs, fs2, o1, e1, q1, o2, e2, p1, H2⟩ := s_runSite hL H (xs (7 * k + 1)) 0
        unfold fL_law_516
        simp only [o_bs, o1, e1, r1 h1 q1, r2 h1 q1, o2, e2, if_pos t]
        exact go h2 H2
      · rw [if_neg t]
        obtain ⟨a, a2, h1, h2, fs, fs2, o1, e1, q1, o2, e2, p1, H2⟩ := s_runSite hL H (xs (7 * k + 1)) 1
        unfold fL_law_516
        simp only [o_bs, o1, e1, r1 h1 q1, r2 h1 q1, o2, e2, if_neg t]
        exact go h2 H2
    rw [if_neg c9]
    by_cases c10 : xs (7 * k) &&& 15 = 10
    · rw [if_pos c10]
      obtain ⟨a, a2, h1, h2, fs, fs2, o1, e1, q1, o2, e2, p1, H2⟩ := s_turn hL H (xs (7 * k + 1)) (xs (7 * k + 2))
      simp only [o_bs, r1 h rd, r2 h rd, o1, e1, r1 h1 q1, r2 h1 q1, o2, e2]
      exact go h2 H2
    rw [if_neg c10]
    by_cases c11 : xs (7 * k) &&& 15 = 11
    · rw [if_pos c11]
      obtain ⟨a, a2, h1, h2, fs, fs2, o1, e1, q1, o2, e2, p1, H2⟩ := s_linked hL H (xs (7 * k + 1))
      simp only [o_bs, r1 h rd, o1, e1, r1 h1 q1, o2, e2]
      exact go h2 H2
    rw [if_neg c11]
    by_cases c12 : xs (7 * k) &&& 15 = 12
    · rw [if_pos c12]
      obtain ⟨a, a2, h1, h2, fs, fs2, o1, e1, q1, o2, e2, p1, H2⟩ := s_about hL H (xs (7 * k + 1)) (xs (7 * k + 2))
      simp only [o_bs, r1 h rd, r2 h rd, o1, e1, r1 h1 q1, r2 h1 q1, o2, e2]
      exact go h2 H2
    rw [if_neg c12]
    by_cases c13 : xs (7 * k) &&& 15 = 13
    · rw [if_pos c13]
      obtain ⟨a, a2, h1, h2, fs, fs2, o1, e1, q1, o2, e2, p1, H2⟩ := s_resultKind hL H 
      simp only [o_bs, o1, e1, o2, e2]
      exact go h2 H2
    rw [if_neg c13]
    by_cases c14 : xs (7 * k) &&& 15 = 14
    · rw [if_pos c14]
      obtain ⟨a, a2, h1, h2, fs, fs2, o1, e1, q1, o2, e2, p1, H2⟩ := s_result hL H 
      simp only [o_bs, o1, e1, o2, e2]
      rw [if_pos p1]
      exact go h2 H2
    rw [if_neg c14]
    by_cases c15 : xs (7 * k) &&& 15 = 15
    · rw [if_pos c15]
      obtain ⟨a, a2, h1, h2, fs, fs2, o1, e1, q1, o2, e2, p1, H2⟩ := s_told hL H (xs (7 * k + 1))
      simp only [o_bs, r1 h rd, o1, e1, r1 h1 q1, o2, e2]
      exact go h2 H2
    rw [if_neg c15]
    exact go h H.up
end
def aH0 (base b L zN : Nat) (xs : Nat → Int32) : aH := (base, 0, fun x => if x = b then some (.inl (9, L, .inl xs)) else if x = zN then some (.inl (9, 0, .inl (fun _ => 0))) else none)
set_option maxHeartbeats 4000000 in
theorem law_true : ∀ (base b L : Nat) (z : Nat → Nat) (xs : Nat → Int32), L ≤ 3584 → b < base → z 0 < base → b ≠ z 0 → ∃ h2 : aH, fL_law z (some b) (aH0 base b L (z 0) xs) = some (1, h2) ∧ h2.1 ≤ base + 600000 ∧ h2.2.1 ≤ 7302250 := by
  intro base b L z xs hL hb hz hbz
  have e1 : fX10_init z (aH0 base b L (z 0) xs).1 (hnew (aH0 base b L (z 0) xs) 10 (.inr (8, dz8))) = some (co base cS0 (base + 197, 0 + 2356, (aH0 base b L (z 0) xs).2.2)) := c_init z (aH0 base b L (z 0) xs)
  have e2 : fX11_init z (co base cS0 (base + 197, 0 + 2356, (aH0 base b L (z 0) xs).2.2)).1 (hnew (co base cS0 (base + 197, 0 + 2356, (aH0 base b L (z 0) xs).2.2)) 47 (.inr (9, dz9))) = some (mo (base + 197) mS0 (co base cS0 (base + 197 + 31, 0 + 2356 + 47 + mSum 30, (aH0 base b L (z 0) xs).2.2))) := m_init z (base + 197) _ rfl
  have H0 := ls_0 z base b L (0 + 2356) xs (aH0 base b L (z 0) xs).2.2 (by decide) ⟨hb, by show (if b = b then _ else _) = _; rw [if_pos rfl]⟩ ⟨hz, by show (if z 0 = b then _ else if z 0 = z 0 then _ else _) = _; rw [if_neg (Ne.symm hbz), if_pos rfl]⟩ (fun x hx => by show (if x = b then _ else if x = z 0 then _ else _) = _; rw [if_neg (by omega), if_neg (by omega)])
  obtain ⟨h2, e3, H2⟩ := law_loop hL (L / 7) 4000 0 _ (by omega) (by omega) H0
  have e3 : fL_law_18 z 4000 (some b) (some base) (some (base + 197)) 0 (mo (base + 197) mS0 (co base cS0 (base + 197 + 31, 0 + 2356 + 47 + mSum 30, (aH0 base b L (z 0) xs).2.2))) = some (1, h2) := e3
  refine ⟨h2, ?_, ?_⟩
  · unfold fL_law fL_law_e
    rw [e1, o_bs, e2, o_bs]
    have e3 : fL_law_18 z 4000 (some b) (some (aH0 base b L (z 0) xs).1) (some (co base cS0 (base + 197, 0 + 2356, (aH0 base b L (z 0) xs).2.2)).1) 0 (mo (base + 197) mS0 (co base cS0 (base + 197 + 31, 0 + 2356 + 47 + mSum 30, (aH0 base b L (z 0) xs).2.2))) = some (1, h2) := e3
    rw [e3, chk_1]
  · obtain ⟨C, S, T, r, ha, sa, nh, ns, vs, R, rfl, -, -, -, -, ⟨r1, r2, r3⟩, -⟩ := H2
    have k1 : L / 7 ≤ 512 := by omega
    refine ⟨?_, ?_⟩
    · show r.1 ≤ _
      omega
    · show r.2.1 ≤ _
      omega
