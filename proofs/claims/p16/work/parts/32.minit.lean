/-! THE REFERENCE'S CONSTRUCTOR. My own rows. -/
abbrev dzM : List aV := [.inl 0, .inl 0, .inr (.inr none), .inr (.inr none), .inr (.inr none), .inr (.inr none), .inr (.inr none), .inr (.inr none), .inr (.inr none), .inr (.inr none), .inr (.inr none), .inr (.inr none), .inr (.inr none), .inl 0, .inr (.inr none), .inr (.inr none), .inl 0, .inr (.inr none), .inr (.inr none), .inr (.inr none), .inl 0, .inr (.inr none), .inr (.inr none), .inl 0, .inr (.inl 0), .inl 0, .inl 0, .inr (.inr none), .inl 0, .inl 0, .inl 0, .inr (.inl 0), .inl 0, .inl 0, .inl 0, .inr (.inr none), .inr (.inr none), .inr (.inr none), .inr (.inr none), .inr (.inr none), .inr (.inr none), .inr (.inr none), .inr (.inr none), .inr (.inr none), .inr (.inr none), .inr (.inr none), .inl 0]
/-- the fields behind j arrays; b: what field 23 holds -/
def pF (am j : Nat) (b : Int32) (k : Nat) : aV := if mKd k = 0 then .inl (if k = 23 then b else 0) else if mKd k = 1 then .inr (.inl 0) else .inr (.inr (if mOff k ≤ j then some (am + mOff k) else none))
def mSum (j : Nat) : Nat := ((mAs.take j).map (fun q => q.2.2)).sum
def mS0 : mS := (fun k => if k = 23 then 3 else 0, fun _ => 0, fun _ _ => 0, fun _ _ => 0)
def ST (am : Nat) (h : aH) (j : Nat) (b : Int32) (h2 : aH) : Prop := h2.1 = am + 1 + j ∧ h2.2.1 = h.2.1 + 47 + mSum j ∧ ∀ x, h2.2.2 x = if x = am then some (.inr (9, (List.range 47).map (pF am j b))) else if am < x ∧ x ≤ am + j then some (mCell mS0 (mBk (x - am))) else h.2.2 x
theorem st_tab : ∀ j, j < 30 → mOff (mBk (j + 1)) = j + 1 ∧ mBk (j + 1) < 47 ∧ mSum (j + 1) = mSum j + mLen (mBk (j + 1)) ∧ (∀ k, k < 47 → 2 ≤ mKd k → mOff k = j + 1 → k = mBk (j + 1)) := by decide +kernel
theorem st_0 (am : Nat) (h : aH) (ha : h.1 = am) : ST am h 0 0 (hnew h 47 (.inr (9, dzM))) := by
  refine ⟨by simp [hnew, ha], by simp [hnew, mSum], fun x => ?_⟩
  simp only [hnew, ha]
  by_cases hx : x = am
  · rw [if_pos hx, if_pos hx]
    congr 3
  · rw [if_neg hx, if_neg hx, if_neg (by omega)]
theorem pF_set (am j : Nat) (b : Int32) (hj : j < 30) : ((List.range 47).map (pF am j b)).set (mBk (j + 1)) (.inr (.inr (some (am + 1 + j)))) = (List.range 47).map (pF am (j + 1) b) := by
  obtain ⟨t1, t2, -, t4⟩ := st_tab j hj
  obtain ⟨-, -, c3⟩ := mOff_bk (j + 1) (by omega) (by omega)
  apply List.ext_getElem?
  intro k
  by_cases hk : k < 47
  · by_cases hkb : k = mBk (j + 1)
    · subst hkb
      rw [List.getElem?_set_self (by simpa using hk), List.getElem?_map, List.getElem?_range hk]
      show _ = some (pF am (j + 1) b (mBk (j + 1)))
      rw [pF, if_neg (by rcases c3 with c | c <;> (rw [c]; decide)), if_neg (by rcases c3 with c | c <;> (rw [c]; decide)), t1, if_pos (Nat.le_refl _)]
      congr 4
      omega
    · rw [List.getElem?_set_ne (Ne.symm hkb), List.getElem?_map, List.getElem?_map, List.getElem?_range hk]
      show some (pF am j b k) = some (pF am (j + 1) b k)
      simp only [pF]
      by_cases h0 : mKd k = 0
      · rw [if_pos h0, if_pos h0]
      · rw [if_neg h0, if_neg h0]
        by_cases h1 : mKd k = 1
        · rw [if_pos h1, if_pos h1]
        · rw [if_neg h1, if_neg h1]
          have hne : mOff k ≠ j + 1 := fun q => hkb (t4 k hk (by omega) q)
          by_cases hle : mOff k ≤ j
          · rw [if_pos hle, if_pos (by omega)]
          · rw [if_neg hle, if_neg (by omega)]
  · rw [List.getElem?_eq_none (by simp; omega), List.getElem?_eq_none (by simp; omega)]
theorem st_arr {am : Nat} {h h2 : aH} {j : Nat} {b : Int32} (s : ST am h j b h2) (hj : j < 30) (k : Nat) (hk : k = mBk (j + 1)) (L : Nat) (hL : L = mLen k) (e : aE) (he : e = mCell mS0 k) : ∃ h3, wrF (hnew h2 L e) am [9] k (.inr (.inr (some h2.1))) = some h3 ∧ ST am h (j + 1) b h3 := by
  obtain ⟨s1, s2, s3⟩ := s
  obtain ⟨t1, t2, t3, -⟩ := st_tab j hj
  have hat : (hnew h2 L e).2.2 am = some (.inr (9, (List.range 47).map (pF am j b))) := by
    simp only [hnew]
    rw [if_neg (by omega), s3, if_pos rfl]
  refine ⟨hup (hnew h2 L e) am (.inr (9, ((List.range 47).map (pF am j b)).set k (.inr (.inr (some h2.1))))), by simp only [wrF, hat, List.mem_singleton, if_true], ?_, ?_, fun x => ?_⟩
  · simp only [hup, hnew]; omega
  · simp only [hup, hnew]; rw [s2, t3, hL, hk]; omega
  · simp only [hup, hnew]
    by_cases hx : x = am
    · rw [if_pos hx, if_pos hx, hk, s1, pF_set am j b hj]
    · rw [if_neg hx, if_neg hx]
      by_cases hx2 : x = h2.1
      · rw [if_pos hx2, if_pos (by omega), he, hk]
        congr 2
        rw [hx2, s1]
        congr 1
        omega
      · rw [if_neg hx2, s3, if_neg hx]
        by_cases hx3 : am < x ∧ x ≤ am + j
        · rw [if_pos hx3, if_pos (by omega)]
        · rw [if_neg hx3, if_neg (by omega)]
theorem st_i {am : Nat} {h h2 : aH} {j : Nat} {b : Int32} (s : ST am h j b h2) (hj : j < 30) (k : Nat) (L : Int32) (hk : k = mBk (j + 1)) (h3 : mKd k = 2) (hL : ¬ L < 0 ∧ L.toNatClampNeg ≤ 10000) (hl : L.toNatClampNeg = mLen k) : ∃ h4 h5, nwI h2 L = some h4 ∧ wrF h4 am [9] k (.inr (.inr (some h2.1))) = some h5 ∧ ST am h (j + 1) b h5 := by
  obtain ⟨h5, e1, e2⟩ := st_arr s hj k hk L.toNatClampNeg hl (.inl (0, L.toNatClampNeg, .inl (fun _ => 0))) (by rw [mCell, if_pos h3, hl]; rfl)
  exact ⟨_, h5, by rw [nwI, if_pos hL], e1, e2⟩
theorem st_j {am : Nat} {h h2 : aH} {j : Nat} {b : Int32} (s : ST am h j b h2) (hj : j < 30) (k : Nat) (L : Int32) (hk : k = mBk (j + 1)) (h3 : mKd k = 3) (hL : ¬ L < 0 ∧ L.toNatClampNeg ≤ 10000) (hl : L.toNatClampNeg = mLen k) : ∃ h4 h5, nwJ h2 L = some h4 ∧ wrF h4 am [9] k (.inr (.inr (some h2.1))) = some h5 ∧ ST am h (j + 1) b h5 := by
  obtain ⟨h5, e1, e2⟩ := st_arr s hj k hk L.toNatClampNeg hl (.inl (0, L.toNatClampNeg, .inr (.inl (fun _ => 0)))) (by rw [mCell, if_neg (by rw [h3]; decide), hl]; rfl)
  exact ⟨_, h5, by rw [nwJ, if_pos hL], e1, e2⟩
theorem st_b {am : Nat} {h h2 : aH} {j : Nat} {b : Int32} (s : ST am h j b h2) : ∃ h3, wrF h2 am [9] 23 (.inl 3) = some h3 ∧ ST am h j 3 h3 := by
  obtain ⟨s1, s2, s3⟩ := s
  have hat : h2.2.2 am = some (.inr (9, (List.range 47).map (pF am j b))) := by rw [s3, if_pos rfl]
  refine ⟨hup h2 am (.inr (9, ((List.range 47).map (pF am j b)).set 23 (.inl 3))), by simp only [wrF, hat, List.mem_singleton, if_true], s1, s2, fun x => ?_⟩
  simp only [hup]
  by_cases hx : x = am
  · rw [if_pos hx, if_pos hx]
    congr 3
  · rw [if_neg hx, if_neg hx, s3, if_neg hx]
theorem st_end {am : Nat} {h h2 : aH} (s : ST am h 30 3 h2) : h2 = mo am mS0 (am + 31, h.2.1 + 47 + mSum 30, h.2.2) := by
  obtain ⟨s1, s2, s3⟩ := s
  have e : (List.range 47).map (pF am 30 3) = mFs am mS0 := by
    unfold mFs
    apply List.map_congr_left
    intro k hk
    have hk := List.mem_range.mp hk
    simp only [pF, mV]
    by_cases h0 : mKd k = 0
    · rw [if_pos h0, if_pos h0]; rfl
    · rw [if_neg h0, if_neg h0]
      by_cases h1 : mKd k = 1
      · rw [if_pos h1, if_pos h1]; rfl
      · rw [if_neg h1, if_neg h1, if_pos (mBk_off k hk (by omega)).2.2]
  refine Prod.ext (by simp only [mo]; omega) (Prod.ext (by simp only [mo]; exact s2) ?_)
  funext x
  rw [s3, e]
  rfl
set_option maxHeartbeats 4000000 in
theorem m_init (z : Nat → Nat) (am : Nat) (h : aH) (ha : h.1 = am) : fX11_init z am (hnew h 47 (.inr (9, dzM))) = some (mo am mS0 (am + 31, h.2.1 + 47 + mSum 30, h.2.2)) := by
  have s := st_0 am h ha
  generalize hnew h 47 (.inr (9, dzM)) = h0 at s ⊢
  unfold fX11_init
  obtain ⟨h4, h5, e1, e2, s⟩ := st_i s (by decide) 2 60 (by decide +kernel) mk_2 (by decide) (by decide +kernel)
  rw [e1, o_bs, e2, o_bs]
  obtain ⟨h4, h5, e1, e2, s⟩ := st_i s (by decide) 3 60 (by decide +kernel) mk_3 (by decide) (by decide +kernel)
  rw [e1, o_bs, e2, o_bs]
  obtain ⟨h4, h5, e1, e2, s⟩ := st_i s (by decide) 4 360 (by decide +kernel) mk_4 (by decide) (by decide +kernel)
  rw [e1, o_bs, e2, o_bs]
  obtain ⟨h4, h5, e1, e2, s⟩ := st_i s (by decide) 5 60 (by decide +kernel) mk_5 (by decide) (by decide +kernel)
  rw [e1, o_bs, e2, o_bs]
  obtain ⟨h4, h5, e1, e2, s⟩ := st_i s (by decide) 6 60 (by decide +kernel) mk_6 (by decide) (by decide +kernel)
  rw [e1, o_bs, e2, o_bs]
  obtain ⟨h4, h5, e1, e2, s⟩ := st_i s (by decide) 7 60 (by decide +kernel) mk_7 (by decide) (by decide +kernel)
  rw [e1, o_bs, e2, o_bs]
  obtain ⟨h4, h5, e1, e2, s⟩ := st_i s (by decide) 8 60 (by decide +kernel) mk_8 (by decide) (by decide +kernel)
  rw [e1, o_bs, e2, o_bs]
  obtain ⟨h4, h5, e1, e2, s⟩ := st_i s (by decide) 9 60 (by decide +kernel) mk_9 (by decide) (by decide +kernel)
  rw [e1, o_bs, e2, o_bs]
  obtain ⟨h4, h5, e1, e2, s⟩ := st_i s (by decide) 10 60 (by decide +kernel) mk_10 (by decide) (by decide +kernel)
  rw [e1, o_bs, e2, o_bs]
  obtain ⟨h4, h5, e1, e2, s⟩ := st_i s (by decide) 11 60 (by decide +kernel) mk_11 (by decide) (by decide +kernel)
  rw [e1, o_bs, e2, o_bs]
  obtain ⟨h4, h5, e1, e2, s⟩ := st_j s (by decide) 12 60 (by decide +kernel) mk_12 (by decide) (by decide +kernel)
  rw [e1, o_bs, e2, o_bs]
  obtain ⟨h4, h5, e1, e2, s⟩ := st_i s (by decide) 14 60 (by decide +kernel) mk_14 (by decide) (by decide +kernel)
  rw [e1, o_bs, e2, o_bs]
  obtain ⟨h4, h5, e1, e2, s⟩ := st_i s (by decide) 15 1200 (by decide +kernel) mk_15 (by decide) (by decide +kernel)
  rw [e1, o_bs, e2, o_bs]
  obtain ⟨h4, h5, e1, e2, s⟩ := st_i s (by decide) 17 10 (by decide +kernel) mk_17 (by decide) (by decide +kernel)
  rw [e1, o_bs, e2, o_bs]
  obtain ⟨h4, h5, e1, e2, s⟩ := st_i s (by decide) 18 10 (by decide +kernel) mk_18 (by decide) (by decide +kernel)
  rw [e1, o_bs, e2, o_bs]
  obtain ⟨h4, h5, e1, e2, s⟩ := st_i s (by decide) 19 10 (by decide +kernel) mk_19 (by decide) (by decide +kernel)
  rw [e1, o_bs, e2, o_bs]
  obtain ⟨h4, h5, e1, e2, s⟩ := st_i s (by decide) 21 6 (by decide +kernel) mk_21 (by decide) (by decide +kernel)
  rw [e1, o_bs, e2, o_bs]
  obtain ⟨h4, h5, e1, e2, s⟩ := st_j s (by decide) 22 6 (by decide +kernel) mk_22 (by decide) (by decide +kernel)
  rw [e1, o_bs, e2, o_bs]
  obtain ⟨h6, e1, s⟩ := st_b s
  rw [e1, o_bs]
  obtain ⟨h4, h5, e1, e2, s⟩ := st_i s (by decide) 27 12 (by decide +kernel) mk_27 (by decide) (by decide +kernel)
  rw [e1, o_bs, e2, o_bs]
  obtain ⟨h4, h5, e1, e2, s⟩ := st_i s (by decide) 35 81 (by decide +kernel) mk_35 (by decide) (by decide +kernel)
  rw [e1, o_bs, e2, o_bs]
  obtain ⟨h4, h5, e1, e2, s⟩ := st_i s (by decide) 36 81 (by decide +kernel) mk_36 (by decide) (by decide +kernel)
  rw [e1, o_bs, e2, o_bs]
  obtain ⟨h4, h5, e1, e2, s⟩ := st_i s (by decide) 37 567 (by decide +kernel) mk_37 (by decide) (by decide +kernel)
  rw [e1, o_bs, e2, o_bs]
  obtain ⟨h4, h5, e1, e2, s⟩ := st_j s (by decide) 38 567 (by decide +kernel) mk_38 (by decide) (by decide +kernel)
  rw [e1, o_bs, e2, o_bs]
  obtain ⟨h4, h5, e1, e2, s⟩ := st_i s (by decide) 39 81 (by decide +kernel) mk_39 (by decide) (by decide +kernel)
  rw [e1, o_bs, e2, o_bs]
  obtain ⟨h4, h5, e1, e2, s⟩ := st_i s (by decide) 40 81 (by decide +kernel) mk_40 (by decide) (by decide +kernel)
  rw [e1, o_bs, e2, o_bs]
  obtain ⟨h4, h5, e1, e2, s⟩ := st_j s (by decide) 41 81 (by decide +kernel) mk_41 (by decide) (by decide +kernel)
  rw [e1, o_bs, e2, o_bs]
  obtain ⟨h4, h5, e1, e2, s⟩ := st_j s (by decide) 42 81 (by decide +kernel) mk_42 (by decide) (by decide +kernel)
  rw [e1, o_bs, e2, o_bs]
  obtain ⟨h4, h5, e1, e2, s⟩ := st_j s (by decide) 43 81 (by decide +kernel) mk_43 (by decide) (by decide +kernel)
  rw [e1, o_bs, e2, o_bs]
  obtain ⟨h4, h5, e1, e2, s⟩ := st_i s (by decide) 44 12 (by decide +kernel) mk_44 (by decide) (by decide +kernel)
  rw [e1, o_bs, e2, o_bs]
  obtain ⟨h4, h5, e1, e2, s⟩ := st_j s (by decide) 45 12 (by decide +kernel) mk_45 (by decide) (by decide +kernel)
  rw [e1, o_bs, e2, o_bs]
  rw [← st_end s]
