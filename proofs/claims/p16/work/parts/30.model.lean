/-! THE REFERENCE'S OBJECT, as functions of its fields' numbers. My own rows. -/
abbrev mS : Type := (Nat → Int32) × (Nat → Int64) × (Nat → Nat → Int32) × (Nat → Nat → Int64)
/-- its arrays in the order in which they are made: field, 2 ints or 3 longs, length -/
def mAs : List (Nat × Nat × Nat) := [(2, 2, 60), (3, 2, 60), (4, 2, 360), (5, 2, 60), (6, 2, 60), (7, 2, 60), (8, 2, 60), (9, 2, 60), (10, 2, 60), (11, 2, 60), (12, 3, 60), (14, 2, 60), (15, 2, 1200), (17, 2, 10), (18, 2, 10), (19, 2, 10), (21, 2, 6), (22, 3, 6), (27, 2, 12), (35, 2, 81), (36, 2, 81), (37, 2, 567), (38, 3, 567), (39, 2, 81), (40, 2, 81), (41, 3, 81), (42, 3, 81), (43, 3, 81), (44, 2, 12), (45, 3, 12)]
/-- field k: 0 int, 1 long, 2 ints, 3 longs -/
def mKd (k : Nat) : Nat := match mAs.find? (fun q => q.1 == k) with
  | some q => q.2.1
  | none => if k = 24 ∨ k = 31 then 1 else if k < 47 then 0 else 9
def mOff (k : Nat) : Nat := mAs.findIdx (fun q => q.1 == k) + 1
def mLen (k : Nat) : Nat := match mAs.find? (fun q => q.1 == k) with
  | some q => q.2.2
  | none => 0
/-- the field of the array at an offset -/
def mBk (o : Nat) : Nat := match mAs[o - 1]? with
  | some q => q.1
  | none => 0
theorem mBk_off : ∀ k, k < 47 → 2 ≤ mKd k → mBk (mOff k) = k ∧ 0 < mOff k ∧ mOff k ≤ 30 := by decide +kernel
theorem mOff_bk : ∀ o, o < 31 → 0 < o → mOff (mBk o) = o ∧ mBk o < 47 ∧ (mKd (mBk o) = 2 ∨ mKd (mBk o) = 3) := by decide +kernel
theorem mKd_lt {k n : Nat} (h : mKd k = n) (hn : n < 4) : k < 47 := by
  rcases Nat.lt_or_ge k 47 with h1 | h1
  · exact h1
  · exfalso
    have h2 : mAs.find? (fun q => q.1 == k) = none := by
      rw [List.find?_eq_none]
      intro q hq
      have h3 : ∀ q ∈ mAs, q.1 < 47 := by decide +kernel
      have h4 := h3 q hq
      simp only [beq_iff_eq]
      omega
    unfold mKd at h
    rw [h2] at h
    simp only at h
    rw [if_neg (by omega), if_neg (by omega)] at h
    omega
def mV (am : Nat) (S : mS) (k : Nat) : aV := if mKd k = 0 then .inl (S.1 k) else if mKd k = 1 then .inr (.inl (S.2.1 k)) else .inr (.inr (some (am + mOff k)))
def mFs (am : Nat) (S : mS) : List aV := (List.range 47).map (mV am S)
def mCell (S : mS) (k : Nat) : aE := if mKd k = 2 then .inl (0, mLen k, .inl (S.2.2.1 k)) else .inl (0, mLen k, .inr (.inl (S.2.2.2 k)))
def mo (am : Nat) (S : mS) (r : aH) : aH := (r.1, r.2.1, fun x => if x = am then some (.inr (9, mFs am S)) else if am < x ∧ x ≤ am + 30 then some (mCell S (mBk (x - am))) else r.2.2 x)
/-- the address of the array of field k -/
def mAd (am k : Nat) : Nat := am + mOff k
theorem mo_obj (am : Nat) (S : mS) (r : aH) : (mo am S r).2.2 am = some (.inr (9, mFs am S)) := by simp [mo]
theorem mo_arr (am : Nat) (S : mS) (r : aH) {k : Nat} (hk : k < 47) (h2 : 2 ≤ mKd k) : (mo am S r).2.2 (mAd am k) = some (mCell S k) := by
  obtain ⟨h3, h4, h5⟩ := mBk_off k hk h2
  show (if mAd am k = am then _ else if am < mAd am k ∧ mAd am k ≤ am + 30 then _ else _) = _
  unfold mAd
  rw [if_neg (by omega), if_pos (by omega), Nat.add_sub_cancel_left, h3]
theorem mFs_get (am : Nat) (S : mS) {k : Nat} (hk : k < 47) : (mFs am S)[k]? = some (mV am S k) := by
  rw [mFs, List.getElem?_map, List.getElem?_range hk]
  rfl
theorem m_rdF (am : Nat) (S : mS) (r : aH) {k : Nat} (hk : k < 47) : rdF (mo am S r) am [9] k = some (mV am S k) := by
  simp only [rdF, mo_obj, List.mem_singleton, if_true, mFs_get am S hk]
theorem m_rdI (am : Nat) (S : mS) (r : aH) (k : Nat) (hk : mKd k = 0) : rdI (mo am S r) am [9] k = some (S.1 k) := by
  rw [rdI, m_rdF am S r (mKd_lt hk (by decide)), mV, if_pos hk]
theorem m_rdJ (am : Nat) (S : mS) (r : aH) (k : Nat) (hk : mKd k = 1) : rdJ (mo am S r) am [9] k = some (S.2.1 k) := by
  rw [rdJ, m_rdF am S r (mKd_lt hk (by decide)), mV, if_neg (by rw [hk]; decide), if_pos hk]
theorem m_rdR (am : Nat) (S : mS) (r : aH) (k : Nat) (hk : mKd k = 2 ∨ mKd k = 3) : rdR (mo am S r) am [9] k = some (some (mAd am k)) := by
  have h1 : k < 47 := by rcases hk with h | h <;> exact mKd_lt h (by decide)
  rw [rdR, m_rdF am S r h1, mV, if_neg (by rcases hk with h | h <;> (rw [h]; decide)), if_neg (by rcases hk with h | h <;> (rw [h]; decide))]
  rfl
theorem m_obO (am : Nat) (S : mS) (r : aH) : obO (mo am S r) am 9 = some (mFs am S) := by
  simp only [obO, mo_obj, if_true]
def sI (S : mS) (k : Nat) (v : Int32) : mS := (va_up S.1 k v, S.2)
def sJ (S : mS) (k : Nat) (v : Int64) : mS := (S.1, va_up S.2.1 k v, S.2.2)
def sA (S : mS) (k i : Nat) (v : Int32) : mS := (S.1, S.2.1, va_up S.2.2.1 k (va_up (S.2.2.1 k) i v), S.2.2.2)
def sB (S : mS) (k i : Nat) (v : Int64) : mS := (S.1, S.2.1, S.2.2.1, va_up S.2.2.2 k (va_up (S.2.2.2 k) i v))
theorem mFs_set (am : Nat) (S S' : mS) (k : Nat) (v : aV) (hv : v = mV am S' k) (ho : ∀ j, j ≠ k → mV am S j = mV am S' j) : (mFs am S).set k v = mFs am S' := by
  apply List.ext_getElem?
  intro j
  by_cases hj : j < 47
  · by_cases hjk : j = k
    · subst hjk
      rw [List.getElem?_set_self (by simpa [mFs] using hj), mFs_get am S' hj, hv]
    · rw [List.getElem?_set_ne (Ne.symm hjk), mFs_get am S hj, mFs_get am S' hj, ho j hjk]
  · rw [List.getElem?_eq_none (by simp [mFs]; omega), List.getElem?_eq_none (by simp [mFs]; omega)]
theorem mo_hup (am : Nat) (S S' : mS) (r : aH) (e : aE) (he : e = .inr (9, mFs am S')) (h1 : S.2.2 = S'.2.2) : hup (mo am S r) am e = mo am S' r := by
  subst he
  unfold hup mo
  simp only
  congr 2
  funext x
  by_cases hx : x = am
  · rw [if_pos hx, if_pos hx]
  · rw [if_neg hx, if_neg hx, if_neg hx]
    simp only [mCell, h1]
theorem m_wrI (am : Nat) (S : mS) (r : aH) (k : Nat) (v : Int32) (hk : mKd k = 0) : wrF (mo am S r) am [9] k (.inl v) = some (mo am (sI S k v) r) := by
  simp only [wrF, mo_obj, List.mem_singleton, if_true]
  rw [mo_hup am S (sI S k v) r _ (by rw [mFs_set am S (sI S k v) k (.inl v)]; · simp [mV, hk, sI, va_up]
                                     · intro j hj; simp [mV, sI, va_up, hj]) rfl]
theorem m_wrJ (am : Nat) (S : mS) (r : aH) (k : Nat) (v : Int64) (hk : mKd k = 1) : wrF (mo am S r) am [9] k (.inr (.inl v)) = some (mo am (sJ S k v) r) := by
  simp only [wrF, mo_obj, List.mem_singleton, if_true]
  rw [mo_hup am S (sJ S k v) r _ (by rw [mFs_set am S (sJ S k v) k (.inr (.inl v))]; · simp [mV, hk, sJ, va_up]
                                     · intro j hj; simp [mV, sJ, va_up, hj]) rfl]
theorem m_arI (am : Nat) (S : mS) (r : aH) (k : Nat) (i : Int32) (hk : mKd k = 2) : arI (mo am S r) (mAd am k) i = if ¬ i < 0 ∧ i.toNatClampNeg < mLen k then some (S.2.2.1 k i.toNatClampNeg) else none := by
  simp only [arI, mo_arr am S r (mKd_lt hk (by decide)) (by rw [hk]; decide), mCell, if_pos hk]
theorem m_arJ (am : Nat) (S : mS) (r : aH) (k : Nat) (i : Int32) (hk : mKd k = 3) : arJ (mo am S r) (mAd am k) i = if ¬ i < 0 ∧ i.toNatClampNeg < mLen k then some (S.2.2.2 k i.toNatClampNeg) else none := by
  simp only [arJ, mo_arr am S r (mKd_lt hk (by decide)) (by rw [hk]; decide), mCell, if_neg (show ¬ mKd k = 2 by rw [hk]; decide)]
theorem mo_hupA (am : Nat) (S S' : mS) (r : aH) (k : Nat) (hk : mKd k = 2 ∨ mKd k = 3) (e : aE) (he : e = mCell S' k) (h1 : S.1 = S'.1) (h2 : S.2.1 = S'.2.1) (h3 : ∀ j, j ≠ k → S.2.2.1 j = S'.2.2.1 j ∧ S.2.2.2 j = S'.2.2.2 j) : hup (mo am S r) (mAd am k) e = mo am S' r := by
  have hk47 : k < 47 := by rcases hk with h | h <;> exact mKd_lt h (by decide)
  obtain ⟨b1, b2, b3⟩ := mBk_off k hk47 (by rcases hk with h | h <;> (rw [h]; decide))
  subst he
  unfold hup mo
  simp only
  congr 2
  funext x
  have hf : mFs am S = mFs am S' := by
    unfold mFs
    apply List.map_congr_left
    intro j _
    simp [mV, h1, h2]
  by_cases hx : x = mAd am k
  · rw [if_pos hx]
    have hx2 : x = am + mOff k := hx
    rw [if_neg (by omega), if_pos (by omega), hx2, Nat.add_sub_cancel_left, b1]
  · rw [if_neg hx]
    by_cases hx1 : x = am
    · rw [if_pos hx1, if_pos hx1, hf]
    · rw [if_neg hx1, if_neg hx1]
      by_cases hx3 : am < x ∧ x ≤ am + 30
      · rw [if_pos hx3, if_pos hx3]
        obtain ⟨c1, c2, c3⟩ := mOff_bk (x - am) (by omega) (by omega)
        have hne : mBk (x - am) ≠ k := by
          intro q
          apply hx
          show x = am + mOff k
          rw [← q, c1]
          omega
        obtain ⟨d1, d2⟩ := h3 _ hne
        simp only [mCell, d1, d2]
      · rw [if_neg hx3, if_neg hx3]
theorem m_awI (am : Nat) (S : mS) (r : aH) (k : Nat) (i v : Int32) (hk : mKd k = 2) : awI (mo am S r) (mAd am k) i v = if ¬ i < 0 ∧ i.toNatClampNeg < mLen k then some (mo am (sA S k i.toNatClampNeg v) r) else none := by
  simp only [awI, mo_arr am S r (mKd_lt hk (by decide)) (by rw [hk]; decide), mCell, if_pos hk]
  by_cases hc : ¬ i < 0 ∧ i.toNatClampNeg < mLen k
  · rw [if_pos hc, if_pos ⟨by decide, hc⟩]
    rw [mo_hupA am S (sA S k i.toNatClampNeg v) r k (Or.inl hk) _ (by simp [mCell, hk, sA, va_up]) rfl rfl (fun j hj => by simp [sA, va_up, hj])]
  · rw [if_neg hc, if_neg (fun q => hc q.2)]
theorem m_awJ (am : Nat) (S : mS) (r : aH) (k : Nat) (i : Int32) (v : Int64) (hk : mKd k = 3) : awJ (mo am S r) (mAd am k) i v = if ¬ i < 0 ∧ i.toNatClampNeg < mLen k then some (mo am (sB S k i.toNatClampNeg v) r) else none := by
  simp only [awJ, mo_arr am S r (mKd_lt hk (by decide)) (by rw [hk]; decide), mCell, if_neg (show ¬ mKd k = 2 by rw [hk]; decide)]
  by_cases hc : ¬ i < 0 ∧ i.toNatClampNeg < mLen k
  · rw [if_pos hc, if_pos ⟨by decide, hc⟩]
    rw [mo_hupA am S (sB S k i.toNatClampNeg v) r k (Or.inr hk) _ (by simp [mCell, hk, sB, va_up]) rfl rfl (fun j hj => by simp [sB, va_up, hj])]
  · rw [if_neg hc, if_neg (fun q => hc q.2)]
def mrA (S : mS) (k : Nat) (i : Int32) : Option Int32 := if ¬ i < 0 ∧ i.toNatClampNeg < mLen k then some (S.2.2.1 k i.toNatClampNeg) else none
def mrB (S : mS) (k : Nat) (i : Int32) : Option Int64 := if ¬ i < 0 ∧ i.toNatClampNeg < mLen k then some (S.2.2.2 k i.toNatClampNeg) else none
def mwA (S : mS) (k : Nat) (i v : Int32) : Option mS := if ¬ i < 0 ∧ i.toNatClampNeg < mLen k then some (sA S k i.toNatClampNeg v) else none
def mwB (S : mS) (k : Nat) (i : Int32) (v : Int64) : Option mS := if ¬ i < 0 ∧ i.toNatClampNeg < mLen k then some (sB S k i.toNatClampNeg v) else none
theorem m_arI2 (am : Nat) (S : mS) (r : aH) (k : Nat) (i : Int32) (hk : mKd k = 2) : arI (mo am S r) (mAd am k) i = mrA S k i := m_arI am S r k i hk
theorem m_arJ2 (am : Nat) (S : mS) (r : aH) (k : Nat) (i : Int32) (hk : mKd k = 3) : arJ (mo am S r) (mAd am k) i = mrB S k i := m_arJ am S r k i hk
theorem m_awI2 (am : Nat) (S : mS) (r : aH) (k : Nat) (i v : Int32) (hk : mKd k = 2) : awI (mo am S r) (mAd am k) i v = (mwA S k i v).map (fun S2 => mo am S2 r) := by
  rw [m_awI am S r k i v hk, mwA]
  split <;> rfl
theorem m_awJ2 (am : Nat) (S : mS) (r : aH) (k : Nat) (i : Int32) (v : Int64) (hk : mKd k = 3) : awJ (mo am S r) (mAd am k) i v = (mwB S k i v).map (fun S2 => mo am S2 r) := by
  rw [m_awJ am S r k i v hk, mwB]
  split <;> rfl
theorem o_bs {α β : Type} (a : α) (f : α → Option β) : (some a).bind f = f a := rfl
theorem o_bn {α β : Type} (f : α → Option β) : (none : Option α).bind f = none := rfl
theorem o_bm {α β γ : Type} (x : Option α) (f : α → β) (g : β → Option γ) : (x.map f).bind g = x.bind (fun a => g (f a)) := by cases x <;> rfl
theorem o_mb {α β γ : Type} (x : Option α) (f : α → Option β) (g : β → γ) : (x.bind f).map g = x.bind (fun a => (f a).map g) := by cases x <;> rfl
theorem o_ms {α β : Type} (a : α) (f : α → β) : (some a).map f = some (f a) := rfl
theorem o_mn {α β : Type} (f : α → β) : (none : Option α).map f = none := rfl
theorem o_mi {α β : Type} {c : Prop} [Decidable c] (a b : Option α) (f : α → β) : (if c then a else b).map f = if c then a.map f else b.map f := by split <;> rfl
theorem o_bi {α β : Type} {c : Prop} [Decidable c] (a b : Option α) (f : α → Option β) : (if c then a else b).bind f = if c then a.bind f else b.bind f := by split <;> rfl
def chkM (x : Option (Int32 × mS)) : Option (Int32 × mS) := x.bind fun q => if q.1 = 0 ∨ q.1 = 1 then some q else none
theorem chk_map {am : Nat} {r : aH} (x : Option (Int32 × mS)) : chkB (x.map (fun q2 => (q2.1, mo am q2.2 r))) = (chkM x).map (fun q2 => (q2.1, mo am q2.2 r)) := by
  cases x with
  | none => rfl
  | some q =>
    simp only [chkB, chkM, o_ms, o_bs]
    split <;> rfl
theorem mk_0 : mKd 0 = 0 := by decide +kernel
theorem mk_1 : mKd 1 = 0 := by decide +kernel
theorem mk_2 : mKd 2 = 2 := by decide +kernel
theorem mk_3 : mKd 3 = 2 := by decide +kernel
theorem mk_4 : mKd 4 = 2 := by decide +kernel
theorem mk_5 : mKd 5 = 2 := by decide +kernel
theorem mk_6 : mKd 6 = 2 := by decide +kernel
theorem mk_7 : mKd 7 = 2 := by decide +kernel
theorem mk_8 : mKd 8 = 2 := by decide +kernel
theorem mk_9 : mKd 9 = 2 := by decide +kernel
theorem mk_10 : mKd 10 = 2 := by decide +kernel
theorem mk_11 : mKd 11 = 2 := by decide +kernel
theorem mk_12 : mKd 12 = 3 := by decide +kernel
theorem mk_13 : mKd 13 = 0 := by decide +kernel
theorem mk_14 : mKd 14 = 2 := by decide +kernel
theorem mk_15 : mKd 15 = 2 := by decide +kernel
theorem mk_16 : mKd 16 = 0 := by decide +kernel
theorem mk_17 : mKd 17 = 2 := by decide +kernel
theorem mk_18 : mKd 18 = 2 := by decide +kernel
theorem mk_19 : mKd 19 = 2 := by decide +kernel
theorem mk_20 : mKd 20 = 0 := by decide +kernel
theorem mk_21 : mKd 21 = 2 := by decide +kernel
theorem mk_22 : mKd 22 = 3 := by decide +kernel
theorem mk_23 : mKd 23 = 0 := by decide +kernel
theorem mk_24 : mKd 24 = 1 := by decide +kernel
theorem mk_25 : mKd 25 = 0 := by decide +kernel
theorem mk_26 : mKd 26 = 0 := by decide +kernel
theorem mk_27 : mKd 27 = 2 := by decide +kernel
theorem mk_28 : mKd 28 = 0 := by decide +kernel
theorem mk_29 : mKd 29 = 0 := by decide +kernel
theorem mk_30 : mKd 30 = 0 := by decide +kernel
theorem mk_31 : mKd 31 = 1 := by decide +kernel
theorem mk_32 : mKd 32 = 0 := by decide +kernel
theorem mk_33 : mKd 33 = 0 := by decide +kernel
theorem mk_34 : mKd 34 = 0 := by decide +kernel
theorem mk_35 : mKd 35 = 2 := by decide +kernel
theorem mk_36 : mKd 36 = 2 := by decide +kernel
theorem mk_37 : mKd 37 = 2 := by decide +kernel
theorem mk_38 : mKd 38 = 3 := by decide +kernel
theorem mk_39 : mKd 39 = 2 := by decide +kernel
theorem mk_40 : mKd 40 = 2 := by decide +kernel
theorem mk_41 : mKd 41 = 3 := by decide +kernel
theorem mk_42 : mKd 42 = 3 := by decide +kernel
theorem mk_43 : mKd 43 = 3 := by decide +kernel
theorem mk_44 : mKd 44 = 2 := by decide +kernel
theorem mk_45 : mKd 45 = 3 := by decide +kernel
theorem mk_46 : mKd 46 = 0 := by decide +kernel
