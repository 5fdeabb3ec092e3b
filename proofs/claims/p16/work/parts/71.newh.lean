/-! THE REFERENCE: a new handle; plain. My own rows. -/
/-- the types that a new handle takes -/
def TK (S : mS) (ts : List Int32) : Prop := ts.length ≤ 6 ∧ S.1 28 = nI ts.length ∧ ∀ (i : Nat) (t : Int32), ts[i]? = some t → S.2.2.1 27 i = t
def fN (k : Nat) : Bool := decide (4 ≤ k ∧ k ≤ 10)
theorem sA_ne {S : mS} {k i j n : Nat} {v : Int32} (h : j ≠ k ∨ n ≠ i) : (sA S k i v).2.2.1 j n = S.2.2.1 j n := by
  simp only [sA, va_up]
  by_cases hj : j = k
  · rw [if_pos hj]
    subst hj
    exact up_ne _ _ (h.resolve_left (fun q => q rfl))
  · rw [if_neg hj]
theorem sA_eq (S : mS) (k i : Nat) (v : Int32) : (sA S k i v).2.2.1 k i = v := by simp [sA, va_up]
theorem g_nh38 {nh : Nat} (h60 : nh < 60) (g h x y a b : Int32) {ts : List Int32} : ∀ (u n k : Nat) (S : mS), TK S ts → k + u = ts.length → u < n → (∀ i, i < k → S.2.2.1 4 (6 * nh + i) = ts.getD i 0) → ∃ S2, gX11_newHandle_38 n g h x y a b (nI nh) (nI k) S = some (nI nh, S2) ∧ (∀ i, i < ts.length → S2.2.2.1 4 (6 * nh + i) = ts.getD i 0) ∧ (∀ i, i < 6 * nh → S2.2.2.1 4 i = S.2.2.1 4 i) ∧ (S2.2.2.1 5 nh = g ∧ S2.2.2.1 6 nh = h ∧ S2.2.2.1 7 nh = x ∧ S2.2.2.1 8 nh = y ∧ S2.2.2.1 9 nh = a ∧ S2.2.2.1 10 nh = b) ∧ (∀ k c, 5 ≤ k → k ≤ 10 → c ≠ nh → S2.2.2.1 k c = S.2.2.1 k c) ∧ eqB fN S S2 := by
  intro u
  induction u with
  | zero =>
    intro n k S hT hk hn h4
    obtain ⟨n, rfl⟩ : ∃ q, n = q + 1 := ⟨n - 1, by omega⟩
    have h6 := hT.1
    rw [gX11_newHandle_38, hT.2.1, if_pos (nI_le (by omega) (by omega)), mwA_n _ 5 _ _ (by rw [ml_5]; omega) (by omega), o_bs, mwA_n _ 6 _ _ (by rw [ml_6]; omega) (by omega), o_bs, mwA_n _ 7 _ _ (by rw [ml_7]; omega) (by omega), o_bs, mwA_n _ 8 _ _ (by rw [ml_8]; omega) (by omega), o_bs, mwA_n _ 9 _ _ (by rw [ml_9]; omega) (by omega), o_bs, mwA_n _ 10 _ _ (by rw [ml_10]; omega) (by omega), o_bs]
    have n4 : ∀ i, (sA (sA (sA (sA (sA (sA S 5 nh g) 6 nh h) 7 nh x) 8 nh y) 9 nh a) 10 nh b).2.2.1 4 i = S.2.2.1 4 i := fun i => by
      rw [sA_ne (Or.inl (by decide)), sA_ne (Or.inl (by decide)), sA_ne (Or.inl (by decide)), sA_ne (Or.inl (by decide)), sA_ne (Or.inl (by decide)), sA_ne (Or.inl (by decide))]
    refine ⟨_, rfl, fun i hi => by rw [n4]; exact h4 i (by omega), fun i hi => n4 i, ⟨?_, ?_, ?_, ?_, ?_, ?_⟩, fun k c _ _ hc => ?_, (eqB.A rfl).tr ((eqB.A rfl).tr ((eqB.A rfl).tr ((eqB.A rfl).tr ((eqB.A rfl).tr (eqB.A rfl)))))⟩
    · rw [sA_ne (Or.inl (by decide)), sA_ne (Or.inl (by decide)), sA_ne (Or.inl (by decide)), sA_ne (Or.inl (by decide)), sA_ne (Or.inl (by decide)), sA_eq]
    · rw [sA_ne (Or.inl (by decide)), sA_ne (Or.inl (by decide)), sA_ne (Or.inl (by decide)), sA_ne (Or.inl (by decide)), sA_eq]
    · rw [sA_ne (Or.inl (by decide)), sA_ne (Or.inl (by decide)), sA_ne (Or.inl (by decide)), sA_eq]
    · rw [sA_ne (Or.inl (by decide)), sA_ne (Or.inl (by decide)), sA_eq]
    · rw [sA_ne (Or.inl (by decide)), sA_eq]
    · rw [sA_eq]
    · rw [sA_ne (Or.inr hc), sA_ne (Or.inr hc), sA_ne (Or.inr hc), sA_ne (Or.inr hc), sA_ne (Or.inr hc), sA_ne (Or.inr hc)]
  | succ u ih =>
    intro n k S hT hk hn h4
    obtain ⟨n, rfl⟩ : ∃ q, n = q + 1 := ⟨n - 1, by omega⟩
    have h6 := hT.1
    have hkl : k < ts.length := by omega
    have e27 := hT.2.2 k ts[k] (List.getElem?_eq_getElem hkl)
    rw [gX11_newHandle_38, hT.2.1, if_neg (nI_ge (by omega) (by omega)), mrA_n S 27 _ (by rw [ml_27]; omega) (by omega), o_bs, nI_6, mwA_n _ 4 _ _ (by rw [ml_4]; omega) (by omega), o_bs, nI_1, e27]
    obtain ⟨S2, e, a1, a2, a3, a4, a5⟩ := ih n (k + 1) (sA S 4 (6 * nh + k) ts[k]) ⟨h6, hT.2.1, fun i t hi => by rw [sA_ne (Or.inl (by decide))]; exact hT.2.2 i t hi⟩ (by omega) (by omega) (fun i hi => by
      by_cases hik : i = k
      · subst hik
        rw [sA_eq, List.getD_eq_getElem?_getD, List.getElem?_eq_getElem hkl]
        rfl
      · rw [sA_ne (Or.inr (by omega))]
        exact h4 i (by omega))
    refine ⟨S2, e, a1, fun i hi => ?_, a3, fun j c h1 h2 hc => ?_, (eqB.A (f := fN) rfl).tr a5⟩
    · rw [a2 i hi, sA_ne (Or.inr (by omega))]
    · rw [a4 j c h1 h2 hc, sA_ne (Or.inl (by omega))]
def fNH (k : Nat) : Bool := decide (1 ≤ k ∧ k ≤ 10)
/-- a new handle -/
def NHo (S S2 : mS) (nh : Nat) (ts : List Int32) (F g h x y a b : Int32) : Prop := S2.1 1 = nI (nh + 1) ∧ S2.2.2.1 2 nh = F ∧ S2.2.2.1 3 nh = nI ts.length ∧ (∀ i, i < ts.length → S2.2.2.1 4 (6 * nh + i) = ts.getD i 0) ∧ (∀ i, i < 6 * nh → S2.2.2.1 4 i = S.2.2.1 4 i) ∧ (S2.2.2.1 5 nh = g ∧ S2.2.2.1 6 nh = h ∧ S2.2.2.1 7 nh = x ∧ S2.2.2.1 8 nh = y ∧ S2.2.2.1 9 nh = a ∧ S2.2.2.1 10 nh = b) ∧ (∀ k c, 2 ≤ k → k ≤ 10 → k ≠ 4 → c ≠ nh → S2.2.2.1 k c = S.2.2.1 k c) ∧ eqB fNH S S2
theorem g_newHandle {nh : Nat} {S : mS} {ts : List Int32} (h60 : nh < 60) (hn : S.1 1 = nI nh) (hT : TK S ts) (F g h x y a b : Int32) : ∃ S2, gX11_newHandle F g h x y a b S = some (nI nh, S2) ∧ NHo S S2 nh ts F g h x y a b := by
  unfold gX11_newHandle
  rw [hn, mwA_n _ 2 _ _ (by rw [ml_2]; omega) (by omega), o_bs, mwA_n _ 3 _ _ (by rw [ml_3]; omega) (by omega), o_bs]
  have e28 : (sA (sI S 1 (nI nh + 1)) 2 nh F).1 28 = nI ts.length := by
    show (sI S 1 (nI nh + 1)).1 28 = _
    simp only [sI]
    rw [up_ne _ _ (by decide)]
    exact hT.2.1
  rw [e28]
  have hT2 : TK (sA (sA (sI S 1 (nI nh + 1)) 2 nh F) 3 nh (nI ts.length)) ts := ⟨hT.1, e28, fun i t hi => by
    rw [sA_ne (Or.inl (by decide)), sA_ne (Or.inl (by decide))]
    exact hT.2.2 i t hi⟩
  obtain ⟨S2, e, a1, a2, a3, a4, a5⟩ := g_nh38 h60 g h x y a b ts.length 4000 0 _ hT2 (by omega) (by have := hT.1; omega) (fun i hi => by omega)
  rw [nI_0] at e
  refine ⟨S2, e, ?_, ?_, ?_, a1, fun i hi => ?_, a3, fun k c h1 h2 h3 hc => ?_, ?_⟩
  · rw [← (a5 1 rfl).1]
    show (sI S 1 (nI nh + 1)).1 1 = _
    rw [nI_1]
    simp [sI, va_up]
  · rw [← (a5 2 rfl).2.2.1, sA_ne (Or.inl (by decide)), sA_eq]
  · rw [← (a5 3 rfl).2.2.1, sA_eq]
  · rw [a2 i hi, sA_ne (Or.inl (by decide)), sA_ne (Or.inl (by decide))]
    rfl
  · have base : (sA (sA (sI S 1 (nI nh + 1)) 2 nh F) 3 nh (nI ts.length)).2.2.1 k c = S.2.2.1 k c := by
      rw [sA_ne (Or.inr hc), sA_ne (Or.inr hc)]
      rfl
    by_cases h5 : 5 ≤ k
    · rw [a4 k c h5 h2 hc, base]
    · rw [← (a5 k (decide_eq_false fun q => by omega)).2.2.1, base]
  · refine (eqB.I rfl).tr ((eqB.A rfl).tr ((eqB.A rfl).tr (a5.mono fun k hk => ?_)))
    exact decide_eq_false fun q => of_decide_eq_false hk ⟨by omega, q.2⟩
theorem g_take {S : mS} {n : Nat} {ts : List Int32} (x y w : Int32) (hn : n = ts.length) (h3 : ts = [x, y, w].take n) (h33 : n ≤ 3) : ∃ S2, gX11_take (nI n) x y w S = some S2 ∧ TK S2 ts ∧ eqB (fun k => k == 27 || k == 28) S S2 := by
  unfold gX11_take
  rw [show mwA (sI S 28 (nI n)) 27 0 x = some (sA (sI S 28 (nI n)) 27 0 x) from mwA_n _ 27 0 _ (by rw [ml_27]; decide) (by decide), o_bs, show ∀ S, mwA S 27 1 y = some (sA S 27 1 y) from fun S => mwA_n _ 27 1 _ (by rw [ml_27]; decide) (by decide), o_bs, show ∀ S, mwA S 27 2 w = some (sA S 27 2 w) from fun S => mwA_n _ 27 2 _ (by rw [ml_27]; decide) (by decide), o_bs]
  refine ⟨_, rfl, ⟨by omega, ?_, fun i t hi => ?_⟩, (eqB.I rfl).tr ((eqB.A rfl).tr ((eqB.A rfl).tr (eqB.A rfl)))⟩
  · show (sI S 28 (nI n)).1 28 = _
    rw [← hn]
    simp [sI, va_up]
  · rw [h3, List.getElem?_take] at hi
    split at hi
    · next hin =>
      match i, hi with
      | 0, hi => cases hi; rw [sA_ne (Or.inr (by decide)), sA_ne (Or.inr (by decide)), sA_eq]
      | 1, hi => cases hi; rw [sA_ne (Or.inr (by decide)), sA_eq]
      | 2, hi => cases hi; rw [sA_eq]
      | i + 3, hi => omega
    · cases hi
