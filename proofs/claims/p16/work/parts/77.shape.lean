/-! THE REFERENCE: what a new handle takes. My own rows. -/
/-- the types that are being put together -/
def TW (S : mS) (ts : List Int32) : Prop := ts.length ≤ 12 ∧ S.1 28 = nI ts.length ∧ ∀ (i : Nat) (t : Int32), ts[i]? = some t → S.2.2.1 27 i = t
theorem TW.tk {S : mS} {ts : List Int32} (h : TW S ts) (h6 : ts.length ≤ 6) : TK S ts := ⟨h6, h.2.1, h.2.2⟩
def f27 (k : Nat) : Bool := decide (27 ≤ k ∧ k ≤ 31)
theorem TB.s {T S S2 : mS} (h : TB T S) (q : eqB f27 S S2) : TB T S2 := h.eq q fun k h1 h2 => decide_eq_false (by omega)
theorem t27 {T S : mS} (hT : TB T S) (k : Nat) (h1 : 2 ≤ k) (h2 : k ≤ 12) (i : Nat) : S.2.2.1 k i = tI T k i := by rw [(hT k h1 h2).1]
theorem g_tf7 {T : mS} {nh h : Nat} (hW : WT T nh) (hh : h < nh) : ∀ (u n k : Nat) (S : mS) (ts : List Int32), TB T S → k + u = tN T 3 h → u < n → TW S ts → ts.length + u ≤ 6 → ∃ S2, gX11_takeFrom_7 n (nI h) (nI k) S = some S2 ∧ TW S2 (ts ++ (tys T h).drop k) ∧ eqB f27 S S2 := by
  have h60 := hW.1
  obtain ⟨m1, m2⟩ := hW.m hh
  intro u
  induction u with
  | zero =>
    intro n k S ts hT hk hn hw hl
    obtain ⟨n, rfl⟩ : ∃ q, n = q + 1 := ⟨n - 1, by omega⟩
    rw [gX11_takeFrom_7, mrA_n S 3 _ (by rw [ml_3]; omega) (by omega), o_bs, t27 hT 3 (by decide) (by decide), m1, if_pos (nI_le (by omega) (by omega))]
    exact ⟨S, rfl, by rw [List.drop_of_length_le (by rw [tys_len]; omega), List.append_nil]; exact hw, eqB.rf⟩
  | succ u ih =>
    intro n k S ts hT hk hn hw hl
    obtain ⟨n, rfl⟩ : ∃ q, n = q + 1 := ⟨n - 1, by omega⟩
    have hkl : k < (tys T h).length := by rw [tys_len]; omega
    have hk4 : S.2.2.1 4 (6 * h + k) = (tys T h)[k] := by
      have := tys_at T (show k < tN T 3 h by omega)
      rw [List.getElem?_eq_getElem hkl] at this
      rw [t27 hT 4 (by decide) (by decide)]
      exact (Option.some.inj this).symm
    rw [gX11_takeFrom_7, mrA_n S 3 _ (by rw [ml_3]; omega) (by omega), o_bs, t27 hT 3 (by decide) (by decide), m1, if_neg (nI_ge (by omega) (by omega)), nI_6, mrA_n S 4 _ (by rw [ml_4]; omega) (by omega), o_bs, hk4, hw.2.1, mwA_n S 27 _ _ (by rw [ml_27]; omega) (by omega), o_bs, nI_1]
    have e28 : (sA S 27 ts.length (tys T h)[k]).1 28 = nI ts.length := hw.2.1
    rw [e28, nI_1]
    have q1 : eqB f27 S (sI (sA S 27 ts.length (tys T h)[k]) 28 (nI (ts.length + 1))) := (eqB.A rfl).tr (eqB.I rfl)
    have w1 : TW (sI (sA S 27 ts.length (tys T h)[k]) 28 (nI (ts.length + 1))) (ts ++ [(tys T h)[k]]) := by
      refine ⟨by rw [List.length_append]; simp; omega, by rw [List.length_append]; simp [sI, va_up], fun i t hi => ?_⟩
      show (sA S 27 ts.length (tys T h)[k]).2.2.1 27 i = t
      by_cases hil : i < ts.length
      · rw [List.getElem?_append_left hil] at hi
        rw [sA_ne (Or.inr (by omega))]
        exact hw.2.2 i t hi
      · have hi2 := (List.getElem?_eq_some_iff.mp hi).1
        rw [List.length_append] at hi2
        simp at hi2
        obtain rfl : i = ts.length := by omega
        rw [List.getElem?_append_right (Nat.le_refl _), Nat.sub_self] at hi
        cases hi
        rw [sA_eq]
    obtain ⟨S2, e, a, q⟩ := ih n (k + 1) _ (ts ++ [(tys T h)[k]]) (hT.s q1) (by omega) (by omega) w1 (by rw [List.length_append]; simp; omega)
    refine ⟨S2, e, ?_, q1.tr q⟩
    rw [List.append_assoc] at a
    rw [List.drop_eq_getElem_cons hkl]
    exact a
theorem g_takeFrom {T S : mS} {nh h k : Nat} (hW : WT T nh) (hh : h < nh) (hT : TB T S) (hk : k ≤ tN T 3 h) : ∃ S2, gX11_takeFrom (nI h) (nI k) S = some S2 ∧ TW S2 ((tys T h).drop k) ∧ eqB f27 S S2 := by
  have m2 := (hW.m hh).2
  have q1 : eqB f27 S (sI S 28 0) := eqB.I rfl
  obtain ⟨S2, e, a, q⟩ := g_tf7 hW hh (tN T 3 h - k) 4000 k (sI S 28 0) [] (hT.s q1) (by omega) (by omega) ⟨by decide, by simp [sI, va_up, nI_0], fun i t hi => by simp at hi⟩ (by simp; omega)
  exact ⟨S2, e, a, q1.tr q⟩
/-- where there is nothing to take -/
theorem g_takeFrom0 {T S : mS} {nh h k : Nat} (hW : WT T nh) (hh : h < nh) (hT : TB T S) (hk : tN T 3 h < k) (hk2 : k < 2 ^ 31) : ∃ S2, gX11_takeFrom (nI h) (nI k) S = some S2 ∧ eqB f27 S S2 := by
  have h60 := hW.1
  obtain ⟨m1, m2⟩ := hW.m hh
  have q1 : eqB f27 S (sI S 28 0) := eqB.I rfl
  refine ⟨sI S 28 0, ?_, q1⟩
  unfold gX11_takeFrom
  rw [gX11_takeFrom_7, mrA_n _ 3 _ (by rw [ml_3]; omega) (by omega), o_bs, t27 (hT.s q1) 3 (by decide) (by decide), m1, if_pos (nI_le (by omega) hk2)]
theorem g_with5 {a : Nat} (t : Int32) {ts : List Int32} (ha : a ≤ ts.length) (hl : ts.length < 12) : ∀ (u n : Nat) (S : mS), a + u ≤ ts.length → u < n → S.1 28 = nI ts.length → (∀ i, i < a + u → ∀ w, ts[i]? = some w → S.2.2.1 27 i = w) → (∀ i, a + u < i → i ≤ ts.length → ∀ w, ts[i - 1]? = some w → S.2.2.1 27 i = w) → (a + u < ts.length → ∀ w, ts[a + u]? = some w → S.2.2.1 27 (a + u + 1) = w) → ∃ S2, gX11_with_5 n (nI a) t (nI (a + u)) S = some S2 ∧ TW S2 (ts.take a ++ t :: ts.drop a) ∧ eqB f27 S S2 := by
  intro u
  induction u with
  | zero =>
    intro n S hu hn h28 h1 h2 h3
    obtain ⟨n, rfl⟩ : ∃ q, n = q + 1 := ⟨n - 1, by omega⟩
    rw [gX11_with_5, if_pos (nI_le (by omega) (by omega)), mwA_n S 27 _ _ (by rw [ml_27]; omega) (by omega), o_bs]
    have e28 : (sA S 27 a t).1 28 = nI ts.length := h28
    rw [e28, nI_1]
    refine ⟨_, rfl, ⟨by rw [List.length_append, List.length_take, List.length_cons, List.length_drop]; omega, ?_, fun i w hi => ?_⟩, (eqB.A rfl).tr (eqB.I rfl)⟩
    · rw [List.length_append, List.length_take, List.length_cons, List.length_drop, show min a ts.length + (ts.length - a + 1) = ts.length + 1 by omega]
      simp [sI, va_up]
    · show (sA S 27 a t).2.2.1 27 i = w
      by_cases hia : i < a
      · rw [List.getElem?_append_left (by rw [List.length_take]; omega), List.getElem?_take, if_pos hia] at hi
        rw [sA_ne (Or.inr (by omega))]
        exact h1 i (by omega) w hi
      · rw [List.getElem?_append_right (by rw [List.length_take]; omega), List.length_take, Nat.min_eq_left ha] at hi
        by_cases hia2 : i = a
        · subst hia2
          rw [Nat.sub_self] at hi
          cases hi
          rw [sA_eq]
        · obtain ⟨p, hp⟩ : ∃ p, i - a = p + 1 := ⟨i - a - 1, by omega⟩
          rw [hp, List.getElem?_cons_succ, List.getElem?_drop] at hi
          rw [sA_ne (Or.inr hia2)]
          have hil := (List.getElem?_eq_some_iff.mp hi).1
          exact h2 i (by omega) (by omega) w (by rw [show i - 1 = a + p by omega]; exact hi)
  | succ u ih =>
    intro n S hu hn h28 h1 h2 h3
    obtain ⟨n, rfl⟩ : ∃ q, n = q + 1 := ⟨n - 1, by omega⟩
    have hlt : a + u < ts.length := by omega
    have e27 : S.2.2.1 27 (a + u) = ts[a + u] := h1 (a + u) (by omega) _ (List.getElem?_eq_getElem hlt)
    rw [gX11_with_5, if_neg (nI_ge (by omega) (by omega)), show a + (u + 1) = (a + u) + 1 by omega, nI_p1, mrA_n S 27 _ (by rw [ml_27]; omega) (by omega), o_bs, mwA_n S 27 _ _ (by rw [ml_27]; omega) (by omega), o_bs, pk_m1, e27]
    obtain ⟨S2, e, w, q⟩ := ih n (sA S 27 (a + u + 1) ts[a + u]) (by omega) (by omega) h28 (fun i hi w hw => by rw [sA_ne (Or.inr (by omega))]; exact h1 i (by omega) w hw) (fun i hi hi2 w hw => by
      by_cases hq : i = a + u + 1
      · subst hq
        rw [sA_eq]
        rw [Nat.add_sub_cancel, List.getElem?_eq_getElem hlt] at hw
        exact Option.some.inj hw
      · rw [sA_ne (Or.inr hq)]
        exact h2 i (by omega) hi2 w hw) (fun _ w hw => by
      rw [sA_eq]
      rw [List.getElem?_eq_getElem hlt] at hw
      exact Option.some.inj hw)
    exact ⟨S2, e, w, (eqB.A (f := f27) rfl).tr q⟩
theorem g_with {S : mS} {a : Nat} (t : Int32) {ts : List Int32} (hw : TW S ts) (ha : a ≤ ts.length) (hl : ts.length < 12) : ∃ S2, gX11_with (nI a) t S = some S2 ∧ TW S2 (ts.take a ++ t :: ts.drop a) ∧ eqB f27 S S2 := by
  unfold gX11_with
  rw [hw.2.1]
  have := g_with5 t ha hl (ts.length - a) 4000 S (by omega) (by omega) hw.2.1 (fun i hi w h => hw.2.2 i w h) (fun i hi hi2 w h => by omega) (fun h w h2 => by omega)
  rw [show a + (ts.length - a) = ts.length by omega] at this
  exact this
def fW (k : Nat) : Bool := k == 27 || k == 28
theorem fW27 (k : Nat) (h : f27 k = false) : fW k = false := by
  have := of_decide_eq_false h
  unfold fW
  simp
  omega
theorem g_without2 {a : Nat} {ts : List Int32} (ha : a < ts.length) (hl : ts.length ≤ 12) : ∀ (u n k : Nat) (S : mS), k + u + 1 = ts.length → a ≤ k → u < n → S.1 28 = nI ts.length → (∀ i, i < a → ∀ w, ts[i]? = some w → S.2.2.1 27 i = w) → (∀ i, a ≤ i → i < k → ∀ w, ts[i + 1]? = some w → S.2.2.1 27 i = w) → (∀ i, k < i → ∀ w, ts[i]? = some w → S.2.2.1 27 i = w) → ∃ S2, gX11_without_2 n (nI k) S = some S2 ∧ TW S2 (ts.take a ++ ts.drop (a + 1)) ∧ eqB fW S S2 := by
  obtain ⟨m, hm⟩ : ∃ m, ts.length = m + 1 := ⟨ts.length - 1, by omega⟩
  intro u
  induction u with
  | zero =>
    intro n k S hk hak hn h28 h1 h2 h3
    obtain ⟨n, rfl⟩ : ∃ q, n = q + 1 := ⟨n - 1, by omega⟩
    rw [gX11_without_2, h28, hm, nI_p1, if_pos (nI_le (by omega) (by omega))]
    refine ⟨_, rfl, ⟨by rw [List.length_append, List.length_take, List.length_drop]; omega, ?_, fun i w hi => ?_⟩, eqB.I rfl⟩
    · rw [List.length_append, List.length_take, List.length_drop, show min a ts.length + (ts.length - (a + 1)) = m by omega]
      simp [sI, va_up]
    · show S.2.2.1 27 i = w
      by_cases hia : i < a
      · rw [List.getElem?_append_left (by rw [List.length_take]; omega), List.getElem?_take, if_pos hia] at hi
        exact h1 i hia w hi
      · rw [List.getElem?_append_right (by rw [List.length_take]; omega), List.length_take, Nat.min_eq_left (by omega), List.getElem?_drop] at hi
        have hil := (List.getElem?_eq_some_iff.mp hi).1
        exact h2 i (by omega) (by omega) w (by rw [show i + 1 = a + 1 + (i - a) by omega]; exact hi)
  | succ u ih =>
    intro n k S hk hak hn h28 h1 h2 h3
    obtain ⟨n, rfl⟩ : ∃ q, n = q + 1 := ⟨n - 1, by omega⟩
    have hlt : k + 1 < ts.length := by omega
    have e27 : S.2.2.1 27 (k + 1) = ts[k + 1] := h3 (k + 1) (by omega) _ (List.getElem?_eq_getElem hlt)
    rw [gX11_without_2, h28, hm, nI_p1, if_neg (nI_ge (by omega) (by omega)), nI_1, mrA_n S 27 _ (by rw [ml_27]; omega) (by omega), o_bs, mwA_n S 27 _ _ (by rw [ml_27]; omega) (by omega), o_bs, e27]
    obtain ⟨S2, e, w, q⟩ := ih n (k + 1) (sA S 27 k ts[k + 1]) (by omega) (by omega) (by omega) h28 (fun i hi w hw => by rw [sA_ne (Or.inr (by omega))]; exact h1 i hi w hw) (fun i hi hi2 w hw => by
      by_cases hq : i = k
      · subst hq
        rw [sA_eq]
        rw [List.getElem?_eq_getElem hlt] at hw
        exact Option.some.inj hw
      · rw [sA_ne (Or.inr hq)]
        exact h2 i hi (by omega) w hw) (fun i hi w hw => by rw [sA_ne (Or.inr (by omega))]; exact h3 i (by omega) w hw)
    exact ⟨S2, e, w, (eqB.A (f := fW) rfl).tr q⟩
theorem g_without {S : mS} {a : Nat} {ts : List Int32} (hw : TW S ts) (ha : a < ts.length) : ∃ S2, gX11_without (nI a) S = some S2 ∧ TW S2 (ts.take a ++ ts.drop (a + 1)) ∧ eqB fW S S2 := by
  have := hw.1
  exact g_without2 ha hw.1 (ts.length - 1 - a) 4000 a S (by omega) (Nat.le_refl _) (by omega) hw.2.1 (fun i hi w h => hw.2.2 i w h) (fun i h1 h2 => by omega) (fun i hi w h => hw.2.2 i w h)
