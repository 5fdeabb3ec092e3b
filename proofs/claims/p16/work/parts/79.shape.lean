/-! THE REFERENCE: shapes of others, and all of them. My own rows. -/
/-- may the first value at hand be bound -/
def bOK (T : mS) (vs : List aVl) (h a : Nat) : Prop := ∃ v ws, vs = v :: ws ∧ caB (tov v.1 (tI T 4 (6 * h + a))) (tI T 4 (6 * h + a)) = true ∧ (adS (tov v.1 (tI T 4 (6 * h + a))) (tI T 4 (6 * h + a)) v.1 v.2).1 = 0
def bV (T : mS) (vs : List aVl) (h a : Nat) : aVl := (adS (tov (vs.getD 0 (0, 0)).1 (tI T 4 (6 * h + a))) (tI T 4 (6 * h + a)) (vs.getD 0 (0, 0)).1 (vs.getD 0 (0, 0)).2).2
theorem chkm1 (S : mS) : chkM (some (1, S)) = some (1, S) := rfl
theorem chkm0 (S : mS) : chkM (some (0, S)) = some (0, S) := rfl
section
variable {T S : mS} {nh h x y a : Nat} {vs : List aVl}
theorem g_isBound (hT : TB T S) (hV : VA S vs) (hh : h < 60) (ha : a < 6) : (bOK T vs h a → ∃ S2, gX11_isBound (nI h) (nI a) S = some (1, S2) ∧ S2.1 30 = (bV T vs h a).1 ∧ S2.2.1 31 = (bV T vs h a).2 ∧ eqB fCame S S2) ∧ (¬ bOK T vs h a → ∃ S2, gX11_isBound (nI h) (nI a) S = some (0, S2) ∧ eqB fCame S S2) := by
  unfold gX11_isBound gX11_isBound_e
  have h6 := hV.1
  cases vs with
  | nil =>
    rw [hV.2.1, if_pos (show nI ([] : List aVl).length = 0 from rfl), chkm0]
    exact ⟨fun q => (by obtain ⟨v, ws, e, -⟩ := q; cases e), fun _ => ⟨S, rfl, eqB.rf⟩⟩
  | cons v ws =>
    rw [hV.2.1, if_neg (show ¬ nI (v :: ws).length = 0 from nI_ne0 (by simp) (by omega)), nI_6, mrA_n S 4 _ (by rw [ml_4]; omega) (by omega), o_bs, t27 hT 4 (by decide) (by decide)]
    generalize ht : tI T 4 (6 * h + a) = t
    have e0 : (v :: ws)[0]? = some v := rfl
    rw [show gX11_typeOfValue 0 t S = _ from g_tov (k := 0) hV e0 t, o_bs]
    simp only
    rw [g_ca, o_bs]
    simp only
    by_cases hc : caB (tov v.1 t) t = true
    · rw [if_pos hc, if_neg (show ¬ (1 : Int32) = 0 by decide), show mrA S 21 0 = _ from mrA_n S 21 0 (by rw [ml_21]; decide) (by decide), o_bs, show mrB S 22 0 = _ from mrB_n S 22 0 (by rw [ml_22]; decide) (by decide), o_bs, (hV.2.2 0 v e0).1, (hV.2.2 0 v e0).2]
      obtain ⟨S2, e2, a1, a2, a3, q⟩ := g_adapt (tov v.1 t) t v.1 v.2 S
      rw [e2, o_bs, a1]
      by_cases h0 : (adS (tov v.1 t) t v.1 v.2).1 = 0
      · rw [if_pos h0, chkm1]
        refine ⟨fun _ => ⟨S2, rfl, ?_, ?_, q⟩, fun n => absurd ⟨v, ws, rfl, by rw [ht]; exact hc, by rw [ht]; exact h0⟩ n⟩
        · rw [a2]; unfold bV; rw [ht]; rfl
        · rw [a3]; unfold bV; rw [ht]; rfl
      · rw [if_neg h0, chkm0]
        refine ⟨fun n => ?_, fun _ => ⟨S2, rfl, q⟩⟩
        obtain ⟨v2, ws2, e, -, n3⟩ := n
        cases e
        rw [ht] at n3
        exact absurd n3 h0
    · rw [if_neg hc, if_pos rfl, chkm0]
      refine ⟨fun n => ?_, fun _ => ⟨S, rfl, eqB.rf⟩⟩
      obtain ⟨v2, ws2, e, n2, -⟩ := n
      cases e
      rw [ht] at n2
      exact absurd n2 hc
theorem fC27 (k : Nat) (h : f27 k = false) : fCame k = false := by
  have := of_decide_eq_false h
  unfold fCame
  simp
  omega
theorem TW.e {S S2 : mS} {ts : List Int32} {f : Nat → Bool} (w : TW S ts) (q : eqB f S S2) (h27 : f 27 = false) (h28 : f 28 = false) : TW S2 ts := ⟨w.1, by rw [← (q 28 h28).1]; exact w.2.1, fun i t hi => by rw [← (q 27 h27).2.2.1]; exact w.2.2 i t hi⟩
theorem sh_10 (hW : WT T nh) (hT : TB T S) (hh : h < nh) (w : TW S (tys T h)) (ha : a ≤ 6) (hal : a ≤ tN T 3 h) : ∀ (u n k : Nat) (b : Bool), k + u = tN T 3 h → tN T 3 h - a ≤ k → u < n → SHo S (gX11_shape_670 n (nI h) (nI a) (nI (tN T 3 h)) (if b = true then 1 else 0) (nI k) S) (b = true ∧ ∀ i, k ≤ i → i < tN T 3 h → tI T 4 (6 * h + i) = 0) (tI T 5 h) ((tys T h).take (tN T 3 h - a) ++ [3]) := by
  have h60 := hW.1
  have m6 := (hW.m hh).2
  have end0 : gX11_shape_710 (nI h) (nI a) (nI (tN T 3 h)) 0 S = some (-1, S) := by
    unfold gX11_shape_710
    rw [if_pos rfl]
  have end1 : ∃ S2, gX11_shape_710 (nI h) (nI a) (nI (tN T 3 h)) 1 S = some (tI T 5 h, S2) ∧ TW S2 ((tys T h).take (tN T 3 h - a) ++ [3]) ∧ eqB f27 S S2 := by
    unfold gX11_shape_710
    rw [if_neg (by decide), nI_subN hal]
    have q1 : eqB f27 S (sI S 28 (nI (tN T 3 h - a))) := eqB.I rfl
    have e28 : (sI S 28 (nI (tN T 3 h - a))).1 28 = nI (tN T 3 h - a) := by simp [sI, va_up]
    have w1 : TW (sI S 28 (nI (tN T 3 h - a))) ((tys T h).take (tN T 3 h - a)) := ⟨by rw [List.length_take]; omega, by rw [e28, List.length_take, tys_len, Nat.min_eq_left (by omega)], fun i t hi => by
      rw [List.getElem?_take] at hi
      split at hi
      · exact w.2.2 i t hi
      · cases hi⟩
    have wl : ((tys T h).take (tN T 3 h - a)).length = tN T 3 h - a := by rw [List.length_take, tys_len]; omega
    obtain ⟨S2, e2, w2, q2⟩ := g_with (a := tN T 3 h - a) 3 w1 (by omega) (by omega)
    rw [e28, e2, o_bs, rd5 (hT.s (q1.tr q2)) hW hh, o_bs]
    refine ⟨S2, rfl, ?_, q1.tr q2⟩
    rw [List.take_of_length_le (l := (tys T h).take (tN T 3 h - a)) (by omega), List.drop_of_length_le (by omega)] at w2
    exact w2
  intro u
  induction u with
  | zero =>
    intro n k b hk hka hn
    obtain ⟨n, rfl⟩ : ∃ q, n = q + 1 := ⟨n - 1, by omega⟩
    rw [gX11_shape_670, if_pos (nI_le (by omega) (by omega))]
    cases b with
    | false =>
      rw [if_neg (by decide), end0]
      exact sh_no (fun q => absurd q.1 (by decide)) rfl eqB.rf
    | true =>
      rw [if_pos rfl]
      obtain ⟨S2, e2, w2, q2⟩ := end1
      exact sh_yes ⟨rfl, fun i h1 h2 => by omega⟩ e2 w2 q2
  | succ u ih =>
    intro n k b hk hka hn
    obtain ⟨n, rfl⟩ : ∃ q, n = q + 1 := ⟨n - 1, by omega⟩
    rw [gX11_shape_670, if_neg (nI_ge (by omega) (by omega))]
    cases b with
    | false =>
      rw [if_neg (show ¬ (false = true) by decide), if_pos rfl, end0]
      exact sh_no (fun q => absurd q.1 (by decide)) rfl eqB.rf
    | true =>
      rw [if_pos (show true = true from rfl), if_neg (by decide), nI_6, rd4 hT (by omega), o_bs, nI_1]
      by_cases h0 : tI T 4 (6 * h + k) = 0
      · rw [if_pos h0]
        have := ih n (k + 1) true (by omega) (by omega) (by omega)
        rw [if_pos rfl] at this
        refine ⟨fun q => this.1 ⟨rfl, fun i h1 h2 => q.2 i (by omega) h2⟩, fun q => this.2 fun q2 => q ⟨rfl, fun i h1 h2 => ?_⟩⟩
        by_cases hik : i = k
        · rw [hik]; exact h0
        · exact q2.2 i (by omega) h2
      · rw [if_neg h0]
        have := ih n (k + 1) false (by omega) (by omega) (by omega)
        rw [if_neg (by decide)] at this
        exact ⟨fun q => absurd (q.2 k (Nat.le_refl _) (by omega)) h0, fun _ => this.2 fun q2 => absurd q2.1 (by decide)⟩
theorem sh_11 (hW : WT T nh) (hT : TB T S) (hh : h < nh) : ∀ (u n k : Nat) (S1 : mS) (ts : List Int32), TB T S1 → TW S1 ts → k + u = a → u < n → a ≤ 6 → ts.length + u ≤ 6 → ∃ S2, gX11_shape_790 n (nI h) (nI a) (nI k) S1 = some (tI T 5 h, S2) ∧ TW S2 (ts ++ List.replicate u 0) ∧ eqB f27 S1 S2 := by
  intro u
  induction u with
  | zero =>
    intro n k S1 ts hT1 w hk hn ha hl
    obtain ⟨n, rfl⟩ : ∃ q, n = q + 1 := ⟨n - 1, by omega⟩
    rw [gX11_shape_790, if_pos (nI_le (by omega) (by omega)), rd5 hT1 hW hh, o_bs]
    exact ⟨S1, rfl, by simpa using w, eqB.rf⟩
  | succ u ih =>
    intro n k S1 ts hT1 w hk hn ha hl
    obtain ⟨n, rfl⟩ : ∃ q, n = q + 1 := ⟨n - 1, by omega⟩
    obtain ⟨S2, e2, w2, q2⟩ := g_with (a := ts.length) 0 w (Nat.le_refl _) (by omega)
    rw [gX11_shape_790, if_neg (nI_ge (by omega) (by omega)), w.2.1, e2, o_bs, nI_1]
    rw [List.take_length, List.drop_length] at w2
    obtain ⟨S3, e3, w3, q3⟩ := ih n (k + 1) S2 (ts ++ [0]) (hT1.s q2) w2 (by omega) (by omega) ha (by rw [List.length_append]; simp; omega)
    refine ⟨S3, e3, ?_, q2.tr q3⟩
    rw [List.append_assoc] at w3
    rw [List.replicate_succ]
    exact w3
theorem sh_12 (hW : WT T nh) (hT : TB T S) (hh : h < nh) (hx : x < nh) : ∀ (u n k : Nat) (b : Bool), k + u = tN T 3 h → u < n → (b = true → tN T 3 x = tN T 3 h) → SHo S (gX11_shape_858 n (nI h) (nI x) (nI (tN T 3 h)) (if b = true then 1 else 0) (nI k) S) (b = true ∧ ∀ i, k ≤ i → i < tN T 3 h → caB (tI T 4 (6 * x + i)) (tI T 4 (6 * h + i)) = true) (tI T 5 x) (tys T x) := by
  have h60 := hW.1
  have m6 := (hW.m hh).2
  obtain ⟨S1, e1, w1, q1⟩ := g_takeFrom (k := 0) hW hx hT (Nat.zero_le _)
  rw [nI_0] at e1
  rw [List.drop_zero] at w1
  have end0 : gX11_shape_905 (nI x) 0 S = some (-1, S1) := by
    unfold gX11_shape_905
    rw [e1, o_bs, if_pos rfl]
  have end1 : gX11_shape_905 (nI x) 1 S = some (tI T 5 x, S1) := by
    unfold gX11_shape_905
    rw [e1, o_bs, if_neg (by decide), rd5 (hT.s q1) hW hx, o_bs]
  intro u
  induction u with
  | zero =>
    intro n k b hk hn hb
    obtain ⟨n, rfl⟩ : ∃ q, n = q + 1 := ⟨n - 1, by omega⟩
    rw [gX11_shape_858, if_pos (nI_le (by omega) (by omega))]
    cases b with
    | false =>
      rw [if_neg (by decide), end0]
      exact sh_no (fun q => absurd q.1 (by decide)) rfl q1
    | true =>
      rw [if_pos rfl, end1]
      exact sh_yes ⟨rfl, fun i h1 h2 => by omega⟩ rfl w1 q1
  | succ u ih =>
    intro n k b hk hn hb
    obtain ⟨n, rfl⟩ : ∃ q, n = q + 1 := ⟨n - 1, by omega⟩
    rw [gX11_shape_858, if_neg (nI_ge (by omega) (by omega))]
    cases b with
    | false =>
      rw [if_neg (show ¬ (false = true) by decide), if_pos rfl, end0]
      exact sh_no (fun q => absurd q.1 (by decide)) rfl q1
    | true =>
      rw [if_pos (show true = true from rfl), if_neg (by decide), nI_6, rd4 hT (by omega), o_bs, nI_6, rd4 hT (by omega), o_bs, g_ca, o_bs, nI_1]
      have := ih n (k + 1) (caB (tI T 4 (6 * x + k)) (tI T 4 (6 * h + k))) (by omega) (by omega) (fun _ => hb rfl)
      refine ⟨fun q => this.1 ⟨q.2 k (Nat.le_refl _) (by omega), fun i h1 h2 => q.2 i (by omega) h2⟩, fun q => this.2 fun q2 => q ⟨rfl, fun i h1 h2 => ?_⟩⟩
      by_cases hik : i = k
      · rw [hik]; exact q2.1
      · exact q2.2 i (by omega) h2
/-- moved: each type at its place -/
theorem sh_2 (hW : WT T nh) (hT : TB T S) (hh : h < nh) (ha : a < 2 ^ 31) (hd : ∀ k, k < tN T 3 h → dgt (nI a) (tN T 3 h) k < tN T 3 h) (hi : ∀ i j, i < tN T 3 h → j < tN T 3 h → dgt (nI a) (tN T 3 h) i = dgt (nI a) (tN T 3 h) j → i = j) : ∀ (u n k : Nat) (S1 : mS), TB T S1 → k + u = tN T 3 h → u < n → S1.1 28 = nI (tN T 3 h) → (∀ i, i < k → S1.2.2.1 27 (dgt (nI a) (tN T 3 h) i) = tI T 4 (6 * h + i)) → ∃ S2, gX11_shape_132 n (nI h) (nI a) (nI (tN T 3 h)) (nI k) S1 = some (tI T 5 h, S2) ∧ S2.1 28 = nI (tN T 3 h) ∧ (∀ i, i < tN T 3 h → S2.2.2.1 27 (dgt (nI a) (tN T 3 h) i) = tI T 4 (6 * h + i)) ∧ eqB f27 S1 S2 := by
  have h60 := hW.1
  have m6 := (hW.m hh).2
  intro u
  induction u with
  | zero =>
    intro n k S1 hT1 hk hn h28 h27
    obtain ⟨n, rfl⟩ : ∃ q, n = q + 1 := ⟨n - 1, by omega⟩
    rw [gX11_shape_132, if_pos (nI_le (by omega) (by omega)), rd5 hT1 hW hh, o_bs]
    exact ⟨S1, rfl, h28, fun i hi => h27 i (by omega), eqB.rf⟩
  | succ u ih =>
    intro n k S1 hT1 hk hn h28 h27
    obtain ⟨n, rfl⟩ : ∃ q, n = q + 1 := ⟨n - 1, by omega⟩
    have ed : gX11_digit (nI a) (nI (tN T 3 h)) (nI k) S1 = some (nI (dgt (nI a) (tN T 3 h) k), S1) := by
      rw [g_digit (by omega) m6 ha]
      unfold dgt
      rw [nI_clamp ha]
    have hdk := hd k (by omega)
    rw [gX11_shape_132, if_neg (nI_ge (by omega) (by omega)), ed, o_bs]
    simp only
    rw [nI_6, rd4 hT1 (by omega), o_bs, mwA_n S1 27 _ _ (by rw [ml_27]; omega) (by omega), o_bs, nI_1]
    have q1 : eqB f27 S1 (sA S1 27 (dgt (nI a) (tN T 3 h) k) (tI T 4 (6 * h + k))) := eqB.A rfl
    obtain ⟨S2, e, e28, e27, q⟩ := ih n (k + 1) (sA S1 27 (dgt (nI a) (tN T 3 h) k) (tI T 4 (6 * h + k))) (hT1.s q1) (by omega) (by omega) h28 (fun i hik => by
      by_cases hq : i = k
      · rw [hq, sA_eq]
      · rw [sA_ne (Or.inr (fun e => hq (hi i k (by omega) (by omega) e)))]
        exact h27 i (by omega))
    exact ⟨S2, e, e28, e27, q1.tr q⟩
end
