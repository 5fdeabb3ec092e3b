/-! THE CLASS: types of other handles, form by form. My own rows. -/
theorem aTy.n {ac a : Nat} {r : aH} {T : mS} {h : Nat} {g : Int32} (H : aTy ac r a (tys T h) g) : tN T 3 h ≤ 6 := by have := H.2.1; rw [tys_len] at this; exact this
section
variable {z : Nat → Nat} {ac : Nat} {r : aH} {C : cS} {T : mS} {h x y th tx ty : Nat}
/-- the class's answer: types with what is told, or none -/
def TO (ac : Nat) (r : aH) (C : cS) (q : Option (Option Nat × aH)) (P : Prop) (ts : List Int32) (g : Int32) : Prop := (P → ∃ r2 t, q = some (some t, co ac C r2) ∧ GX ac 4 20 r r2 ∧ aTy ac r2 t ts g) ∧ (¬ P → ∃ r2, q = some (none, co ac C r2) ∧ GX ac 4 20 r r2)
theorem to_yes {q : Option (Option Nat × aH)} {P : Prop} {ts : List Int32} {g : Int32} {r2 : aH} {t : Nat} (hp : P) (e : q = some (some t, co ac C r2)) (G : GX ac 4 20 r r2) (a : aTy ac r2 t ts g) : TO ac r C q P ts g := ⟨fun _ => ⟨r2, t, e, G, a⟩, fun n => absurd hp n⟩
theorem to_no {q : Option (Option Nat × aH)} {P : Prop} {ts : List Int32} {g : Int32} (hF : FRS r) (hp : ¬ P) (e : q = some (none, co ac C r)) : TO ac r C q P ts g := ⟨fun n => absurd n hp, fun _ => ⟨r, e, (GX.rf hF).up (by decide) (by decide)⟩⟩
theorem to_same {q : Option (Option Nat × aH)} {P : Prop} {ts : List Int32} {g : Int32} {t : Nat} (hF : FRS r) (hp : P) (e : q = some (some t, co ac C r)) (a : aTy ac r t ts g) : TO ac r C q P ts g := to_yes hp e ((GX.rf hF).up (by decide) (by decide)) a
theorem z_ar {f0 : Nat → Int32} {tg : Nat} (hz : out ac (z 0)) (hz0 : r.2.2 (z 0) = some (.inl (tg, 0, .inl f0))) : aAr ac r (z 0) [] := ⟨hz, tg, f0, hz0, fun i t h => by simp at h⟩
theorem o_0 {f0 : Nat → Int32} {tg a : Nat} (hF : FRS r) (hr : ac + 228 ≤ r.1) (hz : out ac (z 0)) (hz0 : r.2.2 (z 0) = some (.inl (tg, 0, .inl f0))) (H : aTy ac r th (tys T h) (tI T 5 h)) (ha : a < tN T 3 h) : TO ac r C (fX8_spliced z th (nI a) 1 (some (z 0)) (co ac C r)) True ((tys T h).take a ++ (tys T h).drop (a + 1)) (tI T 5 h) := by
  have hn := H.n
  obtain ⟨s1, -⟩ := c_spl (z := z) (C := C) (p := a) (c := 1) hF hr H (z_ar hz hz0) (by decide) (by rw [tys_len]; omega)
  obtain ⟨r2, t, e, G, a2⟩ := s1 (by rw [tys_len]; simp; omega)
  rw [List.append_nil] at a2
  exact to_yes trivial e (G.up (by decide) (by decide)) a2
theorem o_1 {a : Nat} {b : Int32} (hF : FRS r) (hr : ac + 228 ≤ r.1) (H : aTy ac r th (tys T h) (tI T 5 h)) (ha : a ≤ tN T 3 h) : TO ac r C ((nwI (co ac C r) 1).bind fun h117 => (awI h117 r.1 0 b).bind fun h119 => (obO h119 th 6).bind fun _ => (fX8_spliced z th (nI a) 0 (some r.1) h119).bind fun q120 => some (q120.1, q120.2)) (tN T 3 h < 6) ((tys T h).take a ++ b :: (tys T h).drop a) (tI T 5 h) := by
  have hn := H.n
  have e1 := a1 (ac := ac) (C := C) (r := r) (v := b) (show ac + 197 ≤ r.1 by omega)
  obtain ⟨x1, y1, e1⟩ := bnd e1
  rw [y1, o_bs, e1, o_bs]
  have G1 := GX.new hF (show ac ≤ r.1 by omega) 1 (.inl (0, 1, .inl (va_up (fun _ => (0 : Int32)) 0 b)))
  have H1 := H.gx G1
  have A1 : aAr ac (hnew r 1 (.inl (0, 1, .inl (va_up (fun _ => (0 : Int32)) 0 b)))) r.1 [b] := ⟨by unfold out; omega, 0, _, new_at _ _ _, fun i t hi => by
    match i, hi with
    | 0, hi => cases hi; rfl
    | i + 1, hi => simp at hi⟩
  obtain ⟨fs, ofs⟩ := t_ob (C := C) H1
  rw [ofs, o_bs]
  obtain ⟨s1, s2⟩ := c_spl (z := z) (C := C) (p := a) (c := 0) G1.1 (show ac + 228 ≤ r.1 + 1 by omega) H1 A1 (by simp) (by rw [tys_len]; omega)
  have el : (tys T h).length - 0 + [b].length = tN T 3 h + 1 := by rw [tys_len]; rfl
  rw [el] at s1 s2
  by_cases h6 : tN T 3 h < 6
  · obtain ⟨r2, t, e, G, a2⟩ := s1 (by omega)
    rw [nI_0] at e
    rw [e, o_bs]
    rw [List.append_assoc] at a2
    exact to_yes h6 rfl ((G1.tr G).up (by decide) (by decide)) a2
  · have e := s2 (by omega)
    rw [nI_0] at e
    rw [e, o_bs]
    exact ⟨fun q => absurd q h6, fun _ => ⟨_, rfl, G1.up (by decide) (by decide)⟩⟩
theorem t_at0 {a i : Nat} {g : Int32} (H : aTy ac r a (tys T h) g) (hi : i < tN T 3 h) : fX8_at z a (nI i) (co ac C r) = some (tI T 4 (6 * h + i), co ac C r) := t_at H (tys_at T hi)
theorem o_3 {f0 : Nat → Int32} {tg : Nat} (hF : FRS r) (hr : ac + 228 ≤ r.1) (hz : out ac (z 0)) (hz0 : r.2.2 (z 0) = some (.inl (tg, 0, .inl f0))) (H : aTy ac r th (tys T h) (tI T 5 h)) (X : aTy ac r tx (tys T x) (tI T 5 x)) (hg : isT (tI T 5 x)) : TO ac r C (fX6_folded z (some th) (some tx) (co ac C r)) ((if tI T 5 x = 4 then 0 else 1) + tN T 3 x ≤ tN T 3 h ∧ (tI T 5 x ≠ 4 → tI T 4 (6 * h) = tI T 5 x) ∧ tys T x = ((tys T h).drop (if tI T 5 x = 4 then 0 else 1)).take (tN T 3 x)) ((tys T h).drop (if tI T 5 x = 4 then 0 else 1)) (tI T 5 h) := by
  have hn := H.n
  have xn := X.n
  obtain ⟨fh, ofh⟩ := t_ob (C := C) H
  unfold fX6_folded
  rw [o_bs, t_gives X, o_bs]
  by_cases h4 : tI T 5 x = 4
  · simp only [if_pos h4]
    have hf := t_from (z := z) (C := C) (p := 0) H X (by decide)
    rw [nI_0, tys_len, tys_len, List.drop_zero] at hf
    rw [o_bs, ofh, o_bs, hf, o_bs, List.drop_zero]
    by_cases hc : 0 + tN T 3 x ≤ tN T 3 h ∧ (tys T h).take (tN T 3 x) = tys T x
    · rw [if_pos hc]
      simp only
      rw [if_neg (show ¬ (1 : Int32) = 0 by decide)]
      exact to_same hF ⟨hc.1, fun q => absurd rfl (by rw [h4] at q; exact q), hc.2.symm⟩ rfl H
    · rw [if_neg hc]
      simp only
      rw [if_pos trivial]
      exact to_no hF (fun q => hc ⟨q.1, q.2.2.symm⟩) rfl
  · simp only [if_neg h4]
    rw [o_bs, ofh, o_bs]
    by_cases h0 : tN T 3 h = 0
    · have e0 := t_atn (z := z) (C := C) (i := 0) H (by rw [tys_len]; omega) (by decide)
      rw [nI_0] at e0
      rw [e0, o_bs, t_gives X, o_bs, if_neg (show ¬ (-1 : Int32) = tI T 5 x from fun q => by
        rcases hg with w | w | w | w | w <;> rw [w] at q <;> exact absurd q (by decide))]
      exact to_no hF (fun q => by omega) rfl
    · have e0 := t_at0 (z := z) (C := C) (i := 0) H (by omega)
      rw [nI_0, Nat.add_zero] at e0
      rw [e0, o_bs, t_gives X, o_bs]
      by_cases hq : tI T 4 (6 * h) = tI T 5 x
      · have hf := t_from (z := z) (C := C) (p := 1) H X (by decide)
        rw [tys_len, tys_len] at hf
        have hf : fX8_hasFrom z th 1 (some tx) (co ac C r) = _ := hf
        rw [if_pos hq, ofh, o_bs, hf, o_bs]
        by_cases hc : 1 + tN T 3 x ≤ tN T 3 h ∧ ((tys T h).drop 1).take (tN T 3 x) = tys T x
        · rw [if_pos hc]
          simp only
          rw [if_neg (show ¬ (1 : Int32) = 0 by decide), ofh, o_bs]
          obtain ⟨s1, -⟩ := c_spl (z := z) (C := C) (p := 0) (c := 1) hF hr H (z_ar hz hz0) (by decide) (by rw [tys_len]; omega)
          obtain ⟨r2, t, e, G, a2⟩ := s1 (by rw [tys_len]; simp; omega)
          rw [nI_0] at e
          have e : fX8_spliced z th 0 1 (some (z 0)) (co ac C r) = _ := e
          rw [e, o_bs]
          rw [List.take_zero, List.nil_append, List.nil_append, Nat.zero_add] at a2
          exact to_yes ⟨hc.1, fun _ => hq, hc.2.symm⟩ rfl (G.up (by decide) (by decide)) a2
        · rw [if_neg hc]
          simp only
          rw [if_pos trivial]
          exact to_no hF (fun q => hc ⟨q.1, q.2.2.symm⟩) rfl
      · rw [if_neg hq]
        exact to_no hF (fun q => hq (q.2.1 h4)) rfl
theorem o_5 (hF : FRS r) (hr : ac + 228 ≤ r.1) (H : aTy ac r th (tys T h) (tI T 5 h)) (X : aTy ac r tx (tys T x) (tI T 5 x)) : TO ac r C (fX6_then z (some th) (some tx) (co ac C r)) (tN T 3 x = (if tI T 5 h = 4 then 0 else 1) ∧ ((if tI T 5 h = 4 then 0 else 1) = 1 → tI T 4 (6 * x) = tI T 5 h)) (tys T h) (tI T 5 x) := by
  have hn := H.n
  have xn := X.n
  obtain ⟨fx, ofx⟩ := t_ob (C := C) X
  have cx := t_count (z := z) (C := C) X
  rw [tys_len] at cx
  have y48 : ∃ r2 t, fX6_then_48 z (some th) (some tx) 1 (co ac C r) = some (some t, co ac C r2) ∧ GX ac 4 20 r r2 ∧ aTy ac r2 t (tys T h) (tI T 5 x) := by
    have G1 := GX.new hF (show ac ≤ r.1 by omega) 2 (.inr (6, dz6))
    obtain ⟨kt, hkt, rkt⟩ := (H.gx G1).ar
    obtain ⟨ho, tg, f, hk, hf⟩ := hkt
    obtain ⟨i1, i2⟩ := c_tnew (ac := ac) (z := z) (C := C) (r := hnew r 2 (.inr (6, dz6))) (a := r.1) (k := kt) (ts := tys T h) (g := tI T 5 x) (by unfold out; omega) (by omega) (new_at r _ _) ho hk (by rw [tys_len]; omega) hf
    refine ⟨_, r.1, ?_, ?_, i2⟩
    · unfold fX6_then_48
      rw [if_neg (by decide), o_bs, co_hnew (by omega), rkt, o_bs, o_bs, t_gives (X.gx G1), o_bs]
      show ((fX8_init z r.1 (some kt) (tI T 5 x) (co ac C (hnew r 2 (.inr (6, dz6))))).bind fun q105 => some (some r.1, q105)) = _
      rw [i1, o_bs]
    · exact (G1.hup (hF r.1 (Nat.le_refl _)) (new_at r _ _) (by omega)).up (by decide) (by decide)
  have n48 : fX6_then_48 z (some th) (some tx) 0 (co ac C r) = some (none, co ac C r) := by
    unfold fX6_then_48
    rw [if_pos rfl]
  obtain ⟨r2, t, ey, G, a2⟩ := y48
  unfold fX6_then fX6_then_47
  rw [o_bs, t_gives H, o_bs]
  by_cases h4 : tI T 5 h = 4
  · simp only [if_pos h4]
    rw [o_bs, ofx, o_bs, cx, o_bs]
    by_cases h0 : tN T 3 x = 0
    · simp only
      rw [if_pos (show nI (tN T 3 x) = 0 by rw [h0]; rfl)]
      exact to_yes ⟨h0, fun q => absurd q (by decide)⟩ ey G a2
    · simp only
      rw [if_neg (nI_ne0 (by omega) (by omega))]
      exact to_no hF (fun q => h0 q.1) n48
  · simp only [if_neg h4]
    rw [o_bs, ofx, o_bs, cx, o_bs]
    by_cases h1 : tN T 3 x = 1
    · simp only
      have e0 := t_at0 (z := z) (C := C) (i := 0) X (by omega)
      rw [nI_0, Nat.add_zero] at e0
      rw [if_pos (show nI (tN T 3 x) = 1 by rw [h1]; rfl), ofx, o_bs, e0, o_bs, t_gives H, o_bs]
      by_cases hq : tI T 4 (6 * x) = tI T 5 h
      · rw [if_pos hq]
        exact to_yes ⟨h1, fun _ => hq⟩ ey G a2
      · rw [if_neg hq]
        exact to_no hF (fun q => hq (q.2 trivial)) n48
    · simp only
      rw [if_neg (show ¬ nI (tN T 3 x) = 1 from fun e => h1 ((nI_eq (b := 1) (by omega) (by decide)).mp e))]
      exact to_no hF (fun q => h1 q.1) n48
theorem c_tna (H : aTy ac r th (tys T h) (tI T 5 h)) (X : aTy ac r tx (tys T x) (tI T 5 x)) : (tN T 3 x = tN T 3 h + 1 ∧ tI T 4 (6 * x) = 0 ∧ (tys T x).drop 1 = tys T h → fX6_takesNumberAnd z (some tx) (some th) (co ac C r) = some (1, co ac C r)) ∧ (¬ (tN T 3 x = tN T 3 h + 1 ∧ tI T 4 (6 * x) = 0 ∧ (tys T x).drop 1 = tys T h) → fX6_takesNumberAnd z (some tx) (some th) (co ac C r) = some (0, co ac C r)) := by
  have hn := H.n
  have xn := X.n
  obtain ⟨fx, ofx⟩ := t_ob (C := C) X
  obtain ⟨fh, ofh⟩ := t_ob (C := C) H
  have cx := t_count (z := z) (C := C) X
  rw [tys_len] at cx
  have ch := t_count (z := z) (C := C) H
  rw [tys_len] at ch
  unfold fX6_takesNumberAnd fX6_takesNumberAnd_e
  simp only [o_bs, ofx, cx, ofh, ch, nI_1]
  by_cases h1 : tN T 3 x = tN T 3 h + 1
  · have e0 := t_at0 (z := z) (C := C) (i := 0) X (by omega)
    rw [nI_0, Nat.add_zero] at e0
    rw [if_pos (show nI (tN T 3 x) = nI (tN T 3 h + 1) by rw [h1]), e0, o_bs]
    simp only
    by_cases h0 : tI T 4 (6 * x) = 0
    · have hf := t_from (z := z) (C := C) (p := 1) X H (by decide)
      rw [tys_len, tys_len] at hf
      have hf : fX8_hasFrom z tx 1 (some th) (co ac C r) = _ := hf
      have et : ((tys T x).drop 1).take (tN T 3 h) = (tys T x).drop 1 := List.take_of_length_le (by rw [List.length_drop, tys_len]; omega)
      rw [if_pos h0, ofx, o_bs, hf, o_bs, et]
      by_cases hq : (tys T x).drop 1 = tys T h
      · rw [if_pos (show 1 + tN T 3 h ≤ tN T 3 x ∧ (tys T x).drop 1 = tys T h from ⟨by omega, hq⟩)]
        exact ⟨fun _ => chk_1 _, fun q => absurd ⟨h1, h0, hq⟩ q⟩
      · rw [if_neg (show ¬ (1 + tN T 3 h ≤ tN T 3 x ∧ (tys T x).drop 1 = tys T h) from fun q => hq q.2)]
        exact ⟨fun q => absurd q.2.2 hq, fun _ => chk_0 _⟩
    · rw [if_neg h0]
      exact ⟨fun q => absurd q.2.1 h0, fun _ => chk_0 _⟩
  · rw [if_neg (fun e => h1 ((nI_eq (by omega) (by omega)).mp e))]
    exact ⟨fun q => absurd q.1 h1, fun _ => chk_0 _⟩
end
