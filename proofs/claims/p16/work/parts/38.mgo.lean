/-! THE REFERENCE: its loop, a round of it. My own rows. -/
def RCb (k : Nat) : Bool := k == 13 || k == 14 || k == 15 || k == 25 || (Nat.ble 29 k && Nat.ble k 46)
theorem rc_of {f : Nat → Bool} {S S2 : mS} (h : eqB f S S2) (hf : ∀ k, k < 47 → RCb k = false → f k = false) (h47 : ∀ k, 47 ≤ k → f k = false) : eqB RCb S S2 := h.mono fun k hk => by
  rcases Nat.lt_or_ge k 47 with h1 | h1
  · exact hf k h1 hk
  · exact h47 k h1
/-- the loop goes from S to S2 in k rounds -/
def GO (S S2 : mS) (k : Nat) : Prop := ∀ N, gX11_goes_0 (N + k) S = gX11_goes_0 N S2
theorem GO.rf {S : mS} : GO S S 0 := fun _ => rfl
theorem GO.tr {S S2 S3 : mS} {k k2 : Nat} (h : GO S S2 k) (h2 : GO S2 S3 k2) : GO S S3 (k + k2) := fun N => by rw [show N + (k + k2) = (N + k2) + k by omega, h, h2]
theorem nI_p1 (p : Nat) : nI (p + 1) - 1 = nI p := nI_pred p
theorem it_other {S S2 : mS} {p c : Nat} {F s : Int32} (h33 : S.1 33 = nI (p + 1)) (hp : p < 80) (hof : S.2.2.1 35 p = nI c) (hc : c < 60) (hF : S.2.2.1 2 c = F) (hF20 : 20 ≤ F) (hst : S.2.2.1 36 p = s) (hs : s ≤ 0 ∨ (s ≠ 9 ∧ (S.1 29 ≤ 0 ∨ F = 27 ∨ F = 28))) (e : gX11_oneOther (nI p) (nI c) S = some S2) : GO S S2 1 := by
  intro N
  have e117 : gX11_goes_117 (gX11_goes_0 N) (nI p) S = gX11_goes_0 N S2 := by
    unfold gX11_goes_117
    rw [mrA_n S 35 _ (by rw [ml_35]; omega) (by omega), o_bs, hof, e, o_bs]
  have h9 : s ≠ 9 := by
    rcases hs with h | h
    · intro q; rw [q] at h; exact absurd h (by decide)
    · exact h.1
  rw [gX11_goes_0, h33, if_neg (nI_nle (by omega) (by omega)), nI_p1, mrA_n S 35 _ (by rw [ml_35]; omega) (by omega), o_bs, hof, mrA_n S 2 _ (by rw [ml_2]; omega) (by omega), o_bs, hF, if_pos hF20, mrA_n S 36 _ (by rw [ml_36]; omega) (by omega), o_bs, hst, if_neg h9]
  show (Option.bind (some s) fun x104 => _) = _
  rw [o_bs]
  by_cases h0 : s ≤ 0
  · rw [if_pos h0]; exact e117
  · rw [if_neg h0]
    rcases hs with h | ⟨-, h⟩
    · exact absurd h h0
    · by_cases h29 : S.1 29 ≤ 0
      · rw [if_pos h29]; exact e117
      · rw [if_neg h29]
        show (Option.bind (some (nI c)) fun x105 => _) = _
        rw [o_bs, mrA_n S 2 _ (by rw [ml_2]; omega) (by omega), o_bs, hF]
        by_cases h27 : F = 27
        · rw [if_pos h27]; exact e117
        · rw [if_neg h27]
          show (Option.bind (some (nI c)) fun x107 => _) = _
          rw [o_bs, mrA_n S 2 _ (by rw [ml_2]; omega) (by omega), o_bs, hF]
          rcases h with h | h | h
          · exact absurd h h29
          · exact absurd h h27
          · rw [if_pos h]; exact e117
theorem it_over {S : mS} {p c : Nat} {F s : Int32} (h33 : S.1 33 = nI (p + 1)) (hp : p < 80) (hof : S.2.2.1 35 p = nI c) (hc : c < 60) (hF : S.2.2.1 2 c = F) (hF20 : 20 ≤ F) (hst : S.2.2.1 36 p = s) (hs : s = 9 ∨ (¬ s ≤ 0 ∧ ¬ S.1 29 ≤ 0 ∧ F ≠ 27 ∧ F ≠ 28)) : ∃ S2, GO S S2 1 ∧ S2.1 33 = nI p ∧ S2.1 29 = S.1 29 ∧ S2.1 30 = S.1 30 ∧ S2.2.1 31 = S.2.1 31 ∧ eqB (fun k => k == 33 || k == 34) S S2 := by
  obtain ⟨S2, e, b1, b2, b3, b4, q⟩ := e_over h33
  refine ⟨S2, fun N => ?_, b1, b2, b3, b4, q⟩
  rw [gX11_goes_0, h33, if_neg (nI_nle (by omega) (by omega)), nI_p1, mrA_n S 35 _ (by rw [ml_35]; omega) (by omega), o_bs, hof, mrA_n S 2 _ (by rw [ml_2]; omega) (by omega), o_bs, hF, if_pos hF20, mrA_n S 36 _ (by rw [ml_36]; omega) (by omega), o_bs, hst]
  by_cases h9 : s = 9
  · rw [if_pos h9, e, o_bs]
  · rw [if_neg h9]
    rcases hs with h | ⟨g1, g2, g3, g4⟩
    · exact absurd h h9
    · show (Option.bind (some s) fun x104 => _) = _
      rw [o_bs, if_neg g1, if_neg g2]
      show (Option.bind (some (nI c)) fun x105 => _) = _
      rw [o_bs, mrA_n S 2 _ (by rw [ml_2]; omega) (by omega), o_bs, hF, if_neg g3]
      show (Option.bind (some (nI c)) fun x107 => _) = _
      rw [o_bs, mrA_n S 2 _ (by rw [ml_2]; omega) (by omega), o_bs, hF, if_neg g4, e, o_bs]
theorem it_plain {S S2 : mS} {p c : Nat} {F : Int32} (h33 : S.1 33 = nI (p + 1)) (hp : p < 80) (hof : S.2.2.1 35 p = nI c) (hc : c < 60) (hF : S.2.2.1 2 c = F) (hF20 : ¬ 20 ≤ F) (e : gX11_plainly (nI p) (nI c) S = some S2) : GO S S2 1 := by
  intro N
  rw [gX11_goes_0, h33, if_neg (nI_nle (by omega) (by omega)), nI_p1, mrA_n S 35 _ (by rw [ml_35]; omega) (by omega), o_bs, hof, mrA_n S 2 _ (by rw [ml_2]; omega) (by omega), o_bs, hF, if_neg hF20]
  show (Option.bind (some (nI c)) fun x111 => _) = _
  rw [o_bs, e, o_bs]
/-- how a call ends -/
def BK (S S2 : mS) (p : Nat) (f : Int32) (v : aVl) (R2 : aRS) : Prop := S2.1 33 = nI p ∧ S2.1 29 = f ∧ (f = 0 → S2.1 30 = v.1 ∧ S2.2.1 31 = v.2) ∧ RSt R2 S2 ∧ FR p S S2 ∧ eqB RCb S S2
/-- what is to be proved of a run's function -/
def MR (T : mS) (nh : Nat) (rec : aRec) : Prop := ∀ (c : Nat) (as : List aVl) (R : aRS) (f : Int32) (v : aVl) (R2 : aRS), rec c as R = some (f, v, R2) → c < nh → as.length = tN T 3 c → 0 ≤ f ∧ R.1 < R2.1 ∧ ∀ (S : mS) (p : Nat), TB T S → RSt R S → AB S as → S.1 33 = nI p → p ≤ R.1 →
  ∃ S1 S2 k, gX11_calls (nI c) S = some S1 ∧ GO S1 S2 k ∧ BK S S2 p f v R2 ∧ k + 1 ≤ 2 * (R2.1 - R.1)
/-- a frame that stands: p, of handle c, with its values, at a stage -/
def FS (T S : mS) (p c : Nat) (as : List aVl) (R : aRS) (s : Int32) : Prop := S.1 33 = nI (p + 1) ∧ S.2.2.1 35 p = nI c ∧ S.2.2.1 36 p = s ∧ FV S p as ∧ TB T S ∧ RSt R S
/-- how a frame comes to its end -/
def FE (S : mS) (p : Nat) (f : Int32) (v : aVl) (R R2 : aRS) : Prop := ∃ S2 k, GO S S2 k ∧ BK S S2 p f v R2 ∧ k ≤ 2 * (R2.1 - R.1) + 1
theorem tb_form {T S : mS} (h : TB T S) (c : Nat) : S.2.2.1 2 c = tI T 2 c := by rw [(h 2 (by decide) (by decide)).1]
theorem rc_34 {S S2 : mS} (h : eqB (fun k => k == 33 || k == 34) S S2) : eqB RCb S S2 := rc_of h (by decide +kernel) (fun k hk => by simp; omega)
theorem fr_34 {S S2 : mS} {p : Nat} (h : eqB (fun k => k == 33 || k == 34) S S2) : FR p S S2 := FR.eq h (fun k h1 h2 => by simp; omega)
/-- a frame whose stage is 9, or that failed: it is over -/
theorem fe_over {T S : mS} {p c : Nat} {as : List aVl} {R : aRS} {s : Int32} {f : Int32} {v : aVl} (h : FS T S p c as R s) (hp : p < 80) (hc : c < 60) (hF20 : 20 ≤ tI T 2 c) (hf : S.1 29 = f) (hv : f = 0 → S.1 30 = v.1 ∧ S.2.1 31 = v.2) (hs : s = 9 ∨ (¬ s ≤ 0 ∧ ¬ f ≤ 0 ∧ tI T 2 c ≠ 27 ∧ tI T 2 c ≠ 28)) : FE S p f v R R := by
  obtain ⟨h33, hof, hst, hFV, hTB, hR⟩ := h
  obtain ⟨S2, g, b1, b2, b3, b4, q⟩ := it_over h33 hp hof hc (tb_form hTB c) hF20 hst (by rw [hf]; exact hs)
  exact ⟨S2, 1, g, ⟨b1, b2.trans hf, fun z => ⟨b3.trans (hv z).1, b4.trans (hv z).2⟩, hR.eq q rfl rfl rfl rfl rfl, fr_34 q, rc_34 q⟩, by omega⟩
/-- a round that calls another handle: behind it the frame stands again -/
theorem sub_ {T S S1 : mS} {nh p c x : Nat} {as as2 : List aVl} {R R1 R2 : aRS} {s s1 f : Int32} {v : aVl} {rec : aRec} (ih : MR T nh rec) (h : FS T S p c as R s) (h7 : as.length ≤ 7) (hp : p < 80) (hc : c < 60) (hF20 : 20 ≤ tI T 2 c) (hs : s ≤ 0 ∨ (s ≠ 9 ∧ (S.1 29 ≤ 0 ∨ tI T 2 c = 27 ∨ tI T 2 c = 28)))
    (he : gX11_oneOther (nI p) (nI c) S = gX11_calls (nI x) S1) (h1 : FS T S1 p c as R1 s1) (hA : AB S1 as2) (hr : rec x as2 R1 = some (f, v, R2)) (hx : x < nh) (hl : as2.length = tN T 3 x) (hR1 : R1.1 = R.1) (hpR : p + 1 ≤ R.1) (hfr : FR p S S1) (hq : eqB RCb S S1) :
    0 ≤ f ∧ R1.1 < R2.1 ∧ ∃ S2 k, GO S S2 k ∧ FS T S2 p c as R2 s1 ∧ S2.1 29 = f ∧ (f = 0 → S2.1 30 = v.1 ∧ S2.2.1 31 = v.2) ∧ FR p S S2 ∧ FR (p + 1) S1 S2 ∧ eqB RCb S S2 ∧ k ≤ 2 * (R2.1 - R.1) := by
  obtain ⟨a33, aof, ast, aFV, aTB, aR⟩ := h1
  obtain ⟨hf0, hlt, ih2⟩ := ih x as2 R1 f v R2 hr hx hl
  obtain ⟨S2, S3, k, e2, g2, ⟨b33, b29, bv, bR, bF, bq⟩, hk⟩ := ih2 S1 (p + 1) aTB aR hA a33 (by rw [hR1]; exact hpR)
  refine ⟨hf0, hlt, S3, 1 + k, (it_other h.1 hp h.2.1 hc (tb_form h.2.2.2.2.1 c) hF20 h.2.2.1 hs (he.trans e2)).tr g2, ⟨b33, ?_, ?_, ?_, ?_, bR⟩, b29, bv, hfr.tr (bF.mono (by omega)), bF, hq.tr bq, by rw [hR1] at hk; omega⟩
  · rw [← (bF.1 p (by omega)).1]; exact aof
  · rw [← (bF.1 p (by omega)).2.1]; exact ast
  · intro i w hi
    have hil : i < as.length := (List.getElem?_eq_some_iff.mp hi).1
    obtain ⟨d1, d2⟩ := bF.2 (7 * p + i) (by omega)
    rw [← d1, ← d2]
    exact aFV i w hi
  · exact aTB.eq bq (fun k h1 h2 => by simp [RCb]; omega)
/-- a round that is the last one of its frame: the handle x is done with as2, and its end is the frame's -/
theorem last_ {T S S1 : mS} {nh p c x : Nat} {as as2 : List aVl} {R R1 R2 : aRS} {s s1 f : Int32} {v : aVl} {rec : aRec} (ih : MR T nh rec) (h : FS T S p c as R s) (h7 : as.length ≤ 7) (hp : p < 80) (hc : c < 60) (hF20 : 20 ≤ tI T 2 c) (hs : s ≤ 0 ∨ (s ≠ 9 ∧ (S.1 29 ≤ 0 ∨ tI T 2 c = 27 ∨ tI T 2 c = 28)))
    (he : gX11_oneOther (nI p) (nI c) S = (gX11_last (nI p) (nI x) S1).bind fun q => some q) (h1 : FS T S1 p c as R1 s1) (hA : AB S1 as2) (hr : rec x as2 R1 = some (f, v, R2)) (hx : x < nh) (hl : as2.length = tN T 3 x) (hR1 : R1.1 = R.1) (hpR : p + 1 ≤ R.1) (hfr : FR p S S1) (hq : eqB RCb S S1) : 0 ≤ f ∧ R.1 < R2.1 ∧ FE S p f v R R2 := by
  have e1 : (gX11_last (nI p) (nI x) S1).bind (fun q => some q) = gX11_calls (nI x) (sA S1 36 p 9) := by
    unfold gX11_last
    rw [mwA_n S1 36 _ _ (by rw [ml_36]; omega) (by omega), o_bs]
    cases gX11_calls (nI x) (sA S1 36 p 9) <;> rfl
  have q1 : eqB (fun k => k == 36) S1 (sA S1 36 p 9) := eqB.A rfl
  have h2 : FS T (sA S1 36 p 9) p c as R1 9 := ⟨h1.1, by rw [← (q1 35 rfl).2.2.1]; exact h1.2.1, by simp [sA, va_up], h1.2.2.2.1.eq q1 rfl rfl, h1.2.2.2.2.1.eq q1 (fun k g1 g2 => by simp; omega), h1.2.2.2.2.2.eq q1 rfl rfl rfl rfl rfl⟩
  have f1 : FR p S1 (sA S1 36 p 9) := ⟨fun j hj => ⟨rfl, by simp only [sA, va_up, if_true]; rw [if_neg (by omega)], rfl, rfl, rfl, rfl, rfl⟩, fun j _ => ⟨rfl, rfl⟩⟩
  have r1 : eqB RCb S1 (sA S1 36 p 9) := rc_of q1 (by decide +kernel) (fun k hk => by simp; omega)
  obtain ⟨hf0, hlt, S2, k, g, hFS, b29, bv, bFR, -, bq, hk⟩ := sub_ ih h h7 hp hc hF20 hs (he.trans e1) h2 ⟨hA.1, hA.2⟩ hr hx hl hR1 hpR (hfr.tr f1) (hq.tr r1)
  obtain ⟨S3, k3, g3, ⟨c33, c29, cv, cR, cF, cq⟩, hk3⟩ := fe_over hFS hp hc hF20 b29 bv (Or.inl rfl)
  have hk1 : k3 ≤ 1 := by simpa using hk3
  exact ⟨hf0, by omega, S3, k + k3, g.tr g3, ⟨c33, c29, cv, cR, bFR.tr cF, bq.tr cq⟩, by omega⟩
