/-! THE REFERENCE: tells, runs, run. My own rows. -/
/-- the types of the table are types -/
def WA (T : mS) (nh : Nat) : Prop := ∀ c, c < nh → isT (tI T 5 c) ∧ ∀ k, k < tN T 3 c → (tI T 4 (6 * c + k) = 0 ∨ tI T 4 (6 * c + k) = 1 ∨ tI T 4 (6 * c + k) = 2 ∨ tI T 4 (6 * c + k) = 3)
theorem lay_vts {T : mS} {nr c : Nat} {ex : Int32} : ∀ (n k : Nat) (l : List aVl), l.length = n → (∀ j, k ≤ j → j < k + n → (tI T 4 (6 * c + j) = 0 ∨ tI T 4 (6 * c + j) = 1 ∨ tI T 4 (6 * c + j) = 2 ∨ tI T 4 (6 * c + j) = 3)) → (∀ v, v ∈ l → VK nr v) → wrL T c ex k l = false → (layL T c k l).1 = 0 → VTs nr ((List.range' k n).map fun j => tI T 4 (6 * c + j)) (layL T c k l).2 := by
  intro n
  induction n with
  | zero =>
    intro k l hl _ _ _ _
    have : l = [] := List.length_eq_zero_iff.mp hl
    subst this
    exact trivial
  | succ n ih =>
    intro k l hl ht hv hw h0
    cases l with
    | nil => simp at hl
    | cons v ws =>
      rw [List.range'_succ, List.map_cons]
      unfold wrL at hw
      rw [Bool.or_eq_false_iff] at hw
      unfold layL at h0 ⊢
      by_cases hz : (adS (lyF v.1 (tI T 4 (6 * c + k))) (tI T 4 (6 * c + k)) v.1 v.2).1 = 0
      · rw [if_pos hz] at h0 ⊢
        exact ⟨ly_vt (hv v (by simp)) (ht k (by omega) (by omega)) hw.1 hz, ih (k + 1) ws (by simpa using hl) (fun j h1 h2 => ht j (by omega) (by omega)) (fun w hw => hv w (by simp [hw])) hw.2 h0⟩
      · rw [if_neg hz] at h0
        exact absurd h0 hz
/-- the result of a run, as it is told -/
def TL (S S2 : mS) (f : Int32) (v : aVl) : Prop := S2.1 26 = f ∧ S2.1 23 = (if f = 0 then v.1 else 3) ∧ S2.2.1 24 = (if f = 0 then v.2 else 0) ∧ eqB (fun k => k == 23 || k == 24 || k == 26) S S2
def tlR (f : Int32) : Int32 := if f = 0 then 1 else -10 - f
theorem vt_30 {nr : Nat} {t : Int32} {v : aVl} (ht : isT t) (h : VT nr t v) (h3 : v.1 = 3) : v = (3, 0) := by
  rcases ht with z | z | z | z | z
  · exact absurd ((h.1 z).1.symm.trans h3) (by decide)
  · exact absurd ((h.2.1 z).symm.trans h3) (by decide)
  · rcases h.2.2.1 z with a | a | a
    · exact absurd (a.1.symm.trans h3) (by decide)
    · exact absurd (a.symm.trans h3) (by decide)
    · exact a
  · rcases h.2.2.2.1 z with a | a
    · exact absurd (a.1.symm.trans h3) (by decide)
    · exact a
  · exact h.2.2.2.2 z
theorem g_tells {T S : mS} {nh nr c : Nat} {f : Int32} {v : aVl} (hA : WA T nh) (hcn : c < nh) (hc : c < 60) (hT : TB T S) (h29 : S.1 29 = f) (hf0 : 0 ≤ f) (hv : f = 0 → S.1 30 = v.1 ∧ S.2.1 31 = v.2 ∧ VT nr (tI T 5 c) v) : ∃ S2, gX11_tells (nI c) S = some (tlR f, S2) ∧ TL S S2 f v := by
  unfold gX11_tells tlR TL
  have a29 : (sI S 26 (S.1 29)).1 29 = f := by simpa [sI, va_up] using h29
  rw [a29]
  by_cases hz : f = 0
  · rw [if_pos (by rw [hz]; decide), mrA_n _ 5 _ (by rw [ml_5]; omega) (by omega), o_bs, show (sI S 26 (S.1 29)).2.2.1 5 c = tI T 5 c by show S.2.2.1 5 c = _; rw [(hT 5 (by decide) (by decide)).1], if_pos hz]
    obtain ⟨v1, v2, v3⟩ := hv hz
    have q1 : ∀ (w : Int32) (y : Int64), eqB (fun k => k == 23 || k == 24 || k == 26) S (sJ (sI (sI S 26 (S.1 29)) 23 w) 24 y) := fun w y => (eqB.I rfl).tr ((eqB.I rfl).tr (eqB.J rfl))
    have key : ∀ w : Int32, w = v.1 → ∃ S2, gX11_tells_52 w (sI S 26 (S.1 29)) = some (1, S2) ∧ S2.1 26 = f ∧ S2.1 23 = v.1 ∧ S2.2.1 24 = v.2 ∧ eqB (fun k => k == 23 || k == 24 || k == 26) S S2 := by
      intro w hw
      unfold gX11_tells_52
      by_cases h3 : w = 3
      · have e3 := vt_30 (hA c hcn).1 v3 (hw.symm.trans h3)
        rw [if_pos (by simpa [sI, va_up] using h3)]
        exact ⟨_, rfl, by simpa [sJ, sI, va_up] using h29, by simpa [sJ, sI, va_up] using hw, by rw [e3]; simp [sJ, va_up], q1 _ _⟩
      · rw [if_neg (by simpa [sI, va_up] using h3)]
        exact ⟨_, rfl, by simpa [sJ, sI, va_up] using h29, by simpa [sJ, sI, va_up] using hw, by simpa [sJ, sI, va_up] using v2, q1 _ _⟩
    simp only [hz, if_true] at key ⊢
    by_cases h4 : tI T 5 c = 4
    · rw [if_pos h4]
      exact key 3 (by rw [v3.2.2.2.2 h4])
    · rw [if_neg h4]
      exact key _ (by simpa [sI, va_up] using v1)
  · rw [if_neg (i32_pos hf0 hz), if_neg hz, if_neg hz, if_neg hz]
    refine ⟨_, by rw [show (sJ (sI (sI S 26 (S.1 29)) 23 3) 24 0).1 29 = f by simpa [sJ, sI, va_up] using h29], ?_, ?_, ?_, (eqB.I rfl).tr ((eqB.I rfl).tr (eqB.J rfl))⟩
    · simpa [sJ, sI, va_up] using h29
    · simp [sJ, sI, va_up]
    · simp [sJ, sI, va_up]
/-- what a run of handle c with the values at hand does -/
def rnS (T : mS) (c : Nat) (vs : List aVl) (R : aRS) : Option aRes := if (layL T c 0 vs).1 = 0 then sp T 82 c (layL T c 0 vs).2 R else some (bad (layL T c 0 vs).1 R)
/-- all fields that a run may change -/
def fRun (k : Nat) : Bool := RCb k
theorem fAd_R (k : Nat) (h : RCb k = false) : fAd k = false := by
  rcases Nat.lt_or_ge k 47 with h1 | h1
  · revert h
    revert k
    decide +kernel
  · simp [fAd, fArg, fCame]; omega
theorem g_runs {T S : mS} {nh nr c : Nat} {ex : Int32} {vs : List aVl} {R : aRS} (hW : WT T nh) (hB : WB T nh) (hY : WY T nh nr) (hA : WA T nh) (hc : c < nh) (hR : RT R) (hn : nr ≤ R.2.1) (hT : TB T S) (hS : RSt R S) (hV : VA S vs) (hK : ∀ v, v ∈ vs → VK R.2.1 v) (hl : vs.length = tN T 3 c) (hw : wrL T c ex 0 vs = false) (hle : R.1 ≤ 80) :
    ∃ (f : Int32) (v : aVl) (R2 : aRS) (S2 : mS), rnS T c vs R = some (f, v, R2) ∧ gX11_runs (nI c) S = some S2 ∧ S2.1 29 = f ∧ (f = 0 → S2.1 30 = v.1 ∧ S2.2.1 31 = v.2 ∧ VT R2.2.1 (tI T 5 c) v) ∧ RSt R2 S2 ∧ eqB RCb S S2 ∧ 0 ≤ f ∧ RT R2 ∧ R.2.1 ≤ R2.2.1 ∧ R.1 ≤ R2.1 ∧ (f = 0 → R2.1 ≤ 80) := by
  have hc60 : c < 60 := Nat.lt_of_lt_of_le hc hW.1
  obtain ⟨S1, e1, a29, q1, hAB⟩ := g_lay hc60 hT hV
  have hT1 : TB T S1 := hT.eq q1 (fun k h1 h2 => by simp [fAd, fArg, fCame]; omega)
  have hS1 : RSt R S1 := hS.eq q1 rfl rfl rfl rfl rfl
  unfold gX11_runs rnS
  rw [e1, o_bs, a29]
  by_cases hz : (layL T c 0 vs).1 = 0
  · rw [if_pos hz, if_pos hz]
    have q2 : eqB (fun k => k == 33) S1 (sI S1 33 0) := eqB.I rfl
    have hvt : VTs R.2.1 (tys T c) (layL T c 0 vs).2 := by
      unfold tys
      rw [List.range_eq_range']
      exact lay_vts (ex := ex) (tN T 3 c) 0 vs hl (fun j _ h2 => (hA c hc).2 j (by omega)) hK hw hz
    obtain ⟨f, v, R2, S2, S3, g1, g2, g3, ⟨b33, b29, bv, bR, bF, bq⟩, hf0, r1, r2, r3, r4⟩ := g_go hW hB hY hc hvt hR hn (hT1.eq q2 (fun k h1 h2 => by simp; omega)) (hS1.eq q2 rfl rfl rfl rfl rfl) ((hAB hz).eq q2 rfl rfl rfl) (by simp [sI, va_up]) hle
    refine ⟨f, v, R2, S3, g1, by rw [g2, o_bs, g3, o_bs], b29, fun z => ⟨(bv z).1, (bv z).2, (r4 z).1⟩, bR, ((q1.mono fAd_R).tr (rc_of q2 (by decide +kernel) (fun k hk => by simp; omega))).tr bq, hf0, r1, r2, r3, fun z => (r4 z).2⟩
  · rw [if_neg hz, if_neg hz]
    exact ⟨_, _, _, S1, rfl, rfl, a29, fun z => absurd z hz, hS1, q1.mono fAd_R, layL_0 _ _ _ _, hR, Nat.le_refl _, Nat.le_refl _, fun z => absurd z hz⟩
