/-! THE REFERENCE: plainly does what spP says. My own rows. -/
def TB (T S : mS) : Prop := ∀ k, 2 ≤ k → k ≤ 12 → S.2.2.1 k = T.2.2.1 k ∧ S.2.2.2 k = T.2.2.2 k
theorem TB.eq {T S S2 : mS} {f : Nat → Bool} (h : TB T S) (he : eqB f S S2) (hf : ∀ k, 2 ≤ k → k ≤ 12 → f k = false) : TB T S2 := fun k h1 h2 => ⟨by rw [← (he k (hf k h1 h2)).2.2.1]; exact (h k h1 h2).1, by rw [← (he k (hf k h1 h2)).2.2.2]; exact (h k h1 h2).2⟩
def RSt (R : aRS) (S : mS) : Prop := S.1 32 = nI (min R.1 80) ∧ S.1 13 = nI R.2.1 ∧ R.2.1 ≤ 60 ∧ S.2.2.1 14 = R.2.2.1 ∧ S.2.2.1 15 = R.2.2.2.1 ∧ S.1 25 = R.2.2.2.2
theorem RSt.eq {R : aRS} {S S2 : mS} {f : Nat → Bool} (h : RSt R S) (he : eqB f S S2) (h1 : f 32 = false) (h2 : f 13 = false) (h3 : f 14 = false) (h4 : f 15 = false) (h5 : f 25 = false) : RSt R S2 :=
  ⟨by rw [← (he 32 h1).1]; exact h.1, by rw [← (he 13 h2).1]; exact h.2.1, h.2.2.1, by rw [← (he 14 h3).2.2.1]; exact h.2.2.2.1, by rw [← (he 15 h4).2.2.1]; exact h.2.2.2.2.1, by rw [← (he 25 h5).1]; exact h.2.2.2.2.2⟩
theorem m_rrl {R : aRS} {S : mS} (h : RSt R S) (i : Int32) : mrA S 14 i = rrl R i := by rw [mrA, rrl, ml_14, h.2.2.2.1]
theorem m_rri {R : aRS} {S : mS} (h : RSt R S) (i : Int32) : mrA S 15 i = rri R i := by rw [mrA, rri, ml_15, h.2.2.2.2.1]
def fEnd (k : Nat) : Bool := k == 29 || k == 30 || k == 31 || k == 33 || k == 34
def fPl (k : Nat) : Bool := k == 13 || k == 14 || k == 15 || k == 25 || fEnd k
theorem fEnd_Pl (k : Nat) (h : fPl k = false) : fEnd k = false := by simp [fPl] at h; exact h.2
/-- the frame p is over -/
theorem e_over {S : mS} {p : Nat} (hS : S.1 33 = nI (p + 1)) : ∃ S2, gX11_over S = some S2 ∧ S2.1 33 = nI p ∧ S2.1 29 = S.1 29 ∧ S2.1 30 = S.1 30 ∧ S2.2.1 31 = S.2.1 31 ∧ eqB (fun k => k == 33 || k == 34) S S2 :=
  ⟨_, rfl, by simp [sI, va_up, hS, nI_pred], by simp [sI, va_up], by simp [sI, va_up], rfl, (eqB.I rfl).tr (eqB.I rfl)⟩
theorem f34_End (k : Nat) (h : fEnd k = false) : (k == 33 || k == 34) = false := by simp [fEnd] at h; simp; omega
theorem fCame_End (k : Nat) (h : fEnd k = false) : fCame k = false := by simp [fEnd] at h; simp [fCame]; omega
theorem e_comes {S : mS} {p : Nat} (hS : S.1 33 = nI (p + 1)) (kd : Int32) (v : Int64) : ∃ S2, ((gX11_comes kd v S).bind fun q => (gX11_over q).bind fun q2 => some q2) = some S2 ∧ S2.1 33 = nI p ∧ S2.1 29 = 0 ∧ S2.1 30 = kd ∧ S2.2.1 31 = v ∧ eqB fEnd S S2 := by
  obtain ⟨S1, e1, a1, a2, a3, q1⟩ := g_comes kd v S
  obtain ⟨S2, e2, b1, b2, b3, b4, q2⟩ := e_over (S := S1) (p := p) (by rw [← (q1 33 rfl).1]; exact hS)
  exact ⟨S2, by rw [e1, o_bs, e2, o_bs], b1, b2.trans a1, b3.trans a2, b4.trans a3, (q1.mono fCame_End).tr (q2.mono f34_End)⟩
theorem e_fail {S : mS} {p : Nat} (hS : S.1 33 = nI (p + 1)) (f : Int32) : ∃ S2, ((gX11_over (sI S 29 f)).bind fun q2 => some q2) = some S2 ∧ S2.1 33 = nI p ∧ S2.1 29 = f ∧ eqB fEnd S S2 := by
  obtain ⟨S2, e2, b1, b2, b3, b4, q2⟩ := e_over (S := sI S 29 f) (p := p) hS
  exact ⟨S2, by rw [e2, o_bs], b1, b2.trans (by simp [sI, va_up]), (eqB.I rfl).tr (q2.mono f34_End)⟩
theorem zr_up (f : Nat → Int32) (b m : Nat) : va_up (zr f b m) (b + m) 0 = zr f b (m + 1) := by
  funext i
  simp only [va_up, zr]
  by_cases h : i = b + m
  · rw [if_pos h, if_pos (by omega)]
  · rw [if_neg h]
    by_cases h2 : b ≤ i ∧ i < b + m
    · rw [if_pos h2, if_pos (by omega)]
    · rw [if_neg h2, if_neg (by omega)]
theorem zr_0 (f : Nat → Int32) (b : Nat) : zr f b 0 = f := by
  funext i
  simp only [zr]
  rw [if_neg (by omega)]
def f15 (k : Nat) : Bool := k == 15
theorem g_newRow_24 {r : Nat} (hr : r < 60) (L : Nat) (hL : L ≤ 20) (f0 : Nat → Int32) : ∀ (m n a : Nat) (S : mS), a + m = L → m < n → S.2.2.1 15 = zr f0 (20 * r) a → ∃ S2, gX11_newRow_24 n (nI L) (nI r) (nI a) S = some (nI r, S2) ∧ S2.2.2.1 15 = zr f0 (20 * r) L ∧ eqB f15 S S2 := by
  intro m
  induction m with
  | zero =>
    intro n a S ha hn hS
    obtain ⟨n, rfl⟩ : ∃ q, n = q + 1 := ⟨n - 1, by omega⟩
    rw [gX11_newRow_24, if_pos (nI_le (by omega) (by omega))]
    exact ⟨S, rfl, by rw [hS]; congr 1, eqB.rf⟩
  | succ m ih =>
    intro n a S ha hn hS
    obtain ⟨n, rfl⟩ : ∃ q, n = q + 1 := ⟨n - 1, by omega⟩
    rw [gX11_newRow_24, if_neg (nI_ge (by omega) (by omega)), nI_20, mwA_n S 15 _ 0 (by rw [ml_15]; omega) (by omega), o_bs, nI_1]
    obtain ⟨S2, e2, a2, q2⟩ := ih n (a + 1) (sA S 15 (20 * r + a) 0) (by omega) (by omega) (by
      show va_up S.2.2.1 15 (va_up (S.2.2.1 15) (20 * r + a) 0) 15 = _
      rw [va_up_s, hS, zr_up])
    exact ⟨S2, e2, a2, (eqB.A rfl).tr q2⟩
def fRow (k : Nat) : Bool := k == 13 || k == 14 || k == 15
theorem g_newRow {R : aRS} {S : mS} (h : RSt R S) (hr : R.2.1 < 60) (L : Nat) (hL : L ≤ 20) : ∃ S2, gX11_newRow (nI L) S = some (nI R.2.1, S2) ∧ RSt (rnew R L) S2 ∧ eqB fRow S S2 := by
  unfold gX11_newRow
  rw [h.2.1, mwA_n _ 14 _ _ (by rw [ml_14]; exact hr) (by omega), o_bs]
  have q0 : eqB fRow S (sA (sI S 13 (nI R.2.1 + 1)) 14 R.2.1 (nI L)) := (eqB.I rfl).tr (eqB.A rfl)
  generalize hS1 : sA (sI S 13 (nI R.2.1 + 1)) 14 R.2.1 (nI L) = S1 at q0
  have a15 : S1.2.2.1 15 = R.2.2.2.1 := by rw [← hS1]; simp only [sA, sI, va_up]; exact h.2.2.2.2.1
  have a14 : S1.2.2.1 14 = va_up R.2.2.1 R.2.1 (nI L) := by rw [← hS1, ← h.2.2.2.1]; simp [sA, sI, va_up]
  have a13 : S1.1 13 = nI (R.2.1 + 1) := by rw [← hS1, ← nI_1]; simp [sA, sI, va_up]
  obtain ⟨S2, e2, b2, q2⟩ := g_newRow_24 hr L hL R.2.2.2.1 L 4000 0 S1 (by omega) (by omega) (by rw [a15, zr_0])
  refine ⟨S2, e2, ⟨?_, ?_, ?_, ?_, b2, ?_⟩, q0.tr (q2.mono (fun k hk => by simp [fRow] at hk; simp [f15]; omega))⟩
  · rw [← (q2 32 rfl).1, ← (q0 32 rfl).1]; exact h.1
  · rw [← (q2 13 rfl).1]; exact a13
  · show R.2.1 + 1 ≤ 60; omega
  · rw [← (q2 14 rfl).2.2.1]; exact a14
  · rw [← (q2 25 rfl).1, ← (q0 25 rfl).1]; exact h.2.2.2.2.2
/-- how a frame ends -/
def PE (S S2 : mS) (p : Nat) (f : Int32) (v : aVl) (R2 : aRS) : Prop := S2.1 33 = nI p ∧ S2.1 29 = f ∧ (f = 0 → S2.1 30 = v.1 ∧ S2.2.1 31 = v.2) ∧ RSt R2 S2 ∧ eqB fPl S S2
theorem pe_ok {S : mS} {p : Nat} {R : aRS} (hS : S.1 33 = nI (p + 1)) (hR : RSt R S) (kd : Int32) (v : Int64) : ∃ S2, ((gX11_comes kd v S).bind fun q => (gX11_over q).bind fun q2 => some q2) = some S2 ∧ PE S S2 p 0 (kd, v) R := by
  obtain ⟨S2, e, a1, a2, a3, a4, q⟩ := e_comes hS kd v
  exact ⟨S2, e, a1, a2, fun _ => ⟨a3, a4⟩, hR.eq q rfl rfl rfl rfl rfl, q.mono fEnd_Pl⟩
theorem pe_bad {S : mS} {p : Nat} {R : aRS} (hS : S.1 33 = nI (p + 1)) (hR : RSt R S) (f : Int32) (hf : f ≠ 0) (v : aVl) : ∃ S2, ((gX11_over (sI S 29 f)).bind fun q2 => some q2) = some S2 ∧ PE S S2 p f v R := by
  obtain ⟨S2, e, a1, a2, q⟩ := e_fail hS f
  exact ⟨S2, e, a1, a2, fun h => absurd h hf, hR.eq q rfl rfl rfl rfl rfl, q.mono fEnd_Pl⟩
theorem PE.pre {S S1 S2 : mS} {p : Nat} {f : Int32} {v : aVl} {R : aRS} (q : eqB fPl S S1) (h : PE S1 S2 p f v R) : PE S S2 p f v R := ⟨h.1, h.2.1, h.2.2.1, h.2.2.2.1, q.tr h.2.2.2.2⟩
theorem i64_nz {x : Int64} : lg_cmp x 0 = 0 ↔ x = 0 := by
  unfold lg_cmp
  by_cases h1 : (0 : Int64) < x
  · simp only [h1, if_true]
    constructor
    · intro h; exact absurd h (by decide)
    · intro h; subst h; exact absurd h1 (by decide)
  · by_cases h2 : x = 0
    · simp [h2]
    · simp [h1, h2]
