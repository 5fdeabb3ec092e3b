/-! THE REFERENCE: lay, tells, run. My own rows. -/
/-- the type that a value at hand is adapted from -/
def lyF (kd t : Int32) : Int32 := if tov kd t = t then t else if t = 2 then t else tov kd t
def layL (T : mS) (c : Nat) : Nat → List aVl → Int32 × List aVl
  | _, [] => (0, [])
  | k, v :: r => if (adS (lyF v.1 (tI T 4 (6 * c + k))) (tI T 4 (6 * c + k)) v.1 v.2).1 = 0 then ((layL T c (k + 1) r).1, (adS (lyF v.1 (tI T 4 (6 * c + k))) (tI T 4 (6 * c + k)) v.1 v.2).2 :: (layL T c (k + 1) r).2) else ((adS (lyF v.1 (tI T 4 (6 * c + k))) (tI T 4 (6 * c + k)) v.1 v.2).1, [])
theorem layL_0 (T : mS) (c : Nat) : ∀ (l : List aVl) (k : Nat), 0 ≤ (layL T c k l).1 := by
  intro l
  induction l with
  | nil => intro k; exact (by decide : (0 : Int32) ≤ 0)
  | cons u l ih =>
    intro k
    unfold layL
    split
    · exact ih (k + 1)
    · exact adS_0 _ _ _ _
theorem g_lay11 {T S0 : mS} {c : Nat} {vs : List aVl} (hc : c < 60) : ∀ (rest : List aVl) (n k : Nat) (S : mS) (bs : List aVl), TB T S → VA S vs → vs.drop k = rest → k + rest.length = vs.length → rest.length + 1 < n → AB S bs → S.1 29 = 0 → bs.length = k → eqB fAd S0 S →
    ∃ S3, gX11_lay_11 n (nI c) (nI k) S = some S3 ∧ S3.1 29 = (layL T c k rest).1 ∧ eqB fAd S0 S3 ∧ ((layL T c k rest).1 = 0 → AB S3 (bs ++ (layL T c k rest).2)) := by
  intro rest
  induction rest with
  | nil =>
    intro n k S bs hT hV hd hk hn hA h29 hl hq
    have h6 := hV.1
    obtain ⟨n, rfl⟩ : ∃ q, n = q + 1 := ⟨n - 1, by omega⟩
    rw [gX11_lay_11, hV.2.1, if_pos (nI_le (by simp at hk; omega) (by simp at hk; omega))]
    exact ⟨S, rfl, h29, hq, fun _ => by simpa [layL] using hA⟩
  | cons u rest ih =>
    intro n k S bs hT hV hd hk hn hA h29 hl hq
    have h6 := hV.1
    simp only [List.length_cons] at hk hn
    obtain ⟨n, rfl⟩ : ∃ q, n = q + 1 := ⟨n - 1, by omega⟩
    have hkl : k < vs.length := by omega
    have hv : vs[k]? = some u := by
      have : (vs.drop k)[0]? = some u := by rw [hd]; rfl
      rw [List.getElem?_drop] at this
      exact this
    have hd2 : vs.drop (k + 1) = rest := by
      have : (vs.drop k).drop 1 = rest := by rw [hd]; rfl
      rwa [List.drop_drop] at this
    have t4 : ∀ i, S.2.2.1 4 i = tI T 4 i := fun i => by rw [(hT 4 (by decide) (by decide)).1]
    have e64 : gX11_lay_11 (n + 1) (nI c) (nI k) S = gX11_lay_64 (gX11_lay_11 n) (nI c) (nI k) (tI T 4 (6 * c + k)) (lyF u.1 (tI T 4 (6 * c + k))) S := by
      rw [gX11_lay_11, hV.2.1, if_neg (nI_ge (by omega) (by omega)), if_pos h29, nI_6, mrA_n S 4 _ (by rw [ml_4]; omega) (by omega), o_bs, t4, g_tov hV hv, o_bs]
      unfold gX11_lay_58 lyF
      by_cases h1 : tov u.1 (tI T 4 (6 * c + k)) = tI T 4 (6 * c + k)
      · rw [if_pos h1, if_pos h1]
      · rw [if_neg h1, if_neg h1]
        by_cases h2 : tI T 4 (6 * c + k) = 2
        · rw [if_pos h2, if_pos h2]
        · rw [if_neg h2, if_neg h2]
    rw [e64]
    unfold gX11_lay_64
    rw [mrA_n S 21 _ (by rw [ml_21]; omega) (by omega), o_bs, mrB_n S 22 _ (by rw [ml_22]; omega) (by omega), o_bs, (hV.2.2 k u hv).1, (hV.2.2 k u hv).2]
    obtain ⟨S3, e3, a29, a30, a31, q3⟩ := g_adapt (lyF u.1 (tI T 4 (6 * c + k))) (tI T 4 (6 * c + k)) u.1 u.2 S
    rw [e3, o_bs, a30, a31]
    obtain ⟨S4, e4, hA4, q4⟩ := g_add (hA.eq q3 rfl rfl rfl) (by omega) (adS (lyF u.1 (tI T 4 (6 * c + k))) (tI T 4 (6 * c + k)) u.1 u.2).2.1 (adS (lyF u.1 (tI T 4 (6 * c + k))) (tI T 4 (6 * c + k)) u.1 u.2).2.2
    rw [e4, o_bs, nI_1]
    have q34 : eqB fAd S S4 := (q3.mono fAd_2).tr (q4.mono fAd_1)
    have b29 : S4.1 29 = (adS (lyF u.1 (tI T 4 (6 * c + k))) (tI T 4 (6 * c + k)) u.1 u.2).1 := by rw [← (q4 29 rfl).1]; exact a29
    have hT4 : TB T S4 := hT.eq q34 (fun k h1 h2 => by simp [fAd, fArg, fCame]; omega)
    have hV4 : VA S4 vs := hV.eq q34 rfl rfl rfl
    unfold layL
    by_cases hz : (adS (lyF u.1 (tI T 4 (6 * c + k))) (tI T 4 (6 * c + k)) u.1 u.2).1 = 0
    · rw [if_pos hz]
      obtain ⟨S5, e5, c29, q5, hA5⟩ := ih n (k + 1) S4 _ hT4 hV4 hd2 (by omega) (by omega) hA4 (b29.trans hz) (by simp; omega) (hq.tr q34)
      exact ⟨S5, e5, c29, q5, fun z => by simpa using hA5 z⟩
    · rw [if_neg hz]
      refine ⟨S4, ?_, b29, hq.tr q34, fun z => absurd z hz⟩
      obtain ⟨n, rfl⟩ : ∃ q, n = q + 1 := ⟨n - 1, by omega⟩
      rw [gX11_lay_11]
      by_cases hle : S4.1 20 ≤ nI (k + 1)
      · rw [if_pos hle]
      · rw [if_neg hle, if_neg (by rw [b29]; exact hz)]
theorem g_lay {T S : mS} {c : Nat} {vs : List aVl} (hc : c < 60) (hT : TB T S) (hV : VA S vs) : ∃ S3, gX11_lay (nI c) S = some S3 ∧ S3.1 29 = (layL T c 0 vs).1 ∧ eqB fAd S S3 ∧ ((layL T c 0 vs).1 = 0 → AB S3 (layL T c 0 vs).2) := by
  have h6 := hV.1
  unfold gX11_lay
  rw [show gX11_begin S = some (sI S 46 0) from rfl, o_bs, ← nI_0]
  have q0 : eqB fAd S (sI (sI S 46 (nI 0)) 29 (nI 0)) := (eqB.I rfl).tr (eqB.I rfl)
  obtain ⟨S3, e, a, b, d⟩ := g_lay11 (T := T) hc vs 4000 0 (sI (sI S 46 (nI 0)) 29 (nI 0)) [] (hT.eq q0 (fun k h1 h2 => by simp [fAd, fArg, fCame]; omega)) (hV.eq q0 rfl rfl rfl) rfl (by omega) (by omega) ⟨by simp [sI, va_up], fun i v hi => by simp at hi⟩ (by simp [sI, va_up, nI_0]) rfl q0
  exact ⟨S3, e, a, b, fun z => by simpa using d z⟩
/-- a value at hand is well made -/
def VK (nr : Nat) (v : aVl) : Prop := (v.1 = 0 ∧ VI v.2) ∨ v.1 = 1 ∨ (v.1 = 2 ∧ ∃ r, r < nr ∧ v.2 = (nI r).toInt64) ∨ v = (3, 0)
theorem ly_vt {nr : Nat} {ex t : Int32} {v : aVl} (hv : VK nr v) (ht : t = 0 ∨ t = 1 ∨ t = 2 ∨ t = 3) (hw : wv ex t v.1 = false) (h0 : (adS (lyF v.1 t) t v.1 v.2).1 = 0) : VT nr t (adS (lyF v.1 t) t v.1 v.2).2 := by
  have hsame : VT nr t v → lyF v.1 t = t → VT nr t (adS (lyF v.1 t) t v.1 v.2).2 := fun a b => by rw [b, adS, if_pos rfl]; exact a
  obtain ⟨kd, x⟩ := v
  rcases hv with ⟨a, b⟩ | a | ⟨a, r, b, d⟩ | a
  · simp only [] at a b hw h0 hsame ⊢
    subst a
    rcases ht with z | z | z | z
    · subst z; exact hsame (vt0 b) rfl
    · subst z; exact vt1
    · subst z; exact hsame (vt2i b) rfl
    · subst z
      exfalso
      revert hw
      unfold wv
      by_cases hx : ex = 0
      · rw [if_pos hx]; decide
      · rw [if_neg hx]; decide
  · simp only [] at a hw h0 hsame ⊢
    subst a
    rcases ht with z | z | z | z
    · subst z
      exfalso
      revert hw
      unfold wv
      by_cases hx : ex = 0
      · rw [if_pos hx]; decide
      · rw [if_neg hx]; decide
    · subst z; exact hsame vt1 rfl
    · subst z; exact hsame vt2l rfl
    · subst z
      exfalso
      revert hw
      unfold wv
      by_cases hx : ex = 0
      · rw [if_pos hx]; decide
      · rw [if_neg hx]; decide
  · simp only [] at a b d hw h0 hsame ⊢
    subst a
    rcases ht with z | z | z | z
    · subst z
      exfalso
      revert hw
      unfold wv
      by_cases hx : ex = 0
      · rw [if_pos hx]; decide
      · rw [if_neg hx]; decide
    · subst z
      exfalso
      revert hw
      unfold wv
      by_cases hx : ex = 0
      · rw [if_pos hx]; decide
      · rw [if_neg hx]; decide
    · subst z
      exfalso
      revert hw
      unfold wv
      by_cases hx : ex = 0
      · rw [if_pos hx]; decide
      · rw [if_neg hx]; decide
    · subst z; subst d; exact hsame (vt3 b) rfl
  · cases a
    simp only [] at hw h0 hsame ⊢
    rcases ht with z | z | z | z
    · subst z; exact absurd h0 (by decide)
    · subst z; exact absurd h0 (by decide)
    · subst z; exact hsame vt2n rfl
    · subst z; exact hsame vt3n rfl
