/-! THE REFERENCE: isWrong, lay. My own rows. -/
def tov (kd w : Int32) : Int32 := if kd = 3 then (if w = 3 then 3 else 2) else if kd = 2 then 3 else kd
def caB (a b : Int32) : Bool := decide (a = b) || (decide (b = 4) || (decide (a = 4) || ((decide (a = 0) && (decide (b = 1) || decide (b = 2))) || ((decide (a = 1) && decide (b = 2)) || (decide (a = 2) && (decide (b = 0) || decide (b = 1)))))))
theorem caB_iff (a b : Int32) : caB a b = true ↔ CA a b := by unfold caB CA; simp
theorem g_ca (a b : Int32) (S : mS) : gX11_canAdapt a b S = some (if caB a b = true then 1 else 0, S) := by
  unfold gX11_canAdapt gX11_canAdapt_e gX11_canAdapt_29 gX11_canAdapt_39 caB
  by_cases h1 : a = b
  · simp [h1, chkM]
  by_cases h2 : b = 4
  · simp [h2, chkM]
  by_cases h3 : a = 4
  · simp [h3, chkM]
  by_cases h4 : a = 0
  · subst h4
    by_cases h5 : b = 1
    · simp [h5, chkM]
    by_cases h6 : b = 2
    · simp [h6, chkM]
    simp [h1, h2, h5, h6, chkM]
  by_cases h5 : a = 1
  · subst h5
    by_cases h6 : b = 2
    · simp [h6, chkM]
    simp [h1, h2, h6, chkM]
  by_cases h6 : a = 2
  · subst h6
    by_cases h7 : b = 0
    · simp [h7, chkM]
    by_cases h8 : b = 1
    · simp [h8, chkM]
    simp [h1, h2, h7, h8, chkM]
  simp [h1, h2, h3, h4, h5, h6, chkM]
/-- the values at hand -/
def VA (S : mS) (vs : List aVl) : Prop := vs.length ≤ 6 ∧ S.1 20 = nI vs.length ∧ ∀ (i : Nat) (v : aVl), vs[i]? = some v → S.2.2.1 21 i = v.1 ∧ S.2.2.2 22 i = v.2
theorem VA.eq {S S2 : mS} {f : Nat → Bool} {vs : List aVl} (h : VA S vs) (q : eqB f S S2) (h1 : f 20 = false) (h2 : f 21 = false) (h3 : f 22 = false) : VA S2 vs := ⟨h.1, by rw [← (q 20 h1).1]; exact h.2.1, fun i v hi => ⟨by rw [← (q 21 h2).2.2.1]; exact (h.2.2 i v hi).1, by rw [← (q 22 h3).2.2.2]; exact (h.2.2 i v hi).2⟩⟩
theorem g_tov {S : mS} {vs : List aVl} {k : Nat} {v : aVl} (h : VA S vs) (hk : vs[k]? = some v) (w : Int32) : gX11_typeOfValue (nI k) w S = some (tov v.1 w, S) := by
  have hkl : k < vs.length := (List.getElem?_eq_some_iff.mp hk).1
  have h6 := h.1
  unfold gX11_typeOfValue tov
  rw [mrA_n S 21 _ (by rw [ml_21]; omega) (by omega), o_bs, (h.2.2 k v hk).1]
  by_cases h3 : v.1 = 3
  · rw [if_pos h3, if_pos h3]
    by_cases hw : w = 3
    · rw [if_pos hw, if_pos hw]
    · rw [if_neg hw, if_neg hw]
  · rw [if_neg h3, if_neg h3, o_bs]
    by_cases h2 : v.1 = 2
    · rw [if_pos h2, if_pos h2]
    · rw [if_neg h2, if_neg h2, o_bs]
/-- is the value wrong for the type -/
def wv (ex t kd : Int32) : Bool := if ex = 0 then !caB (tov kd t) t else if t = 0 then !decide (kd = 0) else if t = 1 then !decide (kd = 1) else if t = 2 then decide (kd = 2) else !decide (1 < kd)
def wrL (T : mS) (c : Nat) (ex : Int32) : Nat → List aVl → Bool
  | _, [] => false
  | k, v :: r => wv ex (tI T 4 (6 * c + k)) v.1 || wrL T c ex (k + 1) r
theorem g_wr22 {T S : mS} {c : Nat} {ex : Int32} {vs : List aVl} (hT : TB T S) (hV : VA S vs) (hc : c < 60) : ∀ (rest : List aVl) (n k : Nat), vs.drop k = rest → k + rest.length = vs.length → rest.length + 1 < n → gX11_isWrong_22 n (nI c) ex 0 (nI k) S = some (if wrL T c ex k rest = true then 1 else 0, S) := by
  intro rest
  have h6 := hV.1
  induction rest with
  | nil =>
    intro n k hd hk hn
    obtain ⟨n, rfl⟩ : ∃ q, n = q + 1 := ⟨n - 1, by omega⟩
    rw [gX11_isWrong_22, hV.2.1, if_pos (nI_le (by simp at hk; omega) (by simp at hk; omega))]
    rfl
  | cons u rest ih =>
    intro n k hd hk hn
    simp only [List.length_cons] at hk hn
    obtain ⟨n, rfl⟩ : ∃ q, n = q + 1 := ⟨n - 1, by omega⟩
    have hkl : k < vs.length := by omega
    have hv : vs[k]? = some u := by
      have : (vs.drop k)[0]? = some u := by rw [hd]; rfl
      rw [List.getElem?_drop] at this
      exact this
    have hd2 : vs.drop (k + 1) = rest := by
      have : (vs.drop k).drop 1 = rest := by rw [hd]; rfl
      rwa [List.drop_drop] at this
    have t4 : ∀ i, S.2.2.1 4 i = tI T 4 i := fun i => by rw [(hT 4 (by decide) (by decide)).1]
    have hgo : ∀ b : Bool, gX11_isWrong_22 n (nI c) ex (if b = true then 1 else 0) (nI (k + 1)) S = some (if (b || wrL T c ex (k + 1) rest) = true then 1 else 0, S) := by
      intro b
      cases b with
      | false => simpa using ih n (k + 1) hd2 (by omega) (by omega)
      | true =>
        obtain ⟨n, rfl⟩ : ∃ q, n = q + 1 := ⟨n - 1, by omega⟩
        rw [if_pos rfl, gX11_isWrong_22]
        by_cases hle : S.1 20 ≤ nI (k + 1)
        · rw [if_pos hle]; rfl
        · rw [if_neg hle, if_neg (by decide)]; rfl
    rw [gX11_isWrong_22, hV.2.1, if_neg (nI_ge (by omega) (by omega)), if_pos rfl, nI_6, mrA_n S 4 _ (by rw [ml_4]; omega) (by omega), o_bs, mrA_n S 21 _ (by rw [ml_21]; omega) (by omega), o_bs, t4, (hV.2.2 k u hv).1, nI_1]
    rw [wrL, ← hgo (wv ex (tI T 4 (6 * c + k)) u.1)]
    unfold wv
    by_cases hx : ex = 0
    · rw [if_pos hx, if_pos hx, g_tov hV hv, o_bs, g_ca, o_bs]
      by_cases hca : caB (tov u.1 (tI T 4 (6 * c + k))) (tI T 4 (6 * c + k)) = true
      · simp [hca]
      · simp [hca]
    · rw [if_neg hx, if_neg hx]
      by_cases a0 : tI T 4 (6 * c + k) = 0
      · rw [if_pos a0, if_pos a0]
        by_cases b0 : u.1 = 0 <;> simp [b0]
      · rw [if_neg a0, if_neg a0]
        by_cases a1 : tI T 4 (6 * c + k) = 1
        · rw [if_pos a1, if_pos a1]
          by_cases b0 : u.1 = 1 <;> simp [b0]
        · rw [if_neg a1, if_neg a1]
          by_cases a2 : tI T 4 (6 * c + k) = 2
          · rw [if_pos a2, if_pos a2]
            by_cases b0 : u.1 = 2 <;> simp [b0]
          · rw [if_neg a2, if_neg a2]
            by_cases b0 : 1 < u.1 <;> simp [b0]
def isW (T : mS) (c : Nat) (ex : Int32) (vs : List aVl) : Bool := !decide (vs.length = tN T 3 c) || wrL T c ex 0 vs
theorem g_isWrong {T S : mS} {c nh : Nat} {ex : Int32} {vs : List aVl} (hW : WT T nh) (hcn : c < nh) (hT : TB T S) (hV : VA S vs) : gX11_isWrong (nI c) ex S = some (if isW T c ex vs = true then 1 else 0, S) := by
  have hc : c < 60 := Nat.lt_of_lt_of_le hcn hW.1
  have hM := hW.m hcn
  have h6 := hV.1
  unfold gX11_isWrong gX11_isWrong_e isW
  rw [mrA_n S 3 _ (by rw [ml_3]; omega) (by omega), o_bs, hV.2.1, show S.2.2.1 3 c = nI (tN T 3 c) by rw [(hT 3 (by decide) (by decide)).1]; exact hM.1]
  by_cases he : vs.length = tN T 3 c
  · have e := g_wr22 (ex := ex) hT hV hc vs 4000 0 rfl (by omega) (by omega)
    rw [nI_0] at e
    rw [if_pos (by rw [he]), e]
    by_cases hw : wrL T c ex 0 vs = true
    · simp [he, hw, chkM]
    · simp [he, hw, chkM]
  · rw [if_neg (fun z => he ((nI_eq (by omega) (by omega)).mp z)), gX11_isWrong_22]
    by_cases hle : S.1 20 ≤ 0
    · rw [if_pos hle]; simp [he, chkM]
    · rw [if_neg hle, if_neg (by decide)]; simp [he, chkM]
