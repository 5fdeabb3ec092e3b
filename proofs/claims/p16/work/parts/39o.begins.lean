/-! THE REFERENCE: begins, areAlike. My own rows. -/
def bgL (T : mS) (a b : Nat) : Nat → Nat → Bool
  | _, 0 => true
  | k, j + 1 => decide (tI T 4 (a + k) = tI T 4 (b + k)) && bgL T a b (k + 1) j
theorem g_bg30 {T S : mS} {x fx h fh : Nat} (hT : TB T S) (hx : x < 60) (hh : h < 60) (hmx : tI T 3 x = nI (tN T 3 x)) (h6x : tN T 3 x ≤ 6) (h6h : tN T 3 h ≤ 6) (hfx : fx ≤ tN T 3 x) (hle : tN T 3 x - fx ≤ tN T 3 h - fh) (hfh : fh ≤ tN T 3 h) : ∀ (j n k : Nat), k + j = tN T 3 x - fx → j + 1 < n → gX11_begins_30 n (nI x) (nI fx) (nI h) (nI fh) 1 (nI k) S = some (if bgL T (6 * x + fx) (6 * h + fh) k j = true then 1 else 0, S) := by
  have t3 : S.2.2.1 3 x = nI (tN T 3 x) := by rw [(hT 3 (by decide) (by decide)).1]; exact hmx
  have t4 : ∀ i, S.2.2.1 4 i = tI T 4 i := fun i => by rw [(hT 4 (by decide) (by decide)).1]
  intro j
  induction j with
  | zero =>
    intro n k hk hn
    obtain ⟨n, rfl⟩ : ∃ q, n = q + 1 := ⟨n - 1, by omega⟩
    rw [gX11_begins_30, mrA_n S 3 _ (by rw [ml_3]; omega) (by omega), o_bs, t3, pk_sub hfx, if_pos (nI_le (by omega) (by omega))]
    rfl
  | succ j ih =>
    intro n k hk hn
    obtain ⟨n, rfl⟩ : ∃ q, n = q + 1 := ⟨n - 1, by omega⟩
    rw [gX11_begins_30, mrA_n S 3 _ (by rw [ml_3]; omega) (by omega), o_bs, t3, pk_sub hfx, if_neg (nI_ge (by omega) (by omega)), if_neg (by decide), nI_6, nI_6, nI_add, nI_add, mrA_n S 4 _ (by rw [ml_4]; omega) (by omega), o_bs, mrA_n S 4 _ (by rw [ml_4]; omega) (by omega), o_bs, t4, t4, nI_1]
    unfold bgL
    by_cases he : tI T 4 (6 * x + fx + k) = tI T 4 (6 * h + fh + k)
    · rw [if_pos he, ih n (k + 1) (by omega) (by omega)]
      simp [he]
    · rw [if_neg he]
      obtain ⟨n, rfl⟩ : ∃ q, n = q + 1 := ⟨n - 1, by omega⟩
      rw [gX11_begins_30, mrA_n S 3 _ (by rw [ml_3]; omega) (by omega), o_bs, t3, pk_sub hfx]
      by_cases h2 : nI (tN T 3 x - fx) ≤ nI (k + 1)
      · rw [if_pos h2]; simp [he]
      · rw [if_neg h2, if_pos rfl]; simp [he]
def bgB (T : mS) (x fx h fh : Nat) : Bool := decide (tN T 3 x - fx ≤ tN T 3 h - fh) && bgL T (6 * x + fx) (6 * h + fh) 0 (tN T 3 x - fx)
theorem g_begins {T S : mS} {nh x fx h fh : Nat} (hW : WT T nh) (hT : TB T S) (hx : x < nh) (hh : h < nh) (hfx : fx ≤ tN T 3 x) (hfh : fh ≤ tN T 3 h) : gX11_begins (nI x) (nI fx) (nI h) (nI fh) S = some (if bgB T x fx h fh = true then 1 else 0, S) := by
  have hx60 : x < 60 := Nat.lt_of_lt_of_le hx hW.1
  have hh60 : h < 60 := Nat.lt_of_lt_of_le hh hW.1
  obtain ⟨mx, m6x⟩ := hW.m hx
  obtain ⟨mh, m6h⟩ := hW.m hh
  have t3 : S.2.2.1 3 x = nI (tN T 3 x) := by rw [(hT 3 (by decide) (by decide)).1]; exact mx
  have t3h : S.2.2.1 3 h = nI (tN T 3 h) := by rw [(hT 3 (by decide) (by decide)).1]; exact mh
  unfold gX11_begins gX11_begins_e bgB
  rw [mrA_n S 3 _ (by rw [ml_3]; omega) (by omega), o_bs, mrA_n S 3 _ (by rw [ml_3]; omega) (by omega), o_bs, t3, t3h, pk_sub hfx, pk_sub hfh]
  by_cases hle : tN T 3 x - fx ≤ tN T 3 h - fh
  · have e := g_bg30 hT hx60 hh60 mx m6x m6h hfx hle hfh (tN T 3 x - fx) 4000 0 (by omega) (by omega)
    rw [nI_0] at e
    rw [if_neg (nI_nlt hle (by omega)), e]
    by_cases hb : bgL T (6 * x + fx) (6 * h + fh) 0 (tN T 3 x - fx) = true
    · simp [hle, hb, chkM]
    · simp [hle, hb, chkM]
  · rw [if_pos (nI_lt (by omega) (by omega)), gX11_begins_30, mrA_n S 3 _ (by rw [ml_3]; omega) (by omega), o_bs, t3, pk_sub hfx, if_neg (nI_nle (by omega) (by omega)), if_pos rfl]
    simp [hle, chkM]
theorem bgL_iff (T : mS) (a b : Nat) : ∀ (j k : Nat), bgL T a b k j = true ↔ ∀ i, k ≤ i → i < k + j → tI T 4 (a + i) = tI T 4 (b + i) := by
  intro j
  induction j with
  | zero => intro k; exact ⟨fun _ i h1 h2 => by omega, fun _ => rfl⟩
  | succ j ih =>
    intro k
    unfold bgL
    rw [Bool.and_eq_true, decide_eq_true_eq, ih]
    refine ⟨fun h i h1 h2 => ?_, fun h => ⟨h k (by omega) (by omega), fun i h1 h2 => h i (by omega) (by omega)⟩⟩
    by_cases e : i = k
    · rw [e]; exact h.1
    · exact h.2 i (by omega) (by omega)
theorem tys_get (T : mS) {c k : Nat} (h : k < tN T 3 c) : (tys T c)[k]? = some (tI T 4 (6 * c + k)) := by
  unfold tys
  rw [List.getElem?_map, List.getElem?_range h]
  rfl
theorem tys_none (T : mS) {c k : Nat} (h : tN T 3 c ≤ k) : (tys T c)[k]? = none := List.getElem?_eq_none (by rw [tys_len]; exact h)
/-- begins, as lists -/
theorem bgB_iff {T : mS} {x fx h fh : Nat} (hfx : fx ≤ tN T 3 x) (hfh : fh ≤ tN T 3 h) : bgB T x fx h fh = true ↔ tN T 3 x - fx ≤ tN T 3 h - fh ∧ (tys T x).drop fx = ((tys T h).drop fh).take (tN T 3 x - fx) := by
  unfold bgB
  rw [Bool.and_eq_true, decide_eq_true_eq, bgL_iff]
  refine ⟨fun ⟨h1, h2⟩ => ⟨h1, ?_⟩, fun ⟨h1, h2⟩ => ⟨h1, fun i _ hi => ?_⟩⟩
  · apply List.ext_getElem?
    intro i
    rw [List.getElem?_drop, List.getElem?_take]
    by_cases hi : i < tN T 3 x - fx
    · rw [if_pos hi, List.getElem?_drop, tys_get T (by omega), tys_get T (by omega)]
      have := h2 i (by omega) (by omega)
      rw [show 6 * x + (fx + i) = 6 * x + fx + i by omega, show 6 * h + (fh + i) = 6 * h + fh + i by omega, this]
    · rw [if_neg hi, tys_none T (by omega)]
  · have e : ((tys T x).drop fx)[i]? = (((tys T h).drop fh).take (tN T 3 x - fx))[i]? := by rw [h2]
    rw [List.getElem?_drop, List.getElem?_take, if_pos (by omega), List.getElem?_drop, tys_get T (by omega), tys_get T (by omega)] at e
    rw [show 6 * x + fx + i = 6 * x + (fx + i) by omega, show 6 * h + fh + i = 6 * h + (fh + i) by omega]
    exact Option.some.inj e
def alk (T : mS) (h x : Nat) : Prop := tys T h = tys T x ∧ tI T 5 h = tI T 5 x
theorem g_alike {T S : mS} {nh h x : Nat} (hW : WT T nh) (hT : TB T S) (hh : h < nh) (hx : x < nh) : (alk T h x ∧ gX11_areAlike (nI h) (nI x) S = some (1, S)) ∨ (¬ alk T h x ∧ gX11_areAlike (nI h) (nI x) S = some (0, S)) := by
  have hx60 : x < 60 := Nat.lt_of_lt_of_le hx hW.1
  have hh60 : h < 60 := Nat.lt_of_lt_of_le hh hW.1
  obtain ⟨mx, m6x⟩ := hW.m hx
  obtain ⟨mh, m6h⟩ := hW.m hh
  have t3 : S.2.2.1 3 x = nI (tN T 3 x) := by rw [(hT 3 (by decide) (by decide)).1]; exact mx
  have t3h : S.2.2.1 3 h = nI (tN T 3 h) := by rw [(hT 3 (by decide) (by decide)).1]; exact mh
  have t5 : ∀ i, S.2.2.1 5 i = tI T 5 i := fun i => by rw [(hT 5 (by decide) (by decide)).1]
  unfold gX11_areAlike gX11_areAlike_e
  rw [mrA_n S 3 _ (by rw [ml_3]; omega) (by omega), o_bs, mrA_n S 3 _ (by rw [ml_3]; omega) (by omega), o_bs, t3, t3h]
  by_cases hm : tN T 3 h = tN T 3 x
  · have e := g_begins (fx := 0) (fh := 0) hW hT hh hx (Nat.zero_le _) (Nat.zero_le _)
    rw [nI_0] at e
    rw [if_pos (by rw [hm]), e, o_bs]
    have hb : bgB T h 0 x 0 = true ↔ tys T h = tys T x := by
      rw [bgB_iff (Nat.zero_le _) (Nat.zero_le _)]
      simp only [Nat.sub_zero, List.drop_zero]
      rw [List.take_of_length_le (by rw [tys_len]; omega)]
      exact ⟨fun z => z.2, fun z => ⟨by omega, z⟩⟩
    by_cases hbb : bgB T h 0 x 0 = true
    · simp only [hbb, if_true]
      rw [if_neg (by decide), mrA_n S 5 _ (by rw [ml_5]; omega) (by omega), o_bs, mrA_n S 5 _ (by rw [ml_5]; omega) (by omega), o_bs, t5, t5]
      by_cases h5 : tI T 5 h = tI T 5 x
      · exact Or.inl ⟨⟨hb.mp hbb, h5⟩, by rw [if_pos h5]; rfl⟩
      · exact Or.inr ⟨fun z => h5 z.2, by rw [if_neg h5]; rfl⟩
    · refine Or.inr ⟨fun z => hbb (hb.mpr z.1), ?_⟩
      simp [hbb, chkM]
  · refine Or.inr ⟨fun z => hm (by rw [← tys_len, ← tys_len, z.1]), ?_⟩
    rw [if_neg (fun z => hm ((nI_eq (by omega) (by omega)).mp z))]
    rfl
