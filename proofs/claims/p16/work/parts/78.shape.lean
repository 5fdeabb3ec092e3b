/-! THE REFERENCE: shapes of others. My own rows. -/
/-- a shape: under a condition it gives g and takes ts; else it is none -/
def SHo (S : mS) (y : Option (Int32 × mS)) (P : Prop) (g : Int32) (ts : List Int32) : Prop := (P → ∃ S2, y = some (g, S2) ∧ TW S2 ts ∧ eqB f27 S S2) ∧ (¬ P → ∃ S2, y = some (-1, S2) ∧ eqB f27 S S2)
theorem sh_yes {S S2 : mS} {y : Option (Int32 × mS)} {P : Prop} {g : Int32} {ts : List Int32} (h : P) (e : y = some (g, S2)) (w : TW S2 ts) (q : eqB f27 S S2) : SHo S y P g ts := ⟨fun _ => ⟨S2, e, w, q⟩, fun n => absurd h n⟩
theorem sh_no {S S2 : mS} {y : Option (Int32 × mS)} {P : Prop} {g : Int32} {ts : List Int32} (h : ¬ P) (e : y = some (-1, S2)) (q : eqB f27 S S2) : SHo S y P g ts := ⟨fun n => absurd n h, fun _ => ⟨S2, e, q⟩⟩
theorem n6 (x : Nat) : 6 * nI x = nI (6 * x) := by rw [show (6 : Int32) = nI 6 from rfl, pk_mul]
section
variable {T S : mS} {nh h x y : Nat}
theorem rd3 (hT : TB T S) (hW : WT T nh) (hh : h < nh) : mrA S 3 (nI h) = some (nI (tN T 3 h)) := by
  have := hW.1
  rw [mrA_n S 3 _ (by rw [ml_3]; omega) (by omega), t27 hT 3 (by decide) (by decide), (hW.m hh).1]
theorem rd5 (hT : TB T S) (hW : WT T nh) (hh : h < nh) : mrA S 5 (nI h) = some (tI T 5 h) := by
  have := hW.1
  rw [mrA_n S 5 _ (by rw [ml_5]; omega) (by omega), t27 hT 5 (by decide) (by decide)]
theorem rd4 (hT : TB T S) {i : Nat} (hi : i < 360) : mrA S 4 (nI i) = some (tI T 4 i) := by
  rw [mrA_n S 4 _ (by rw [ml_4]; omega) (by omega), t27 hT 4 (by decide) (by decide)]
theorem sh_3 (hW : WT T nh) (hT : TB T S) (hh : h < nh) (hx : x < nh) {bh : Nat} (hb : bh = if tI T 5 x = 4 then 0 else 1) : SHo S (gX11_shape_193 (nI h) (nI x) (nI (tN T 3 h)) (nI bh) S) (bh + tN T 3 x ≤ tN T 3 h ∧ (tI T 5 x ≠ 4 → tI T 4 (6 * h) = tI T 5 x) ∧ tys T x = ((tys T h).drop bh).take (tN T 3 x)) (tI T 5 h) ((tys T h).drop bh) := by
  have h60 := hW.1
  have m6 := (hW.m hh).2
  have hb1 : bh ≤ 1 := by rw [hb]; split <;> omega
  unfold gX11_shape_193
  by_cases hn : tN T 3 h < bh
  · obtain ⟨S1, e1, q1⟩ := g_takeFrom0 hW hh hT hn (by omega)
    rw [e1, o_bs, if_pos (nI_lt hn (by omega))]
    exact sh_no (fun q => by omega) rfl q1
  · obtain ⟨S1, e1, w1, q1⟩ := g_takeFrom hW hh hT (show bh ≤ tN T 3 h by omega)
    have T1 := hT.s q1
    rw [e1, o_bs, if_neg (nI_nlt (by omega) (by omega))]
    have key : gX11_shape_233 (nI h) (nI x) (nI bh) S1 = if bgB T x 0 h bh = true then some (tI T 5 h, S1) else some (-1, S1) := by
      unfold gX11_shape_233
      rw [show gX11_begins (nI x) 0 (nI h) (nI bh) S1 = _ from g_begins (fx := 0) hW T1 hx hh (Nat.zero_le _) (by omega), o_bs]
      by_cases hq : bgB T x 0 h bh = true
      · rw [if_pos hq, if_pos hq, if_neg (show ¬ (1 : Int32) = 0 by decide), rd5 T1 hW hh, o_bs]
      · rw [if_neg hq, if_neg hq, if_pos rfl]
    have kiff := bgB_iff (T := T) (x := x) (fx := 0) (h := h) (fh := bh) (Nat.zero_le _) (by omega)
    rw [Nat.sub_zero, List.drop_zero] at kiff
    have fin : (tI T 5 x ≠ 4 → tI T 4 (6 * h) = tI T 5 x) → SHo S (gX11_shape_233 (nI h) (nI x) (nI bh) S1) (bh + tN T 3 x ≤ tN T 3 h ∧ (tI T 5 x ≠ 4 → tI T 4 (6 * h) = tI T 5 x) ∧ tys T x = ((tys T h).drop bh).take (tN T 3 x)) (tI T 5 h) ((tys T h).drop bh) := by
      intro h4
      rw [key]
      by_cases hq : bgB T x 0 h bh = true
      · obtain ⟨k1, k2⟩ := kiff.mp hq
        rw [if_pos hq]
        exact sh_yes ⟨by omega, h4, k2⟩ rfl w1 q1
      · rw [if_neg hq]
        exact sh_no (fun q => hq (kiff.mpr ⟨by omega, q.2.2⟩)) rfl q1
    by_cases h4 : tI T 5 x = 4
    · rw [if_pos h4] at hb
      rw [if_neg (show ¬ nI bh = 1 by rw [hb]; decide)]
      exact fin fun q => absurd h4 q
    · rw [if_neg h4] at hb
      rw [if_pos (show nI bh = 1 by rw [hb]; rfl), n6, rd4 T1 (by omega), o_bs, rd5 T1 hW hx, o_bs]
      by_cases hq : tI T 4 (6 * h) = tI T 5 x
      · rw [if_pos hq]
        exact fin fun _ => hq
      · rw [if_neg hq]
        exact sh_no (fun q => hq (q.2.1 h4)) rfl q1
theorem sh_5 (hW : WT T nh) (hT : TB T S) (hh : h < nh) (hx : x < nh) {ts : List Int32} (w : TW S ts) {one : Nat} (ho : one = if tI T 5 h = 4 then 0 else 1) : SHo S (gX11_shape_329 (nI h) (nI x) (nI one) S) (tN T 3 x = one ∧ (one = 1 → tI T 4 (6 * x) = tI T 5 h)) (tI T 5 x) ts := by
  have h60 := hW.1
  have m6 := (hW.m hx).2
  have h1 : one ≤ 1 := by rw [ho]; split <;> omega
  unfold gX11_shape_329
  rw [rd3 hT hW hx, o_bs]
  by_cases hq : tN T 3 x = one
  · rw [if_pos (by rw [hq])]
    by_cases h11 : one = 1
    · rw [if_pos (show nI one = 1 by rw [h11]; rfl), n6, rd4 hT (by omega), o_bs, rd5 hT hW hh, o_bs]
      by_cases hg : tI T 4 (6 * x) = tI T 5 h
      · rw [if_pos hg, rd5 hT hW hx, o_bs]
        exact sh_yes ⟨hq, fun _ => hg⟩ rfl w eqB.rf
      · rw [if_neg hg]
        exact sh_no (fun q => hg (q.2 h11)) rfl eqB.rf
    · rw [if_neg (show ¬ nI one = 1 by rw [show one = 0 by omega]; decide), rd5 hT hW hx, o_bs]
      exact sh_yes ⟨hq, fun q => absurd q h11⟩ rfl w eqB.rf
  · rw [if_neg (fun e => hq ((nI_eq (by omega) (by omega)).mp e))]
    exact sh_no (fun q => hq q.1) rfl eqB.rf
theorem sh_7 (hW : WT T nh) (hT : TB T S) (hh : h < nh) (hx : x < nh) {ts : List Int32} (w : TW S ts) {f : Int32} : SHo S (gX11_shape_458 f (nI h) (nI x) (nI (tN T 3 h)) S) (tN T 3 x = tN T 3 h + 1 ∧ tI T 4 (6 * x) = 0 ∧ (tys T x).drop 1 = tys T h ∧ tI T 5 x = (if f = 8 then 4 else tI T 5 h)) (tI T 5 h) ts := by
  have h60 := hW.1
  have m6 := (hW.m hx).2
  have m6h := (hW.m hh).2
  have no : gX11_shape_498 f (nI h) (nI x) S = some (-1, S) := by
    unfold gX11_shape_498 gX11_shape_499
    rw [if_pos rfl]
  have yes : gX11_shape_499 f (nI h) (nI x) 1 S = if tI T 5 x = (if f = 8 then 4 else tI T 5 h) then some (tI T 5 h, S) else some (-1, S) := by
    unfold gX11_shape_499 gX11_shape_528
    rw [if_neg (by decide), rd5 hT hW hx, o_bs, rd5 hT hW hh]
    by_cases h8 : f = 8
    · rw [if_pos h8, if_pos h8, o_bs]
    · rw [if_neg h8, if_neg h8, o_bs, o_bs]
  unfold gX11_shape_458
  rw [rd3 hT hW hx, o_bs, nI_1]
  by_cases hq : tN T 3 x = tN T 3 h + 1
  · rw [if_pos (by rw [hq]), n6, rd4 hT (by omega), o_bs]
    by_cases h0 : tI T 4 (6 * x) = 0
    · rw [if_pos h0, show gX11_begins (nI x) 1 (nI h) 0 S = _ from g_begins (fx := 1) (fh := 0) hW hT hx hh (by omega) (Nat.zero_le _), o_bs]
      have kiff := bgB_iff (T := T) (x := x) (fx := 1) (h := h) (fh := 0) (by omega) (Nat.zero_le _)
      rw [List.drop_zero, Nat.sub_zero, show tN T 3 x - 1 = tN T 3 h by omega, List.take_of_length_le (l := tys T h) (Nat.le_of_eq (tys_len T h))] at kiff
      by_cases hb : bgB T x 1 h 0 = true
      · rw [if_pos hb, if_neg (show ¬ (1 : Int32) = 0 by decide), yes]
        by_cases hg : tI T 5 x = (if f = 8 then 4 else tI T 5 h)
        · rw [if_pos hg]
          exact sh_yes ⟨hq, h0, (kiff.mp hb).2, hg⟩ rfl w eqB.rf
        · rw [if_neg hg]
          exact sh_no (fun q => hg q.2.2.2) rfl eqB.rf
      · rw [if_neg hb, if_pos rfl, no]
        exact sh_no (fun q => hb (kiff.mpr ⟨Nat.le_refl _, q.2.2.1⟩)) rfl eqB.rf
    · rw [if_neg h0, no]
      exact sh_no (fun q => h0 q.2.1) rfl eqB.rf
  · rw [if_neg (fun e => hq ((nI_eq (by omega) (by omega)).mp e)), no]
    exact sh_no (fun q => hq q.1) rfl eqB.rf
end
