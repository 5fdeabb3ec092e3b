/-! THE REFERENCE: the shape of another handle, form by form. My own rows. -/
theorem oC_0 {T : mS} {vs : List aVl} {h x y a : Nat} : oC T vs 0 h x y a ↔ bOK T vs h a := ⟨fun q => q.1 rfl, fun q => ⟨fun _ => q, fun e => absurd e (by decide), fun e => absurd e (by decide), fun e => absurd e (by decide), fun e => absurd e (by decide), fun e => absurd e (by decide), fun e => absurd e (by decide), fun e => absurd e (by decide), fun e => absurd e (by decide), fun e => absurd e (by decide), fun e => absurd e (by decide), fun e => absurd e (by decide)⟩⟩
theorem oC_1 {T : mS} {vs : List aVl} {h x y a : Nat} : oC T vs 1 h x y a ↔ tN T 3 h < 6 := ⟨fun q => q.2.1 rfl, fun q => ⟨fun e => absurd e (by decide), fun _ => q, fun e => absurd e (by decide), fun e => absurd e (by decide), fun e => absurd e (by decide), fun e => absurd e (by decide), fun e => absurd e (by decide), fun e => absurd e (by decide), fun e => absurd e (by decide), fun e => absurd e (by decide), fun e => absurd e (by decide), fun e => absurd e (by decide)⟩⟩
theorem oC_2 {T : mS} {vs : List aVl} {h x y a : Nat} : oC T vs 2 h x y a := ⟨fun e => absurd e (by decide), fun e => absurd e (by decide), fun e => absurd e (by decide), fun e => absurd e (by decide), fun e => absurd e (by decide), fun e => absurd e (by decide), fun e => absurd e (by decide), fun e => absurd e (by decide), fun e => absurd e (by decide), fun e => absurd e (by decide), fun e => absurd e (by decide), fun e => absurd e (by decide)⟩
theorem oC_3 {T : mS} {vs : List aVl} {h x y a : Nat} : oC T vs 3 h x y a ↔ (if tI T 5 x = 4 then 0 else 1) + tN T 3 x ≤ tN T 3 h ∧ (tI T 5 x ≠ 4 → tI T 4 (6 * h) = tI T 5 x) ∧ tys T x = ((tys T h).drop (if tI T 5 x = 4 then 0 else 1)).take (tN T 3 x) := ⟨fun q => q.2.2.1 rfl, fun q => ⟨fun e => absurd e (by decide), fun e => absurd e (by decide), fun _ => q, fun e => absurd e (by decide), fun e => absurd e (by decide), fun e => absurd e (by decide), fun e => absurd e (by decide), fun e => absurd e (by decide), fun e => absurd e (by decide), fun e => absurd e (by decide), fun e => absurd e (by decide), fun e => absurd e (by decide)⟩⟩
theorem oC_4 {T : mS} {vs : List aVl} {h x y a : Nat} : oC T vs 4 h x y a ↔ tN T 3 x = 1 ∧ tI T 5 x = tI T 4 (6 * h + a) := ⟨fun q => q.2.2.2.1 rfl, fun q => ⟨fun e => absurd e (by decide), fun e => absurd e (by decide), fun e => absurd e (by decide), fun _ => q, fun e => absurd e (by decide), fun e => absurd e (by decide), fun e => absurd e (by decide), fun e => absurd e (by decide), fun e => absurd e (by decide), fun e => absurd e (by decide), fun e => absurd e (by decide), fun e => absurd e (by decide)⟩⟩
theorem oC_5 {T : mS} {vs : List aVl} {h x y a : Nat} : oC T vs 5 h x y a ↔ tN T 3 x = (if tI T 5 h = 4 then 0 else 1) ∧ ((if tI T 5 h = 4 then 0 else 1) = 1 → tI T 4 (6 * x) = tI T 5 h) := ⟨fun q => q.2.2.2.2.1 rfl, fun q => ⟨fun e => absurd e (by decide), fun e => absurd e (by decide), fun e => absurd e (by decide), fun e => absurd e (by decide), fun _ => q, fun e => absurd e (by decide), fun e => absurd e (by decide), fun e => absurd e (by decide), fun e => absurd e (by decide), fun e => absurd e (by decide), fun e => absurd e (by decide), fun e => absurd e (by decide)⟩⟩
theorem oC_6 {T : mS} {vs : List aVl} {h x y a : Nat} : oC T vs 6 h x y a ↔ tI T 5 h = 0 ∧ (tN T 3 h ≤ tN T 3 x ∧ tys T h = (tys T x).take (tN T 3 h)) ∧ tys T x = tys T y ∧ tI T 5 x = tI T 5 y := ⟨fun q => q.2.2.2.2.2.1 rfl, fun q => ⟨fun e => absurd e (by decide), fun e => absurd e (by decide), fun e => absurd e (by decide), fun e => absurd e (by decide), fun e => absurd e (by decide), fun _ => q, fun e => absurd e (by decide), fun e => absurd e (by decide), fun e => absurd e (by decide), fun e => absurd e (by decide), fun e => absurd e (by decide), fun e => absurd e (by decide)⟩⟩
theorem oC_7 {T : mS} {vs : List aVl} {h x y a : Nat} : oC T vs 7 h x y a ↔ tN T 3 x = tN T 3 h + 1 ∧ tI T 4 (6 * x) = 0 ∧ (tys T x).drop 1 = tys T h ∧ tI T 5 x = tI T 5 h := ⟨fun q => q.2.2.2.2.2.2.1 rfl, fun q => ⟨fun e => absurd e (by decide), fun e => absurd e (by decide), fun e => absurd e (by decide), fun e => absurd e (by decide), fun e => absurd e (by decide), fun e => absurd e (by decide), fun _ => q, fun e => absurd e (by decide), fun e => absurd e (by decide), fun e => absurd e (by decide), fun e => absurd e (by decide), fun e => absurd e (by decide)⟩⟩
theorem oC_8 {T : mS} {vs : List aVl} {h x y a : Nat} : oC T vs 8 h x y a ↔ tN T 3 x = tN T 3 h + 1 ∧ tI T 4 (6 * x) = 0 ∧ (tys T x).drop 1 = tys T h ∧ tI T 5 x = 4 := ⟨fun q => q.2.2.2.2.2.2.2.1 rfl, fun q => ⟨fun e => absurd e (by decide), fun e => absurd e (by decide), fun e => absurd e (by decide), fun e => absurd e (by decide), fun e => absurd e (by decide), fun e => absurd e (by decide), fun e => absurd e (by decide), fun _ => q, fun e => absurd e (by decide), fun e => absurd e (by decide), fun e => absurd e (by decide), fun e => absurd e (by decide)⟩⟩
theorem oC_9 {T : mS} {vs : List aVl} {h x y a : Nat} : oC T vs 9 h x y a ↔ tN T 3 h = 0 ∧ tI T 5 h = 0 ∧ tN T 3 y = 0 ∧ tI T 5 y ≠ 4 ∧ tN T 3 x = 2 ∧ tI T 4 (6 * x) = tI T 5 y ∧ tI T 4 (6 * x + 1) = 0 ∧ tI T 5 x = tI T 5 y := ⟨fun q => q.2.2.2.2.2.2.2.2.1 rfl, fun q => ⟨fun e => absurd e (by decide), fun e => absurd e (by decide), fun e => absurd e (by decide), fun e => absurd e (by decide), fun e => absurd e (by decide), fun e => absurd e (by decide), fun e => absurd e (by decide), fun e => absurd e (by decide), fun _ => q, fun e => absurd e (by decide), fun e => absurd e (by decide), fun e => absurd e (by decide)⟩⟩
theorem oC_10 {T : mS} {vs : List aVl} {h x y a : Nat} : oC T vs 10 h x y a ↔ a ≤ tN T 3 h ∧ ∀ i, tN T 3 h - a ≤ i → i < tN T 3 h → tI T 4 (6 * h + i) = 0 := ⟨fun q => q.2.2.2.2.2.2.2.2.2.1 rfl, fun q => ⟨fun e => absurd e (by decide), fun e => absurd e (by decide), fun e => absurd e (by decide), fun e => absurd e (by decide), fun e => absurd e (by decide), fun e => absurd e (by decide), fun e => absurd e (by decide), fun e => absurd e (by decide), fun e => absurd e (by decide), fun _ => q, fun e => absurd e (by decide), fun e => absurd e (by decide)⟩⟩
theorem oC_11 {T : mS} {vs : List aVl} {h x y a : Nat} : oC T vs 11 h x y a ↔ tN T 3 h ≠ 0 ∧ tI T 4 (6 * h + (tN T 3 h - 1)) = 3 ∧ tN T 3 h - 1 + a ≤ 6 := ⟨fun q => q.2.2.2.2.2.2.2.2.2.2.1 rfl, fun q => ⟨fun e => absurd e (by decide), fun e => absurd e (by decide), fun e => absurd e (by decide), fun e => absurd e (by decide), fun e => absurd e (by decide), fun e => absurd e (by decide), fun e => absurd e (by decide), fun e => absurd e (by decide), fun e => absurd e (by decide), fun e => absurd e (by decide), fun _ => q, fun e => absurd e (by decide)⟩⟩
theorem oC_12 {T : mS} {vs : List aVl} {h x y a : Nat} : oC T vs 12 h x y a ↔ tN T 3 x = tN T 3 h ∧ caB (tI T 5 h) (tI T 5 x) = true ∧ ∀ i, i < tN T 3 h → caB (tI T 4 (6 * x + i)) (tI T 4 (6 * h + i)) = true := ⟨fun q => q.2.2.2.2.2.2.2.2.2.2.2 rfl, fun q => ⟨fun e => absurd e (by decide), fun e => absurd e (by decide), fun e => absurd e (by decide), fun e => absurd e (by decide), fun e => absurd e (by decide), fun e => absurd e (by decide), fun e => absurd e (by decide), fun e => absurd e (by decide), fun e => absurd e (by decide), fun e => absurd e (by decide), fun e => absurd e (by decide), fun _ => q⟩⟩
theorem oT_0 {T : mS} {h x a : Nat} {b : Int32} {ts : List Int32} (q : ts = (tys T h).take a ++ (tys T h).drop (a + 1)) : oT T 0 h x a b ts := ⟨fun _ => q, fun e => absurd e (by decide), fun e => absurd e (by decide), fun e => absurd e (by decide), fun e => absurd e (by decide), fun e => absurd e (by decide), fun e => absurd e (by decide), fun e => absurd e (by decide), fun e => absurd e (by decide)⟩
theorem oT_1 {T : mS} {h x a : Nat} {b : Int32} {ts : List Int32} (q : ts = (tys T h).take a ++ b :: (tys T h).drop a) : oT T 1 h x a b ts := ⟨fun e => absurd e (by decide), fun _ => q, fun e => absurd e (by decide), fun e => absurd e (by decide), fun e => absurd e (by decide), fun e => absurd e (by decide), fun e => absurd e (by decide), fun e => absurd e (by decide), fun e => absurd e (by decide)⟩
theorem oT_2 {T : mS} {h x a : Nat} {b : Int32} {ts : List Int32} (q : ts.length = tN T 3 h ∧ ∀ i, i < tN T 3 h → ts[dgt (nI a) (tN T 3 h) i]? = some (tI T 4 (6 * h + i))) : oT T 2 h x a b ts := ⟨fun e => absurd e (by decide), fun e => absurd e (by decide), fun _ => q, fun e => absurd e (by decide), fun e => absurd e (by decide), fun e => absurd e (by decide), fun e => absurd e (by decide), fun e => absurd e (by decide), fun e => absurd e (by decide)⟩
theorem oT_3 {T : mS} {h x a : Nat} {b : Int32} {ts : List Int32} (q : ts = (tys T h).drop (if tI T 5 x = 4 then 0 else 1)) : oT T 3 h x a b ts := ⟨fun e => absurd e (by decide), fun e => absurd e (by decide), fun e => absurd e (by decide), fun _ => q, fun e => absurd e (by decide), fun e => absurd e (by decide), fun e => absurd e (by decide), fun e => absurd e (by decide), fun e => absurd e (by decide)⟩
theorem oT_4 {T : mS} {h x a : Nat} {b : Int32} {ts : List Int32} (q : ts = (tys T h).take a ++ tI T 4 (6 * x) :: (tys T h).drop (a + 1)) : oT T 4 h x a b ts := ⟨fun e => absurd e (by decide), fun e => absurd e (by decide), fun e => absurd e (by decide), fun e => absurd e (by decide), fun _ => q, fun e => absurd e (by decide), fun e => absurd e (by decide), fun e => absurd e (by decide), fun e => absurd e (by decide)⟩
theorem oT_5 {T : mS} {h x a : Nat} {b : Int32} {ts : List Int32} (q : ts = tys T h) : oT T 5 h x a b ts := ⟨fun e => absurd e (by decide), fun e => absurd e (by decide), fun e => absurd e (by decide), fun e => absurd e (by decide), fun e => absurd e (by decide), fun _ => q, fun e => absurd e (by decide), fun e => absurd e (by decide), fun e => absurd e (by decide)⟩
theorem oT_6 {T : mS} {h x a : Nat} {b : Int32} {ts : List Int32} (q : ts = tys T x) : oT T 6 h x a b ts := ⟨fun e => absurd e (by decide), fun e => absurd e (by decide), fun e => absurd e (by decide), fun e => absurd e (by decide), fun e => absurd e (by decide), fun e => absurd e (by decide), fun _ => q, fun e => absurd e (by decide), fun e => absurd e (by decide)⟩
theorem oT_7 {T : mS} {h x a : Nat} {b : Int32} {ts : List Int32} (q : ts = tys T h) : oT T 7 h x a b ts := ⟨fun e => absurd e (by decide), fun e => absurd e (by decide), fun e => absurd e (by decide), fun e => absurd e (by decide), fun e => absurd e (by decide), fun _ => q, fun e => absurd e (by decide), fun e => absurd e (by decide), fun e => absurd e (by decide)⟩
theorem oT_8 {T : mS} {h x a : Nat} {b : Int32} {ts : List Int32} (q : ts = tys T h) : oT T 8 h x a b ts := ⟨fun e => absurd e (by decide), fun e => absurd e (by decide), fun e => absurd e (by decide), fun e => absurd e (by decide), fun e => absurd e (by decide), fun _ => q, fun e => absurd e (by decide), fun e => absurd e (by decide), fun e => absurd e (by decide)⟩
theorem oT_9 {T : mS} {h x a : Nat} {b : Int32} {ts : List Int32} (q : ts = tys T h) : oT T 9 h x a b ts := ⟨fun e => absurd e (by decide), fun e => absurd e (by decide), fun e => absurd e (by decide), fun e => absurd e (by decide), fun e => absurd e (by decide), fun _ => q, fun e => absurd e (by decide), fun e => absurd e (by decide), fun e => absurd e (by decide)⟩
theorem oT_10 {T : mS} {h x a : Nat} {b : Int32} {ts : List Int32} (q : ts = (tys T h).take (tN T 3 h - a) ++ [3]) : oT T 10 h x a b ts := ⟨fun e => absurd e (by decide), fun e => absurd e (by decide), fun e => absurd e (by decide), fun e => absurd e (by decide), fun e => absurd e (by decide), fun e => absurd e (by decide), fun e => absurd e (by decide), fun _ => q, fun e => absurd e (by decide)⟩
theorem oT_11 {T : mS} {h x a : Nat} {b : Int32} {ts : List Int32} (q : ts = (tys T h).take (tN T 3 h - 1) ++ List.replicate a 0) : oT T 11 h x a b ts := ⟨fun e => absurd e (by decide), fun e => absurd e (by decide), fun e => absurd e (by decide), fun e => absurd e (by decide), fun e => absurd e (by decide), fun e => absurd e (by decide), fun e => absurd e (by decide), fun e => absurd e (by decide), fun _ => q⟩
theorem oT_12 {T : mS} {h x a : Nat} {b : Int32} {ts : List Int32} (q : ts = tys T x) : oT T 12 h x a b ts := ⟨fun e => absurd e (by decide), fun e => absurd e (by decide), fun e => absurd e (by decide), fun e => absurd e (by decide), fun e => absurd e (by decide), fun e => absurd e (by decide), fun _ => q, fun e => absurd e (by decide), fun e => absurd e (by decide)⟩
section
variable {T S : mS} {nh h x y a : Nat} {vs : List aVl}
set_option maxHeartbeats 4000000 in
theorem g_shape (hW : WT T nh) (hT : TB T S) (hV : VA S vs) {j : Nat} (hj : j < 13) (hh : h < nh) {X Y A b : Int32} (hX : lkX j → X = nI x ∧ x < nh) (hY : lkY j → Y = nI y ∧ y < nh) (hA : oV T j h a A b) : SHx S (gX11_shape (nI j) (nI h) X Y A b S) T vs j h x y a b := by
  have h60 := hW.1
  have m6 := (hW.m hh).2
  obtain ⟨S1, e1, w1, q1⟩ := g_takeFrom (k := 0) hW hh hT (Nat.zero_le _)
  rw [nI_0] at e1
  rw [List.drop_zero] at w1
  have T1 := hT.s q1
  have V1 : VA S1 vs := hV.eq q1 rfl rfl rfl
  have tl := tys_len T h
  unfold gX11_shape
  rw [rd3 hT hW hh, o_bs, e1, o_bs]
  obtain rfl | rfl | rfl | rfl | rfl | rfl | rfl | rfl | rfl | rfl | rfl | rfl | rfl : j = 0 ∨ j = 1 ∨ j = 2 ∨ j = 3 ∨ j = 4 ∨ j = 5 ∨ j = 6 ∨ j = 7 ∨ j = 8 ∨ j = 9 ∨ j = 10 ∨ j = 11 ∨ j = 12 := by omega
  · rw [if_pos (show nI 0 = 0 by decide)]
    obtain ⟨rfl, ha⟩ := hA.1 (Or.inl rfl)
    obtain ⟨b1, b2⟩ := g_isBound (T := T) (h := h) (a := a) T1 V1 (by omega) (by omega)
    refine ⟨fun c => ?_, fun c => ?_⟩
    · obtain ⟨S2, e2, v1, v2, q2⟩ := b1 (oC_0.mp c)
      have q2' := q2.mono fC27
      obtain ⟨S3, e3, w3, q3⟩ := g_without (a := a) (w1.e q2 rfl rfl) (by omega)
      rw [e2, o_bs]
      simp only
      rw [if_neg (show ¬ (1 : Int32) = 0 by decide), e3, o_bs, rd5 ((T1.s q2').s (q3.mono fW27)) hW hh, o_bs]
      exact ⟨S3, _, rfl, w3, oT_0 rfl, q1.tr (q2'.tr (q3.mono fW27)), fun _ => ⟨by rw [← (q3 30 rfl).1]; exact v1, by rw [← (q3 31 rfl).2.1]; exact v2⟩⟩
    · obtain ⟨S2, e2, q2⟩ := b2 fun z => c (oC_0.mpr z)
      rw [e2, o_bs, if_pos rfl]
      exact ⟨S2, rfl, q1.tr (q2.mono fC27)⟩
  · rw [if_neg (show ¬ nI 1 = 0 by decide), if_pos (show nI 1 = 1 by decide)]
    obtain ⟨rfl, ha, hb⟩ := hA.2.1 rfl
    obtain ⟨S2, e2, w2, q2⟩ := g_with (a := a) b w1 (by omega) (by omega)
    rw [e2, o_bs, w2.2.1]
    have el : ((tys T h).take a ++ b :: (tys T h).drop a).length = tN T 3 h + 1 := by rw [List.length_append, List.length_take, List.length_cons, List.length_drop]; omega
    rw [el]
    refine shx (S1 := S1) (P := tN T 3 h < 6) (g := tI T 5 h) (ts := (tys T h).take a ++ b :: (tys T h).drop a) ?_ q1 oC_1 rfl (fun _ => oT_1 rfl) (by decide)
    by_cases hn : tN T 3 h < 6
    · rw [if_pos (show nI (tN T 3 h + 1) ≤ 6 from nI_le (b := 6) (by omega) (by decide)), rd5 (T1.s q2) hW hh, o_bs]
      exact sh_yes hn rfl w2 q2
    · rw [if_neg (show ¬ nI (tN T 3 h + 1) ≤ 6 from nI_ge (a := 6) (by omega) (by omega))]
      exact sh_no hn rfl q2
  · rw [if_neg (show ¬ nI 2 = 0 by decide), if_neg (show ¬ nI 2 = 1 by decide), if_pos (show nI 2 = 2 by decide)]
    obtain ⟨rfl, ha, hd, hi⟩ := hA.2.2.1 rfl
    have hp : (10 : Nat) ^ tN T 3 h ≤ 10 ^ 6 := Nat.pow_le_pow_right (by decide) m6
    obtain ⟨S2, e2, e28, e27, q2⟩ := sh_2 hW hT hh (show a < 2 ^ 31 by omega) hd hi (tN T 3 h) 4000 0 S1 T1 (by omega) (by omega) (by rw [w1.2.1, tl]) (fun i hi => by omega)
    rw [nI_0] at e2
    refine ⟨fun _ => ⟨S2, (List.range (tN T 3 h)).map (S2.2.2.1 27), e2, ⟨by simp; omega, by rw [e28]; simp, fun i t hi => ?_⟩, oT_2 ⟨by simp, fun i hi => ?_⟩, q1.tr q2, fun z => absurd z (by decide)⟩, fun c => absurd oC_2 c⟩
    · rw [List.getElem?_map] at hi
      obtain ⟨k, hk, rfl⟩ := Option.map_eq_some_iff.mp hi
      have hl := (List.getElem?_eq_some_iff.mp hk).1
      rw [List.length_range] at hl
      rw [List.getElem?_range hl] at hk
      rw [Option.some.inj hk]
    · rw [List.getElem?_map, List.getElem?_range (hd i hi)]
      show some (S2.2.2.1 27 _) = _
      rw [e27 i hi]
  · rw [if_neg (show ¬ nI 3 = 0 by decide), if_neg (show ¬ nI 3 = 1 by decide), if_neg (show ¬ nI 3 = 2 by decide), if_pos (show nI 3 = 3 by decide)]
    obtain ⟨rfl, hx⟩ := hX (Or.inl (by decide))
    rw [rd5 T1 hW hx, o_bs]
    have H := sh_3 hW T1 hh hx (bh := if tI T 5 x = 4 then 0 else 1) rfl
    refine shx ?_ q1 oC_3 rfl (fun _ => oT_3 rfl) (by decide)
    by_cases h4 : tI T 5 x = 4
    · rw [if_pos h4]
      simp only [if_pos h4] at H ⊢
      exact H
    · rw [if_neg h4]
      simp only [if_neg h4] at H ⊢
      exact H
  · rw [if_neg (show ¬ nI 4 = 0 by decide), if_neg (show ¬ nI 4 = 1 by decide), if_neg (show ¬ nI 4 = 2 by decide), if_neg (show ¬ nI 4 = 3 by decide), if_pos (show nI 4 = 4 by decide)]
    obtain ⟨rfl, hx⟩ := hX (Or.inl (by decide))
    obtain ⟨rfl, ha⟩ := hA.1 (Or.inr rfl)
    have q2 : eqB f27 S1 (sA S1 27 a (tI T 4 (6 * x))) := eqB.A rfl
    have T2 := T1.s q2
    have mx := (hW.m hx).2
    rw [n6, rd4 T1 (by omega), o_bs, mwA_n S1 27 _ _ (by rw [ml_27]; omega) (by omega), o_bs, rd3 T2 hW hx, o_bs]
    have w2 : TW (sA S1 27 a (tI T 4 (6 * x))) ((tys T h).take a ++ tI T 4 (6 * x) :: (tys T h).drop (a + 1)) := by
      have el : ((tys T h).take a ++ tI T 4 (6 * x) :: (tys T h).drop (a + 1)).length = (tys T h).length := by rw [List.length_append, List.length_take, List.length_cons, List.length_drop]; omega
      refine ⟨by omega, by rw [el]; exact w1.2.1, fun i t hi => ?_⟩
      by_cases hia : i = a
      · subst hia
        rw [List.getElem?_append_right (by rw [List.length_take]; omega), List.length_take, Nat.min_eq_left (by omega), Nat.sub_self] at hi
        cases hi
        rw [sA_eq]
      · rw [sA_ne (Or.inr hia)]
        apply w1.2.2
        rw [← hi]
        by_cases hlt : i < a
        · rw [List.getElem?_append_left (by rw [List.length_take]; omega), List.getElem?_take, if_pos hlt]
        · obtain ⟨p, hp⟩ : ∃ p, i - a = p + 1 := ⟨i - a - 1, by omega⟩
          rw [List.getElem?_append_right (by rw [List.length_take]; omega), List.length_take, Nat.min_eq_left (by omega), hp, List.getElem?_cons_succ, List.getElem?_drop]
          congr 1
          omega
    refine shx (S1 := S1) ?_ q1 oC_4 rfl (fun _ => oT_4 rfl) (by decide)
    by_cases h1 : tN T 3 x = 1
    · rw [if_pos (show nI (tN T 3 x) = 1 by rw [h1]; rfl), rd5 T2 hW hx, o_bs, nI_6, rd4 T2 (by omega), o_bs]
      by_cases hg : tI T 5 x = tI T 4 (6 * h + a)
      · rw [if_pos hg, rd5 T2 hW hh, o_bs]
        exact sh_yes ⟨h1, hg⟩ rfl w2 q2
      · rw [if_neg hg]
        exact sh_no (fun q => hg q.2) rfl q2
    · rw [if_neg (show ¬ nI (tN T 3 x) = 1 from fun e => h1 ((nI_eq (b := 1) (by omega) (by decide)).mp e))]
      exact sh_no (fun q => h1 q.1) rfl q2
  · rw [if_neg (show ¬ nI 5 = 0 by decide), if_neg (show ¬ nI 5 = 1 by decide), if_neg (show ¬ nI 5 = 2 by decide), if_neg (show ¬ nI 5 = 3 by decide), if_neg (show ¬ nI 5 = 4 by decide), if_pos (show nI 5 = 5 by decide)]
    obtain ⟨rfl, hx⟩ := hX (Or.inl (by decide))
    rw [rd5 T1 hW hh, o_bs]
    have H := sh_5 hW T1 hh hx w1 (one := if tI T 5 h = 4 then 0 else 1) rfl
    refine shx ?_ q1 oC_5 rfl (fun _ => oT_5 rfl) (by decide)
    by_cases h4 : tI T 5 h = 4
    · rw [if_pos h4]
      simp only [if_pos h4] at H ⊢
      exact H
    · rw [if_neg h4]
      simp only [if_neg h4] at H ⊢
      exact H
  · rw [if_neg (show ¬ nI 6 = 0 by decide), if_neg (show ¬ nI 6 = 1 by decide), if_neg (show ¬ nI 6 = 2 by decide), if_neg (show ¬ nI 6 = 3 by decide), if_neg (show ¬ nI 6 = 4 by decide), if_neg (show ¬ nI 6 = 5 by decide), if_pos (show nI 6 = 6 by decide)]
    obtain ⟨rfl, hx⟩ := hX (Or.inl (by decide))
    obtain ⟨rfl, hy⟩ := hY (Or.inl rfl)
    have mx := (hW.m hx).2
    have my := (hW.m hy).2
    obtain ⟨S2, e2, w2, q2⟩ := g_takeFrom (k := 0) hW hx T1 (Nat.zero_le _)
    rw [nI_0] at e2
    rw [List.drop_zero] at w2
    have T2 := T1.s q2
    rw [e2, o_bs, rd5 T2 hW hh, o_bs]
    refine shx (S1 := S1) ?_ q1 oC_6 rfl (fun _ => oT_6 rfl) (by decide)
    by_cases h0 : tI T 5 h = 0
    · rw [if_pos h0, show gX11_begins (nI h) 0 (nI x) 0 S2 = _ from g_begins (fx := 0) (fh := 0) hW T2 hh hx (Nat.zero_le _) (Nat.zero_le _), o_bs]
      have k1 := bgB_iff (T := T) (x := h) (fx := 0) (h := x) (fh := 0) (Nat.zero_le _) (Nat.zero_le _)
      rw [Nat.sub_zero, Nat.sub_zero, List.drop_zero, List.drop_zero] at k1
      by_cases hb : bgB T h 0 x 0 = true
      · rw [if_pos hb]
        simp only
        rw [if_neg (show ¬ (1 : Int32) = 0 by decide), rd3 T2 hW hx, o_bs, rd3 T2 hW hy, o_bs]
        by_cases hm : tN T 3 x = tN T 3 y
        · rw [if_pos (show nI (tN T 3 x) = nI (tN T 3 y) by rw [hm]), show gX11_begins (nI x) 0 (nI y) 0 S2 = _ from g_begins (fx := 0) (fh := 0) hW T2 hx hy (Nat.zero_le _) (Nat.zero_le _), o_bs]
          have k2 := bgB_iff (T := T) (x := x) (fx := 0) (h := y) (fh := 0) (Nat.zero_le _) (Nat.zero_le _)
          rw [Nat.sub_zero, Nat.sub_zero, List.drop_zero, List.drop_zero, hm, List.take_of_length_le (l := tys T y) (Nat.le_of_eq (tys_len T y))] at k2
          by_cases hb2 : bgB T x 0 y 0 = true
          · rw [if_pos hb2]
            simp only
            rw [if_neg (show ¬ (1 : Int32) = 0 by decide), rd5 T2 hW hx, o_bs, rd5 T2 hW hy, o_bs, o_bs]
            by_cases hg : tI T 5 x = tI T 5 y
            · rw [if_pos hg]
              exact sh_yes ⟨h0, k1.mp hb, (k2.mp hb2).2, hg⟩ rfl w2 q2
            · rw [if_neg hg]
              exact sh_no (fun q => hg q.2.2.2) rfl q2
          · rw [if_neg hb2, if_pos rfl]
            exact sh_no (fun q => hb2 (k2.mpr ⟨Nat.le_refl _, q.2.2.1⟩)) rfl q2
        · rw [if_neg (fun e => hm ((nI_eq (by omega) (by omega)).mp e))]
          exact sh_no (fun q => hm (by rw [← tys_len, ← tys_len, q.2.2.1])) rfl q2
      · rw [if_neg hb, if_pos rfl]
        exact sh_no (fun q => hb (k1.mpr q.2.1)) rfl q2
    · rw [if_neg h0]
      exact sh_no (fun q => h0 q.1) rfl q2
  · rw [if_neg (show ¬ nI 7 = 0 by decide), if_neg (show ¬ nI 7 = 1 by decide), if_neg (show ¬ nI 7 = 2 by decide), if_neg (show ¬ nI 7 = 3 by decide), if_neg (show ¬ nI 7 = 4 by decide), if_neg (show ¬ nI 7 = 5 by decide), if_neg (show ¬ nI 7 = 6 by decide), if_pos (show nI 7 = 7 by decide)]
    obtain ⟨rfl, hx⟩ := hX (Or.inl (by decide))
    exact shx (sh_7 (f := nI 7) hW T1 hh hx w1) q1 oC_7 rfl (fun _ => oT_7 rfl) (by decide)
  · rw [if_neg (show ¬ nI 8 = 0 by decide), if_neg (show ¬ nI 8 = 1 by decide), if_neg (show ¬ nI 8 = 2 by decide), if_neg (show ¬ nI 8 = 3 by decide), if_neg (show ¬ nI 8 = 4 by decide), if_neg (show ¬ nI 8 = 5 by decide), if_neg (show ¬ nI 8 = 6 by decide), if_neg (show ¬ nI 8 = 7 by decide), if_pos (show nI 8 = 8 by decide)]
    obtain ⟨rfl, hx⟩ := hX (Or.inl (by decide))
    exact shx (sh_7 (f := nI 8) hW T1 hh hx w1) q1 oC_8 rfl (fun _ => oT_8 rfl) (by decide)
  · rw [if_neg (show ¬ nI 9 = 0 by decide), if_neg (show ¬ nI 9 = 1 by decide), if_neg (show ¬ nI 9 = 2 by decide), if_neg (show ¬ nI 9 = 3 by decide), if_neg (show ¬ nI 9 = 4 by decide), if_neg (show ¬ nI 9 = 5 by decide), if_neg (show ¬ nI 9 = 6 by decide), if_neg (show ¬ nI 9 = 7 by decide), if_neg (show ¬ nI 9 = 8 by decide), if_pos (show nI 9 = 9 by decide)]
    obtain ⟨rfl, hx⟩ := hX (Or.inl (by decide))
    obtain ⟨rfl, hy⟩ := hY (Or.inr rfl)
    have mx := (hW.m hx).2
    have my := (hW.m hy).2
    refine shx (S1 := S1) ?_ q1 oC_9 rfl (fun _ => oT_9 rfl) (by decide)
    unfold gX11_shape_634
    rw [rd5 T1 hW hy, o_bs]
    have cz : ∀ n : Nat, n ≤ 6 → ((nI n = 0) ↔ n = 0) := fun n hn => by rw [← nI_0]; exact nI_eq (by omega) (by decide)
    by_cases h0 : tN T 3 h = 0
    · rw [if_pos ((cz _ m6).mpr h0), rd5 T1 hW hh, o_bs]
      by_cases h5 : tI T 5 h = 0
      · rw [if_pos h5, rd3 T1 hW hy, o_bs]
        by_cases hy0 : tN T 3 y = 0
        · rw [if_pos ((cz _ my).mpr hy0)]
          by_cases hy5 : tI T 5 y = 4
          · rw [if_pos hy5]
            exact sh_no (fun q => q.2.2.2.1 hy5) rfl eqB.rf
          · rw [if_neg hy5, rd3 T1 hW hx, o_bs]
            by_cases hx2 : tN T 3 x = 2
            · rw [if_pos (show nI (tN T 3 x) = 2 by rw [hx2]; rfl), n6, rd4 T1 (by omega), o_bs]
              by_cases g1 : tI T 4 (6 * x) = tI T 5 y
              · rw [if_pos g1, show nI (6 * x) + 1 = nI (6 * x + 1) from nI_1 _, rd4 T1 (by omega), o_bs]
                by_cases g2 : tI T 4 (6 * x + 1) = 0
                · rw [if_pos g2, rd5 T1 hW hx, o_bs]
                  by_cases g3 : tI T 5 x = tI T 5 y
                  · rw [if_pos g3]
                    exact sh_yes ⟨h0, h5, hy0, hy5, hx2, g1, g2, g3⟩ rfl w1 eqB.rf
                  · rw [if_neg g3]
                    exact sh_no (fun q => g3 q.2.2.2.2.2.2.2) rfl eqB.rf
                · rw [if_neg g2]
                  exact sh_no (fun q => g2 q.2.2.2.2.2.2.1) rfl eqB.rf
              · rw [if_neg g1]
                exact sh_no (fun q => g1 q.2.2.2.2.2.1) rfl eqB.rf
            · rw [if_neg (show ¬ nI (tN T 3 x) = 2 from fun e => hx2 ((nI_eq (b := 2) (by omega) (by decide)).mp e))]
              exact sh_no (fun q => hx2 q.2.2.2.2.1) rfl eqB.rf
        · rw [if_neg (fun e => hy0 ((cz _ my).mp e))]
          exact sh_no (fun q => hy0 q.2.2.1) rfl eqB.rf
      · rw [if_neg h5]
        exact sh_no (fun q => h5 q.2.1) rfl eqB.rf
    · rw [if_neg (fun e => h0 ((cz _ m6).mp e))]
      exact sh_no (fun q => h0 q.1) rfl eqB.rf
  · rw [if_neg (show ¬ nI 10 = 0 by decide), if_neg (show ¬ nI 10 = 1 by decide), if_neg (show ¬ nI 10 = 2 by decide), if_neg (show ¬ nI 10 = 3 by decide), if_neg (show ¬ nI 10 = 4 by decide), if_neg (show ¬ nI 10 = 5 by decide), if_neg (show ¬ nI 10 = 6 by decide), if_neg (show ¬ nI 10 = 7 by decide), if_neg (show ¬ nI 10 = 8 by decide), if_neg (show ¬ nI 10 = 9 by decide), if_pos (show nI 10 = 10 by decide)]
    obtain ⟨rfl, ha1, ha6⟩ := hA.2.2.2.1 rfl
    refine shx (S1 := S1) ?_ q1 oC_10 rfl (fun _ => oT_10 rfl) (by decide)
    by_cases hn : tN T 3 h < a
    · rw [if_pos (nI_lt hn (by omega))]
      have e0 : gX11_shape_670 4000 (nI h) (nI a) (nI (tN T 3 h)) 0 (nI (tN T 3 h) - nI a) S1 = some (-1, S1) := by
        rw [gX11_shape_670]
        unfold gX11_shape_710
        simp only [if_true, ite_self]
      exact sh_no (fun q => by omega) e0 eqB.rf
    · rw [if_neg (nI_nlt (by omega) (by omega)), nI_subN (by omega)]
      have H := sh_10 hW T1 hh w1 ha6 (show a ≤ tN T 3 h by omega) a 4000 (tN T 3 h - a) true (by omega) (Nat.le_refl _) (by omega)
      rw [if_pos rfl] at H
      exact ⟨fun q => H.1 ⟨rfl, q.2⟩, fun q => H.2 fun q2 => q ⟨by omega, q2.2⟩⟩
  · rw [if_neg (show ¬ nI 11 = 0 by decide), if_neg (show ¬ nI 11 = 1 by decide), if_neg (show ¬ nI 11 = 2 by decide), if_neg (show ¬ nI 11 = 3 by decide), if_neg (show ¬ nI 11 = 4 by decide), if_neg (show ¬ nI 11 = 5 by decide), if_neg (show ¬ nI 11 = 6 by decide), if_neg (show ¬ nI 11 = 7 by decide), if_neg (show ¬ nI 11 = 8 by decide), if_neg (show ¬ nI 11 = 9 by decide), if_neg (show ¬ nI 11 = 10 by decide), if_pos (show nI 11 = 11 by decide)]
    obtain ⟨rfl, ha5⟩ := hA.2.2.2.2 rfl
    refine shx (S1 := S1) ?_ q1 oC_11 rfl (fun _ => oT_11 rfl) (by decide)
    by_cases h0 : tN T 3 h = 0
    · rw [if_pos (show nI (tN T 3 h) = 0 by rw [h0]; rfl)]
      exact sh_no (fun q => q.1 h0) rfl eqB.rf
    · obtain ⟨m, hm⟩ : ∃ m, tN T 3 h = m + 1 := ⟨tN T 3 h - 1, by omega⟩
      rw [if_neg (nI_ne0 (by omega) (by omega)), nI_6, hm, show 6 * h + (m + 1) = (6 * h + m) + 1 by omega, nI_p1, rd4 T1 (by omega), o_bs, nI_p1, nI_add, Nat.add_sub_cancel]
      by_cases h3 : tI T 4 (6 * h + m) = 3
      · rw [if_pos h3]
        by_cases hl : m + a ≤ 6
        · rw [if_pos (show nI (m + a) ≤ 6 from nI_le (b := 6) hl (by decide))]
          have q2 : eqB f27 S1 (sI S1 28 (nI m)) := eqB.I rfl
          have w2 : TW (sI S1 28 (nI m)) ((tys T h).take m) := ⟨by rw [List.length_take]; omega, by rw [List.length_take, tl, Nat.min_eq_left (by omega)]; simp [sI, va_up], fun i t hi => by
            rw [List.getElem?_take] at hi
            split at hi
            · exact w1.2.2 i t hi
            · cases hi⟩
          obtain ⟨S2, e2, w3, q3⟩ := sh_11 (a := a) hW hT hh a 4000 0 (sI S1 28 (nI m)) ((tys T h).take m) (T1.s q2) w2 (by omega) (by omega) (by omega) (by rw [List.length_take]; omega)
          rw [nI_0] at e2
          exact sh_yes ⟨by omega, h3, hl⟩ e2 w3 (q2.tr q3)
        · rw [if_neg (show ¬ nI (m + a) ≤ 6 from nI_ge (a := 6) (by omega) (by omega))]
          exact sh_no (fun q => hl q.2.2) rfl eqB.rf
      · rw [if_neg h3]
        exact sh_no (fun q => h3 q.2.1) rfl eqB.rf
  · rw [if_neg (show ¬ nI 12 = 0 by decide), if_neg (show ¬ nI 12 = 1 by decide), if_neg (show ¬ nI 12 = 2 by decide), if_neg (show ¬ nI 12 = 3 by decide), if_neg (show ¬ nI 12 = 4 by decide), if_neg (show ¬ nI 12 = 5 by decide), if_neg (show ¬ nI 12 = 6 by decide), if_neg (show ¬ nI 12 = 7 by decide), if_neg (show ¬ nI 12 = 8 by decide), if_neg (show ¬ nI 12 = 9 by decide), if_neg (show ¬ nI 12 = 10 by decide), if_neg (show ¬ nI 12 = 11 by decide)]
    obtain ⟨rfl, hx⟩ := hX (Or.inr rfl)
    have mx := (hW.m hx).2
    refine shx (S1 := S1) ?_ q1 oC_12 rfl (fun _ => oT_12 rfl) (by decide)
    rw [rd3 T1 hW hx, o_bs]
    have H0 := sh_12 hW T1 hh hx (tN T 3 h) 4000 0 false (by omega) (by omega) (fun q => absurd q (by decide))
    rw [if_neg (by decide), nI_0] at H0
    by_cases hm : tN T 3 x = tN T 3 h
    · rw [if_pos (show nI (tN T 3 x) = nI (tN T 3 h) by rw [hm]), rd5 T1 hW hh, o_bs, rd5 T1 hW hx, o_bs, g_ca, o_bs]
      by_cases hc : caB (tI T 5 h) (tI T 5 x) = true
      · rw [if_pos hc]
        simp only
        rw [if_neg (show ¬ (1 : Int32) = 0 by decide)]
        have H := sh_12 hW T1 hh hx (tN T 3 h) 4000 0 true (by omega) (by omega) (fun _ => hm)
        rw [if_pos rfl, nI_0] at H
        exact ⟨fun q => H.1 ⟨rfl, fun i _ h2 => q.2.2 i h2⟩, fun q => H.2 fun q2 => q ⟨hm, hc, fun i h2 => q2.2 i (Nat.zero_le _) h2⟩⟩
      · rw [if_neg hc]
        simp only
        rw [if_pos trivial]
        exact ⟨fun q => absurd q.2.1 hc, fun _ => H0.2 fun q => absurd q.1 (by decide)⟩
    · rw [if_neg (fun e => hm ((nI_eq (by omega) (by omega)).mp e))]
      exact ⟨fun q => absurd q.1 hm, fun _ => H0.2 fun q => absurd q.1 (by decide)⟩
end
