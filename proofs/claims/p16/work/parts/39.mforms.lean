/-! THE REFERENCE: oneOther, form by form. My own rows. -/
def ooB (x101 x102 x103 x104 x105 x106 x1 x2 : Int32) (q109 : mS) : Option mS :=
  (if (x101 - 20) = 0 then
  (gX11_addOwn x1 0 x104 q109).bind fun q110 =>
  (mrA q110 11 x2).bind fun x111 =>
  (mrB q110 12 x2).bind fun j112 =>
  (gX11_add x111 j112 q110).bind fun q113 =>
  (gX11_addOwn x1 x104 x105 q113).bind fun q114 =>
  (gX11_last x1 x102 q114).bind fun q115 =>
  some q115
  else
  (if (x101 - 20) = 1 then
  (gX11_addOwn x1 0 x104 q109).bind fun q116 =>
  (gX11_addOwn x1 (x104 + 1) x105 q116).bind fun q117 =>
  (gX11_last x1 x102 q117).bind fun q118 =>
  some q118
  else
  (if (x101 - 20) = 2 then
  gX11_oneOther_203 4000 x1 x102 x104 x105 0 q109
  else
  (if (x101 - 20) = 3 then
  (if x106 = 0 then
  (mrA q109 3 x103).bind fun x121 =>
  (gX11_addOwn x1 0 x121 q109).bind fun q122 =>
  (gX11_calls x103 q122).bind fun q123 =>
  some q123
  else
  (mrA q109 5 x103).bind fun x119 =>
  (if x119 = 4 then
  gX11_oneOther_298 x1 x102 x105 q109
  else
  (gX11_add (q109.1 30) (q109.2.1 31) q109).bind fun q120 =>
  gX11_oneOther_298 x1 x102 x105 q120))
  else
  (if (x101 - 20) = 4 then
  (if x106 = 0 then
  (gX11_addOwn x1 x104 (x104 + 1) q109).bind fun q128 =>
  (gX11_calls x103 q128).bind fun q129 =>
  some q129
  else
  (gX11_addOwn x1 0 x104 q109).bind fun q124 =>
  (gX11_add (q124.1 30) (q124.2.1 31) q124).bind fun q125 =>
  (gX11_addOwn x1 (x104 + 1) x105 q125).bind fun q126 =>
  (gX11_last x1 x102 q126).bind fun q127 =>
  some q127)
  else
  (if (x101 - 20) = 5 then
  (if x106 = 0 then
  (gX11_addOwn x1 0 x105 q109).bind fun q134 =>
  (gX11_calls x102 q134).bind fun q135 =>
  some q135
  else
  (mrA q109 5 x102).bind fun x130 =>
  (if x130 = 4 then
  (gX11_last x1 x103 q109).bind fun q131 =>
  some q131
  else
  (gX11_add (q109.1 30) (q109.2.1 31) q109).bind fun q132 =>
  (gX11_last x1 x103 q132).bind fun q133 =>
  some q133))
  else
  (if (x101 - 20) = 6 then
  (if x106 = 0 then
  (mrA q109 3 x102).bind fun x136 =>
  gX11_oneOther_457 x1 x2 x102 x103 x106 x1 0 x136 q109
  else
  gX11_oneOther_457 x1 x2 x102 x103 x106 x1 0 x105 q109)
  else
  (if (x101 - 20) = 7 then
  (if x106 = 0 then
  (gX11_addOwn x1 0 x105 q109).bind fun q142 =>
  (gX11_calls x102 q142).bind fun q143 =>
  some q143
  else
  (gX11_isCaught x104 q109).bind fun q137 =>
  (if q137.1 = 0 then
  (gX11_over  q137.2).bind fun q138 =>
  some q138
  else
  (gX11_add 0 (Int32.toInt64 (q137.2.1 29)) q137.2).bind fun q139 =>
  (gX11_addOwn x1 0 x105 q139).bind fun q140 =>
  (gX11_last x1 x103 q140).bind fun q141 =>
  some q141))
  else
  (if (x101 - 20) = 8 then
  (gX11_ends x1 x106 x102 x103 x105 q109).bind fun q144 =>
  some q144
  else
  (if (x101 - 20) = 9 then
  (mrA q109 8 x2).bind fun x145 =>
  (gX11_rounds x1 x106 x102 x103 x145 q109).bind fun q146 =>
  some q146
  else
  (if (x101 - 20) = 10 then
  (gX11_spreads x1 x102 x104 x105 q109).bind fun q147 =>
  some q147
  else
  (if (x101 - 20) = 11 then
  (if (q109.1 13) = 60 then
  (gX11_fails 10 q109).bind fun q149 =>
  some q149
  else
  (gX11_newRow x104 q109).bind fun q148 =>
  gX11_oneOther_647 4000 x1 x102 x104 x105 q148.1 0 q148.2)
  else
  (gX11_adapts x1 x106 x2 x102 x105 q109).bind fun q150 =>
  some q150))))))))))))
abbrev S0_ (S : mS) (p : Nat) (s : Int32) : mS := sI (sA S 36 p (s + 1)) 46 0
set_option maxHeartbeats 1000000 in
theorem oo_eq {T S : mS} {p c : Nat} {as : List aVl} {R : aRS} {s : Int32} (h : FS T S p c as R s) (hp : p < 80) (hc : c < 60) : gX11_oneOther (nI p) (nI c) S = ooB (tI T 2 c) (tI T 6 c) (tI T 7 c) (tI T 9 c) (tI T 3 c) s (nI p) (nI c) (S0_ S p s) := by
  obtain ⟨h33, hof, hst, hFV, hTB, hR⟩ := h
  unfold gX11_oneOther
  rw [mrA_n S 2 _ (by rw [ml_2]; omega) (by omega), o_bs, mrA_n S 6 _ (by rw [ml_6]; omega) (by omega), o_bs, mrA_n S 7 _ (by rw [ml_7]; omega) (by omega), o_bs, mrA_n S 9 _ (by rw [ml_9]; omega) (by omega), o_bs, mrA_n S 3 _ (by rw [ml_3]; omega) (by omega), o_bs, mrA_n S 36 _ (by rw [ml_36]; omega) (by omega), o_bs, o_bs, mwA_n S 36 _ _ (by rw [ml_36]; omega) (by omega), o_bs, hst]
  rw [show gX11_begin (sA S 36 p (s + 1)) = some (S0_ S p s) from rfl, o_bs]
  rw [show S.2.2.1 2 c = tI T 2 c by rw [(hTB 2 (by decide) (by decide)).1], show S.2.2.1 6 c = tI T 6 c by rw [(hTB 6 (by decide) (by decide)).1], show S.2.2.1 7 c = tI T 7 c by rw [(hTB 7 (by decide) (by decide)).1], show S.2.2.1 9 c = tI T 9 c by rw [(hTB 9 (by decide) (by decide)).1], show S.2.2.1 3 c = tI T 3 c by rw [(hTB 3 (by decide) (by decide)).1]]
  rfl
theorem FS.eq {T S S2 : mS} {p c : Nat} {as : List aVl} {R : aRS} {s : Int32} {f : Nat → Bool} (h : FS T S p c as R s) (q : eqB f S S2) (hf : ∀ k, k < 47 → (k ≤ 25 ∨ (32 ≤ k ∧ k ≤ 43)) → f k = false) : FS T S2 p c as R s :=
  ⟨by rw [← (q 33 (hf 33 (by decide) (by decide))).1]; exact h.1, by rw [← (q 35 (hf 35 (by decide) (by decide))).2.2.1]; exact h.2.1, by rw [← (q 36 (hf 36 (by decide) (by decide))).2.2.1]; exact h.2.2.1, h.2.2.2.1.eq q (hf 37 (by decide) (by decide)) (hf 38 (by decide) (by decide)), h.2.2.2.2.1.eq q (fun k h1 h2 => hf k (by omega) (by omega)), h.2.2.2.2.2.eq q (hf 32 (by decide) (by decide)) (hf 13 (by decide) (by decide)) (hf 14 (by decide) (by decide)) (hf 15 (by decide) (by decide)) (hf 25 (by decide) (by decide))⟩
theorem FS.ar {T S S2 : mS} {p c : Nat} {as : List aVl} {R : aRS} {s : Int32} (h : FS T S p c as R s) (q : eqB fArg S S2) : FS T S2 p c as R s := h.eq q (fun k _ h2 => by simp [fArg]; omega)
theorem fr_ar {S S2 : mS} {p : Nat} (q : eqB fArg S S2) : FR p S S2 := FR.eq q (fun k h1 h2 => by simp [fArg]; omega)
theorem rc_ar {S S2 : mS} (q : eqB fArg S S2) : eqB RCb S S2 := rc_of q (by decide +kernel) (fun k hk => by simp [fArg]; omega)
/-- behind the beginning of a round -/
theorem s0_ok {T S : mS} {p c : Nat} {as : List aVl} {R : aRS} {s : Int32} (h : FS T S p c as R s) : FS T (S0_ S p s) p c as R (s + 1) ∧ AB (S0_ S p s) [] ∧ FR p S (S0_ S p s) ∧ eqB RCb S (S0_ S p s) ∧ eqB (fun k => k == 36 || k == 46) S (S0_ S p s) := by
  have q : eqB (fun k => k == 36 || k == 46) S (S0_ S p s) := (eqB.A rfl).tr (eqB.I rfl)
  refine ⟨⟨h.1, by rw [← (q 35 rfl).2.2.1]; exact h.2.1, by simp [S0_, sI, sA, va_up], h.2.2.2.1.eq q rfl rfl, h.2.2.2.2.1.eq q (fun k h1 h2 => by simp; omega), h.2.2.2.2.2.eq q rfl rfl rfl rfl rfl⟩, ⟨by simp [S0_, sI, va_up]; rfl, fun i v hi => by simp at hi⟩, ⟨fun j hj => ⟨rfl, by simp only [S0_, sI, sA, va_up, if_true]; rw [if_neg (by omega)], rfl, rfl, rfl, rfl, rfl⟩, fun j _ => ⟨rfl, rfl⟩⟩, rc_of q (by decide +kernel) (fun k hk => by simp; omega), q⟩
/-- a state on the way of a round: the arguments so far -/
def PR (T S S2 : mS) (p c : Nat) (as : List aVl) (R : aRS) (s : Int32) (bs : List aVl) : Prop := FS T S2 p c as R s ∧ AB S2 bs ∧ FR p S S2 ∧ eqB RCb S S2
theorem PR.ar {T S S2 S3 : mS} {p c : Nat} {as : List aVl} {R : aRS} {s : Int32} {bs bs2 : List aVl} (h : PR T S S2 p c as R s bs) (hA : AB S3 bs2) (q : eqB fArg S2 S3) : PR T S S3 p c as R s bs2 := ⟨h.1.ar q, hA, h.2.2.1.tr (fr_ar q), h.2.2.2.tr (rc_ar q)⟩
theorem pr_0 {T S : mS} {p c : Nat} {as : List aVl} {R : aRS} {s : Int32} (h : FS T S p c as R s) : PR T S (S0_ S p s) p c as R (s + 1) [] := ⟨(s0_ok h).1, (s0_ok h).2.1, (s0_ok h).2.2.1, (s0_ok h).2.2.2.1⟩
theorem pr_own {T S S2 : mS} {p c : Nat} {as : List aVl} {R : aRS} {s : Int32} {bs : List aVl} (h : PR T S S2 p c as R s bs) (hp : p < 80) (a b : Nat) (hab : a ≤ b) (hb : b ≤ as.length) (h7 : as.length ≤ 7) (hl : bs.length + (b - a) ≤ 12) : ∃ S3, gX11_addOwn (nI p) (nI a) (nI b) S2 = some S3 ∧ PR T S S3 p c as R s (bs ++ (as.drop a).take (b - a)) := by
  obtain ⟨S3, e, hA, q⟩ := g_addOwn (by omega) h.2.1 h.1.2.2.2.1 hab hb h7 hl
  exact ⟨S3, e, h.ar hA q⟩
theorem pr_take {T S S2 : mS} {p c : Nat} {as : List aVl} {R : aRS} {s : Int32} {bs : List aVl} (h : PR T S S2 p c as R s bs) (hp : p < 80) (b : Nat) (hb : b ≤ as.length) (h7 : as.length ≤ 7) (hl : bs.length + b ≤ 12) : ∃ S3, gX11_addOwn (nI p) 0 (nI b) S2 = some S3 ∧ PR T S S3 p c as R s (bs ++ as.take b) := by
  obtain ⟨S3, e, h3⟩ := pr_own h hp 0 b (by omega) hb h7 (by omega)
  rw [nI_0] at e
  exact ⟨S3, e, by simpa using h3⟩
theorem pr_all {T S S2 : mS} {p c : Nat} {as : List aVl} {R : aRS} {s : Int32} {bs : List aVl} (h : PR T S S2 p c as R s bs) (hp : p < 80) (m : Nat) (hm : m = as.length) (h7 : as.length ≤ 7) (hl : bs.length + m ≤ 12) : ∃ S3, gX11_addOwn (nI p) 0 (nI m) S2 = some S3 ∧ PR T S S3 p c as R s (bs ++ as) := by
  obtain ⟨S3, e, h3⟩ := pr_take h hp m (by omega) h7 hl
  rw [List.take_of_length_le (by omega)] at h3
  exact ⟨S3, e, h3⟩
theorem pr_drop {T S S2 : mS} {p c : Nat} {as : List aVl} {R : aRS} {s : Int32} {bs : List aVl} (h : PR T S S2 p c as R s bs) (hp : p < 80) (a m : Nat) (hm : m = as.length) (ha : a ≤ m) (h7 : as.length ≤ 7) (hl : bs.length + (m - a) ≤ 12) : ∃ S3, gX11_addOwn (nI p) (nI a) (nI m) S2 = some S3 ∧ PR T S S3 p c as R s (bs ++ as.drop a) := by
  obtain ⟨S3, e, h3⟩ := pr_own h hp a m ha (by omega) h7 hl
  rw [List.take_of_length_le (by rw [List.length_drop]; omega)] at h3
  exact ⟨S3, e, h3⟩
theorem pr_add {T S S2 : mS} {p c : Nat} {as : List aVl} {R : aRS} {s : Int32} {bs : List aVl} (h : PR T S S2 p c as R s bs) (hl : bs.length < 12) (kd : Int32) (v : Int64) : ∃ S3, gX11_add kd v S2 = some S3 ∧ PR T S S3 p c as R s (bs ++ [(kd, v)]) ∧ S3.1 29 = S2.1 29 ∧ S3.1 30 = S2.1 30 ∧ S3.2.1 31 = S2.2.1 31 := by
  obtain ⟨S3, e, hA, q⟩ := g_add h.2.1 hl kd v
  exact ⟨S3, e, h.ar hA q, ((q 29 rfl).1).symm, ((q 30 rfl).1).symm, ((q 31 rfl).2.1).symm⟩
/-- what every form has at hand -/
def HF (T S : mS) (nh p c : Nat) (as : List aVl) (R : aRS) : Prop := FS T S p c as R 0 ∧ WT T nh ∧ p < 80 ∧ p + 1 ≤ R.1 ∧ c < nh ∧ as.length = tN T 3 c ∧ 20 ≤ tI T 2 c
def OUT_ (S : mS) (p : Nat) (f : Int32) (v : aVl) (R R2 : aRS) : Prop := 0 ≤ f ∧ R.1 ≤ R2.1 ∧ FE S p f v R R2
theorem out_last {T S S1 : mS} {nh p c x : Nat} {as as2 : List aVl} {R R2 : aRS} {s f : Int32} {v : aVl} {rec : aRec} (ih : MR T nh rec) (h : FS T S p c as R s) (h7 : as.length ≤ 7) (hp : p < 80) (hc : c < 60) (hF20 : 20 ≤ tI T 2 c) (hs : s ≤ 0 ∨ (s ≠ 9 ∧ (S.1 29 ≤ 0 ∨ tI T 2 c = 27 ∨ tI T 2 c = 28)))
    (he : gX11_oneOther (nI p) (nI c) S = (gX11_last (nI p) (nI x) S1).bind fun q => some q) (h1 : PR T S S1 p c as R (s + 1) as2) (hr : rec x as2 R = some (f, v, R2)) (hx : x < nh) (hl : as2.length = tN T 3 x) (hpR : p + 1 ≤ R.1) : OUT_ S p f v R R2 := by
  obtain ⟨a, b, d⟩ := last_ ih h h7 hp hc hF20 hs he h1.1 h1.2.1 hr hx hl rfl hpR h1.2.2.1 h1.2.2.2
  exact ⟨a, by omega, d⟩
theorem bs_some (x : Option mS) : (x.bind fun q => some q) = x := by cases x <;> rfl
theorem m_20 {T S : mS} {nh p c : Nat} {as : List aVl} {R R2 : aRS} {f : Int32} {v : aVl} {rec : aRec} (ih : MR T nh rec) (H : HF T S nh p c as R) (hF : tI T 2 c = 20) (hH : tP T nh 6 c) (hM : tI T 3 c = nI (tN T 3 c) ∧ tN T 3 c ≤ 6) (hA : tI T 9 c = nI (tN T 9 c)) (ha : tN T 9 c ≤ tN T 3 c) (hm : tN T 3 (tN T 6 c) = tN T 3 c + 1) (hs : so T rec c as R = some (f, v, R2)) : OUT_ S p f v R R2 := by
  obtain ⟨hFS, hW, hp, hpR, hc, hlen, hF20⟩ := H
  have hc60 : c < 60 := Nat.lt_of_lt_of_le hc hW.1
  unfold so at hs
  rw [if_pos hF] at hs
  have e0 := oo_eq hFS hp hc60
  unfold ooB at e0
  rw [hF, if_pos (by decide), hH.1, hA, hM.1] at e0
  obtain ⟨S1, e1, p1⟩ := pr_take (pr_0 hFS) hp (tN T 9 c) (by omega) (by omega) (by simp; omega)
  rw [e1, o_bs, mrA_n S1 11 _ (by rw [ml_11]; omega) (by omega), o_bs, mrB_n S1 12 _ (by rw [ml_12]; omega) (by omega), o_bs] at e0
  obtain ⟨S2, e2, p2, -⟩ := pr_add p1 (by simp; omega) (S1.2.2.1 11 c) (S1.2.2.2 12 c)
  obtain ⟨S3, e3, p3⟩ := pr_drop p2 hp (tN T 9 c) (tN T 3 c) (by omega) ha (by omega) (by simp; omega)
  rw [e2, o_bs, e3, o_bs] at e0
  rw [show S1.2.2.1 11 c = tI T 11 c by rw [(p1.1.2.2.2.2.1 11 (by decide) (by decide)).1], show S1.2.2.2 12 c = T.2.2.2 12 c by rw [(p1.1.2.2.2.2.1 12 (by decide) (by decide)).2]] at p3
  refine out_last ih hFS (by omega) hp hc60 hF20 (Or.inl (by decide)) e0 (by simpa using p3) hs hH.2 (by simp; omega) hpR
theorem m_21 {T S : mS} {nh p c : Nat} {as : List aVl} {R R2 : aRS} {f : Int32} {v : aVl} {rec : aRec} (ih : MR T nh rec) (H : HF T S nh p c as R) (hF : tI T 2 c = 21) (hH : tP T nh 6 c) (hM : tI T 3 c = nI (tN T 3 c) ∧ tN T 3 c ≤ 6) (hA : tI T 9 c = nI (tN T 9 c)) (ha : tN T 9 c < tN T 3 c) (hm : tN T 3 (tN T 6 c) + 1 = tN T 3 c) (hs : so T rec c as R = some (f, v, R2)) : OUT_ S p f v R R2 := by
  obtain ⟨hFS, hW, hp, hpR, hc, hlen, hF20⟩ := H
  have hc60 : c < 60 := Nat.lt_of_lt_of_le hc hW.1
  unfold so at hs
  rw [if_neg (by rw [hF]; decide), if_pos hF] at hs
  have e0 := oo_eq hFS hp hc60
  unfold ooB at e0
  rw [hF, if_neg (by decide), if_pos (by decide), hH.1, hA, hM.1, nI_1] at e0
  obtain ⟨S1, e1, p1⟩ := pr_take (pr_0 hFS) hp (tN T 9 c) (by omega) (by omega) (by simp; omega)
  obtain ⟨S3, e3, p3⟩ := pr_drop p1 hp (tN T 9 c + 1) (tN T 3 c) (by omega) (by omega) (by omega) (by simp; omega)
  rw [e1, o_bs, e3, o_bs] at e0
  exact out_last ih hFS (by omega) hp hc60 hF20 (Or.inl (by decide)) e0 (by simpa using p3) hs hH.2 (by simp; omega) hpR
