/-! THE REFERENCE: forms 29, 32. My own rows. -/
theorem adS_f (fr to kd : Int32) (v : Int64) : (adS fr to kd v).1 = 0 ∨ (adS fr to kd v).1 = 2 ∨ (adS fr to kd v).1 = 3 := by
  unfold adS
  split
  · exact Or.inl rfl
  · split
    · exact Or.inl rfl
    · split
      · exact Or.inl rfl
      · split
        · split
          · exact Or.inr (Or.inr rfl)
          · split
            · split
              · exact Or.inr (Or.inl rfl)
              · exact Or.inl rfl
            · exact Or.inl rfl
        · split
          · exact Or.inl rfl
          · exact Or.inl rfl
theorem adS_0 (fr to kd : Int32) (v : Int64) : 0 ≤ (adS fr to kd v).1 := by
  rcases adS_f fr to kd v with h | h | h <;> rw [h] <;> decide
theorem adL_0 (T : mS) (c h : Nat) : ∀ (l : List aVl) (k : Nat), 0 ≤ (adL T c h k l).1 := by
  intro l
  induction l with
  | nil => intro k; exact (by decide : (0 : Int32) ≤ 0)
  | cons u l ih =>
    intro k
    unfold adL
    split
    · exact ih (k + 1)
    · exact adS_0 _ _ _ _
theorem adL_len (T : mS) (c h : Nat) : ∀ (l : List aVl) (k : Nat), (adL T c h k l).1 = 0 → (adL T c h k l).2.length = l.length := by
  intro l
  induction l with
  | nil => intro k _; rfl
  | cons u l ih =>
    intro k
    unfold adL
    split
    · intro h0
      simp only [List.length_cons]
      rw [ih (k + 1) h0]
    · rename_i h1
      intro h0
      exact absurd h0 h1
/-- what may change between rounds of adapts -/
def fAd (k : Nat) : Bool := fArg k || fCame k
theorem fAd_1 (k : Nat) (h : fAd k = false) : fArg k = false := by simp [fAd] at h; exact h.1
theorem fAd_2 (k : Nat) (h : fAd k = false) : fCame k = false := by simp [fAd] at h; exact h.2
theorem PR.ad {T S S2 S3 : mS} {p c : Nat} {as : List aVl} {R : aRS} {s : Int32} {bs bs2 : List aVl} (h : PR T S S2 p c as R s bs) (hA : AB S3 bs2) (q : eqB fAd S2 S3) : PR T S S3 p c as R s bs2 := ⟨h.1.eq q (fun k _ h2 => by simp [fAd, fArg, fCame]; omega), hA, h.2.2.1.tr (FR.eq q (fun k h1 h2 => by simp [fAd, fArg, fCame]; omega)), h.2.2.2.tr (rc_of q (by decide +kernel) (fun k hk => by simp [fAd, fArg, fCame]; omega))⟩
theorem AB.eq {S S2 : mS} {f : Nat → Bool} {bs : List aVl} (h : AB S bs) (q : eqB f S S2) (h1 : f 44 = false) (h2 : f 45 = false) (h3 : f 46 = false) : AB S2 bs := ⟨by rw [← (q 46 h3).1]; exact h.1, fun i v hi => ⟨by rw [← (q 44 h1).2.2.1]; exact (h.2 i v hi).1, by rw [← (q 45 h2).2.2.2]; exact (h.2 i v hi).2⟩⟩
theorem g_ad42 {T S : mS} {p c h : Nat} {as : List aVl} {R : aRS} {s : Int32} (hp : p < 80) (hc : c < 60) (hh : h < 60) (h6 : as.length ≤ 6) : ∀ (rest : List aVl) (n k : Nat) (S2 : mS) (bs : List aVl), as.drop k = rest → k + rest.length = as.length → rest.length < n → PR T S S2 p c as R s bs → S2.1 29 = 0 → bs.length = k →
    ((adL T c h k rest).1 = 0 → ∃ S3, gX11_adapts_42 n (nI p) (nI c) (nI h) (nI as.length) (nI k) S2 = ((gX11_calls (nI h) S3).bind fun q => some q) ∧ PR T S S3 p c as R s (bs ++ (adL T c h k rest).2)) ∧
    ((adL T c h k rest).1 ≠ 0 → ∃ S3 bs2, gX11_adapts_42 n (nI p) (nI c) (nI h) (nI as.length) (nI k) S2 = ((gX11_over S3).bind fun q => some q) ∧ PR T S S3 p c as R s bs2 ∧ S3.1 29 = (adL T c h k rest).1) := by
  intro rest
  induction rest with
  | nil =>
    intro n k S2 bs hd hk hn hP h29 hl
    obtain ⟨n, rfl⟩ : ∃ q, n = q + 1 := ⟨n - 1, by omega⟩
    rw [gX11_adapts_42, if_pos (nI_le (by simp at hk; omega) (by omega))]
    unfold gX11_adapts_127
    rw [h29, if_pos (by decide)]
    exact ⟨fun _ => ⟨S2, rfl, by simpa [adL] using hP⟩, fun hne => absurd rfl hne⟩
  | cons u rest ih =>
    intro n k S2 bs hd hk hn hP h29 hl
    simp only [List.length_cons] at hk hn
    obtain ⟨n, rfl⟩ : ∃ q, n = q + 1 := ⟨n - 1, by omega⟩
    have hkl : k < as.length := by omega
    have hv : as[k]? = some u := by
      have : (as.drop k)[0]? = some u := by rw [hd]; rfl
      rw [List.getElem?_drop] at this
      exact this
    have hd2 : as.drop (k + 1) = rest := by
      have : (as.drop k).drop 1 = rest := by rw [hd]; rfl
      rwa [List.drop_drop] at this
    obtain ⟨g37, g38⟩ := hP.1.2.2.2.1 k u hv
    have t4 : ∀ i, S2.2.2.1 4 i = tI T 4 i := fun i => by rw [(hP.1.2.2.2.2.1 4 (by decide) (by decide)).1]
    rw [gX11_adapts_42, if_neg (nI_ge (by omega) (by omega)), if_pos h29, nI_6, nI_6, nI7, mrA_n S2 4 _ (by rw [ml_4]; omega) (by omega), o_bs, mrA_n S2 4 _ (by rw [ml_4]; omega) (by omega), o_bs, mrA_n S2 37 _ (by rw [ml_37]; omega) (by omega), o_bs, mrB_n S2 38 _ (by rw [ml_38]; omega) (by omega), o_bs, g37, g38, t4, t4]
    obtain ⟨S3, e3, a29, a30, a31, q3⟩ := g_adapt (tI T 4 (6 * c + k)) (tI T 4 (6 * h + k)) u.1 u.2 S2
    rw [e3, o_bs, a30, a31]
    obtain ⟨S4, e4, hA4, q4⟩ := g_add (hP.2.1.eq q3 rfl rfl rfl) (by omega) (adS (tI T 4 (6 * c + k)) (tI T 4 (6 * h + k)) u.1 u.2).2.1 (adS (tI T 4 (6 * c + k)) (tI T 4 (6 * h + k)) u.1 u.2).2.2
    rw [e4, o_bs, nI_1]
    have p4 := hP.ad hA4 ((q3.mono fAd_2).tr (q4.mono fAd_1))
    have b29 : S4.1 29 = (adS (tI T 4 (6 * c + k)) (tI T 4 (6 * h + k)) u.1 u.2).1 := by rw [← (q4 29 rfl).1]; exact a29
    unfold adL
    by_cases hz : (adS (tI T 4 (6 * c + k)) (tI T 4 (6 * h + k)) u.1 u.2).1 = 0
    · rw [if_pos hz]
      obtain ⟨i1, i2⟩ := ih n (k + 1) S4 _ hd2 (by omega) (by omega) p4 (b29.trans hz) (by simp; omega)
      refine ⟨fun h0 => ?_, fun h0 => ?_⟩
      · obtain ⟨S5, e5, p5⟩ := i1 h0
        exact ⟨S5, e5, by simpa using p5⟩
      · exact i2 h0
    · rw [if_neg hz]
      refine ⟨fun h0 => absurd h0 hz, fun _ => ⟨S4, _, ?_, p4, b29⟩⟩
      obtain ⟨n, rfl⟩ : ∃ q, n = q + 1 := ⟨n - 1, by omega⟩
      have hov : gX11_adapts_127 (nI h) S4 = ((gX11_over S4).bind fun q => some q) := by
        unfold gX11_adapts_127
        rw [b29, if_neg (i32_pos (adS_0 _ _ _ _) hz)]
      rw [gX11_adapts_42]
      by_cases hle : nI as.length ≤ nI (k + 1)
      · rw [if_pos hle]; exact hov
      · rw [if_neg hle, b29, if_neg hz]; exact hov
theorem m_32 {T S : mS} {nh p c : Nat} {as : List aVl} {R R2 : aRS} {f : Int32} {v : aVl} {rec : aRec} (ih : MR T nh rec) (H : HF T S nh p c as R) (hF : tI T 2 c = 32) (hH : tP T nh 6 c) (hM : tI T 3 c = nI (tN T 3 c) ∧ tN T 3 c ≤ 6) (hm : tN T 3 (tN T 6 c) = tN T 3 c) (hs : so T rec c as R = some (f, v, R2)) : OUT_ S p f v R R2 := by
  obtain ⟨hFS, hW, hp, hpR, hc, hlen, hF20⟩ := H
  have hc60 : c < 60 := Nat.lt_of_lt_of_le hc hW.1
  have hh60 : tN T 6 c < 60 := Nat.lt_of_lt_of_le hH.2 hW.1
  unfold so at hs
  rw [if_neg (by rw [hF]; decide), if_neg (by rw [hF]; decide), if_neg (by rw [hF]; decide), if_neg (by rw [hF]; decide), if_neg (by rw [hF]; decide), if_neg (by rw [hF]; decide), if_neg (by rw [hF]; decide), if_neg (by rw [hF]; decide), if_neg (by rw [hF]; decide), if_neg (by rw [hF]; decide), if_neg (by rw [hF]; decide), if_neg (by rw [hF]; decide), if_pos hF] at hs
  have e0 := oo_eq hFS hp hc60
  unfold ooB at e0
  rw [hF, if_neg (by decide), if_neg (by decide), if_neg (by decide), if_neg (by decide), if_neg (by decide), if_neg (by decide), if_neg (by decide), if_neg (by decide), if_neg (by decide), if_neg (by decide), if_neg (by decide), if_neg (by decide), hH.1, hM.1, bs_some] at e0
  unfold gX11_adapts at e0
  rw [if_pos (by decide), ← hlen] at e0
  have k0 := pr_0 hFS
  have p0 : PR T S (sI (S0_ S p 0) 29 0) p c as R (0 + 1) [] := k0.ad (k0.2.1.eq (f := fCame) (eqB.I rfl) rfl rfl rfl) (eqB.I rfl)
  obtain ⟨i1, i2⟩ := g_ad42 (h := tN T 6 c) hp hc60 hh60 (by omega) as 4000 0 _ [] rfl (by omega) (by omega) p0 (by simp [sI, va_up]) rfl
  rw [nI_0] at i1 i2
  by_cases hz : (adL T c (tN T 6 c) 0 as).1 = 0
  · rw [if_pos hz] at hs
    obtain ⟨⟨f1, v1, R1⟩, hq, hs⟩ := bnd hs
    obtain ⟨S1, e1, p1⟩ := i1 hz
    rw [e1] at e0
    obtain ⟨hf0, hlt, S2, h2, b29, bv, -, ho⟩ := mid_ ih hFS (by omega) hp hc60 hF20 (Or.inl (by decide)) e0 p1 (by simpa using hq) hH.2 (by rw [List.nil_append, adL_len T c _ as 0 hz]; omega) hpR
    apply ho
    by_cases hy : f1 = 0
    · subst hy
      simp only [if_true] at hs
      obtain ⟨bv1, bv2⟩ := bv rfl
      have e2 := oo_eq h2 hp hc60
      have z2 := s0_29 S2 p (0 + 1)
      have k2 := pr_0 h2
      unfold ooB at e2
      rw [hF, if_neg (by decide), if_neg (by decide), if_neg (by decide), if_neg (by decide), if_neg (by decide), if_neg (by decide), if_neg (by decide), if_neg (by decide), if_neg (by decide), if_neg (by decide), if_neg (by decide), if_neg (by decide), hH.1, hM.1, bs_some] at e2
      unfold gX11_adapts at e2
      rw [if_neg (by decide), mrA_n _ 5 _ (by rw [ml_5]; omega) (by omega), o_bs, mrA_n _ 5 _ (by rw [ml_5]; omega) (by omega), o_bs, z2.2.1, z2.2.2, bv1, bv2, show ∀ i, (S0_ S2 p (0 + 1)).2.2.1 5 i = tI T 5 i from fun i => by rw [((s0_ok h2).1.2.2.2.2.1 5 (by decide) (by decide)).1], show ∀ i, (S0_ S2 p (0 + 1)).2.2.1 5 i = tI T 5 i from fun i => by rw [((s0_ok h2).1.2.2.2.2.1 5 (by decide) (by decide)).1]] at e2
      obtain ⟨S3, e3, a29, a30, a31, q3⟩ := g_adapt (tI T 5 (tN T 6 c)) (tI T 5 c) v1.1 v1.2 (S0_ S2 p (0 + 1))
      rw [e3, o_bs] at e2
      have p3 := k2.ad (k2.2.1.eq q3 rfl rfl rfl) (q3.mono fAd_2)
      obtain ⟨rfl, rfl, rfl⟩ : (adS (tI T 5 (tN T 6 c)) (tI T 5 c) v1.1 v1.2).1 = f ∧ (adS (tI T 5 (tN T 6 c)) (tI T 5 c) v1.1 v1.2).2 = v ∧ R1 = R2 := by
        have := Option.some.inj hs
        exact ⟨congrArg Prod.fst this, congrArg (fun q => q.2.1) this, congrArg (fun q => q.2.2) this⟩
      exact out_over h2 hp hc60 hF20 (Or.inr ⟨by decide, Or.inl (by rw [b29]; decide)⟩) e2 p3.1 p3.2.2.1 p3.2.2.2 a29 (fun _ => ⟨a30, a31⟩) (adS_0 _ _ _ _) (Nat.le_refl _)
    · rw [if_neg hy] at hs
      obtain ⟨rfl, rfl, rfl⟩ : f1 = f ∧ v1 = v ∧ R1 = R2 := by simpa using hs
      exact out_fail h2 hp hc60 hF20 b29 hf0 hy (by decide) (by rw [hF]; decide) (by rw [hF]; decide)
  · rw [if_neg hz] at hs
    obtain ⟨S1, bs2, e1, p1, a29⟩ := i2 hz
    rw [e1] at e0
    obtain ⟨rfl, rfl, rfl⟩ : (adL T c (tN T 6 c) 0 as).1 = f ∧ (0, 0) = v ∧ R = R2 := by
      have := Option.some.inj hs
      exact ⟨congrArg Prod.fst this, congrArg (fun q => q.2.1) this, congrArg (fun q => q.2.2) this⟩
    exact out_over hFS hp hc60 hF20 (Or.inl (by decide)) e0 p1.1 p1.2.2.1 p1.2.2.2 a29 (fun z => absurd z hz) (adL_0 _ _ _ _ _) (Nat.le_refl _)
theorem m_29l {T : mS} {nh p c x : Nat} {lim : Int64} {rec : aRec} (ih : MR T nh rec) (hp : p < 80) (hc60 : c < 60) (hF : tI T 2 c = 29) (hX : tP T nh 7 c) (hxe : x = tN T 7 c) (hx : tN T 3 (tN T 7 c) = 2) : ∀ (m : Nat) (i : Int64) (w : aVl) (R : aRS) (S : mS) (f : Int32) (v : aVl) (R2 : aRS), FS T S p c [] R 2 → S.1 29 = 0 → S.1 30 = w.1 → S.2.1 31 = w.2 → S.2.2.2 43 p = i → S.2.2.2 42 p = lim → p + 1 ≤ R.1 → sLoop rec x lim m i w R = some (f, v, R2) → OUT_ S p f v R R2 := by
  intro m
  have hF20 : 20 ≤ tI T 2 c := by rw [hF]; decide
  induction m with
  | zero => intro i w R S f v R2 _ _ _ _ _ _ _ hs; cases hs
  | succ m ihm =>
    intro i w R S f v R2 hFS h29 h30 h31 h43 h42 hpR hs
    have hst : (2 : Int32) ≤ 0 ∨ ((2 : Int32) ≠ 9 ∧ (S.1 29 ≤ 0 ∨ tI T 2 c = 27 ∨ tI T 2 c = 28)) := Or.inr ⟨by decide, Or.inl (by rw [h29]; decide)⟩
    have e0 := oo_eq hFS hp hc60
    have z0 := s0_29 S p 2
    have k0 := pr_0 hFS
    have k0q := (s0_ok hFS).2.2.2.2
    unfold ooB at e0
    rw [hF, if_neg (by decide), if_neg (by decide), if_neg (by decide), if_neg (by decide), if_neg (by decide), if_neg (by decide), if_neg (by decide), if_neg (by decide), if_neg (by decide), if_pos (by decide), mrA_n _ 8 _ (by rw [ml_8]; omega) (by omega), o_bs, bs_some, hX.1] at e0
    unfold gX11_rounds at e0
    rw [if_neg (by decide), if_neg (by decide), mrB_n _ 43 _ (by rw [ml_43]; omega) (by omega), o_bs, mrB_n _ 42 _ (by rw [ml_42]; omega) (by omega), o_bs, show (S0_ S p 2).2.2.2 43 p = i from h43, show (S0_ S p 2).2.2.2 42 p = lim from h42] at e0
    unfold sLoop at hs
    by_cases hle : 0 ≤ lg_cmp i lim
    · rw [if_pos hle] at hs e0
      obtain ⟨rfl, rfl, rfl⟩ : 0 = f ∧ w = v ∧ R = R2 := by simpa using hs
      exact out_over hFS hp hc60 hF20 hst e0 k0.1 k0.2.2.1 k0.2.2.2 (z0.1.trans h29) (fun _ => ⟨z0.2.1.trans h30, z0.2.2.trans h31⟩) (by decide) (Nat.le_refl _)
    · rw [if_neg hle] at hs e0
      obtain ⟨⟨f1, v1, R1⟩, hq, hs⟩ := bnd hs
      rw [z0.2.1, z0.2.2, h30, h31] at e0
      obtain ⟨S1, e1, hA1, q1⟩ := g_add k0.2.1 (by simp) w.1 w.2
      have p1 := k0.ar hA1 q1
      have i43 : S1.2.2.2 43 p = i := by rw [← (q1 43 rfl).2.2.2]; exact h43
      rw [e1, o_bs, mrB_n _ 43 _ (by rw [ml_43]; omega) (by omega), o_bs, i43] at e0
      obtain ⟨S2, e2, hA2, q2⟩ := g_add hA1 (by simp) 0 i
      have p2 := p1.ar hA2 q2
      have j43 : S2.2.2.2 43 p = i := by rw [← (q2 43 rfl).2.2.2]; exact i43
      have j42 : S2.2.2.2 42 p = lim := by rw [← (q2 42 rfl).2.2.2, ← (q1 42 rfl).2.2.2]; exact h42
      rw [e2, o_bs, mrB_n _ 43 _ (by rw [ml_43]; omega) (by omega), o_bs, j43, mwB_n _ 43 _ _ (by rw [ml_43]; omega) (by omega), o_bs, mwA_n _ 36 _ _ (by rw [ml_36]; omega) (by omega), o_bs] at e0
      have q3 : eqB (fun k => k == 43 || k == 36) S2 (sA (sB S2 43 p (i + 1)) 36 p 2) := (eqB.B rfl).tr (eqB.A rfl)
      generalize hS3 : sA (sB S2 43 p (i + 1)) 36 p 2 = S3 at q3 e0
      have l36 : S3.2.2.1 36 p = 2 := by rw [← hS3]; simp [sA, sB, va_up]
      have l43 : S3.2.2.2 43 p = i + 1 := by rw [← hS3]; simp [sA, sB, va_up]
      have l42 : S3.2.2.2 42 p = lim := by rw [← (q3 42 rfl).2.2.2]; exact j42
      have fr3 : FR p S2 S3 := by
        rw [← hS3]
        refine ⟨fun j hj => ?_, fun j _ => ⟨rfl, rfl⟩⟩
        have hjp : j ≠ p := by omega
        refine ⟨rfl, ?_, rfl, rfl, rfl, rfl, ?_⟩
        · simp [sA, sB, va_up, hjp]
        · simp [sA, sB, va_up, hjp]
      obtain ⟨⟨f33, fof, fst, fFV, fTB, fR⟩, fA, fFR, fq⟩ := p2
      have p3 : PR T S S3 p c [] R 2 [(w.1, w.2), (0, i)] := ⟨⟨by rw [← (q3 33 rfl).1]; exact f33, by rw [← (q3 35 rfl).2.2.1]; exact fof, l36, fFV.eq q3 rfl rfl, fTB.eq q3 (fun k h1 h2 => by simp; omega), fR.eq q3 rfl rfl rfl rfl rfl⟩, fA.eq q3 rfl rfl rfl, fFR.tr fr3, fq.tr (rc_of q3 (by decide +kernel) (fun k hk => by simp; omega))⟩
      obtain ⟨hf0, hlt, S4, h4, b29, bv, fr4, ho⟩ := mid_ ih hFS (by simp) hp hc60 hF20 hst e0 p3 (by rw [← hxe]; exact hq) hX.2 (by rw [hx]; rfl) hpR
      apply ho
      by_cases hz : f1 = 0
      · subst hz
        simp only [if_true] at hs
        obtain ⟨bv1, bv2⟩ := bv rfl
        obtain ⟨-, -, -, -, -, r42, r43⟩ := fr4.1 p (by omega)
        exact ihm (i + 1) v1 R1 S4 f v R2 h4 b29 bv1 bv2 (r43.symm.trans l43) (r42.symm.trans l42) (by omega) hs
      · rw [if_neg hz] at hs
        obtain ⟨rfl, rfl, rfl⟩ : f1 = f ∧ v1 = v ∧ R1 = R2 := by simpa using hs
        exact out_fail h4 hp hc60 hF20 b29 hf0 hz (by decide) (by rw [hF]; decide) (by rw [hF]; decide)
theorem m_29 {T S : mS} {nh p c : Nat} {as : List aVl} {R R2 : aRS} {f : Int32} {v : aVl} {rec : aRec} (ih : MR T nh rec) (H : HF T S nh p c as R) (hF : tI T 2 c = 29) (hH : tP T nh 6 c) (hM : tI T 3 c = nI (tN T 3 c) ∧ tN T 3 c ≤ 6) (hX : tP T nh 7 c) (hY : tP T nh 8 c) (h0 : tN T 3 c = 0) (hm : tN T 3 (tN T 6 c) = 0) (hx : tN T 3 (tN T 7 c) = 2) (hy : tN T 3 (tN T 8 c) = 0) (hs : so T rec c as R = some (f, v, R2)) : OUT_ S p f v R R2 := by
  obtain ⟨hFS, hW, hp, hpR, hc, hlen, hF20⟩ := H
  have hc60 : c < 60 := Nat.lt_of_lt_of_le hc hW.1
  have hh60 : tN T 6 c < 60 := Nat.lt_of_lt_of_le hH.2 hW.1
  unfold so at hs
  rw [if_neg (by rw [hF]; decide), if_neg (by rw [hF]; decide), if_neg (by rw [hF]; decide), if_neg (by rw [hF]; decide), if_neg (by rw [hF]; decide), if_neg (by rw [hF]; decide), if_neg (by rw [hF]; decide), if_neg (by rw [hF]; decide), if_neg (by rw [hF]; decide), if_pos hF] at hs
  obtain ⟨⟨f1, v1, R1⟩, hq, hs⟩ := bnd hs
  have has : as = [] := List.length_eq_zero_iff.mp (by omega)
  subst has
  have e0 := oo_eq hFS hp hc60
  unfold ooB at e0
  rw [hF, if_neg (by decide), if_neg (by decide), if_neg (by decide), if_neg (by decide), if_neg (by decide), if_neg (by decide), if_neg (by decide), if_neg (by decide), if_neg (by decide), if_pos (by decide), mrA_n _ 8 _ (by rw [ml_8]; omega) (by omega), o_bs, bs_some, hH.1] at e0
  unfold gX11_rounds at e0
  rw [if_pos rfl] at e0
  obtain ⟨hf0, hlt, S2, h2, b29, bv, -, ho⟩ := mid_ ih hFS (by simp) hp hc60 hF20 (Or.inl (by decide)) e0 (pr_0 hFS) hq hH.2 (by rw [hm]; rfl) hpR
  apply ho
  by_cases hz : f1 = 0
  · subst hz
    simp only [if_true] at hs
    obtain ⟨bv1, bv2⟩ := bv rfl
    obtain ⟨⟨f3, v3, R3⟩, hq3, hs⟩ := bnd hs
    have e2 := oo_eq h2 hp hc60
    have k2 := pr_0 h2
    have z2 := s0_29 S2 p (0 + 1)
    have hst : (0 + 1 : Int32) ≤ 0 ∨ ((0 + 1 : Int32) ≠ 9 ∧ (S2.1 29 ≤ 0 ∨ tI T 2 c = 27 ∨ tI T 2 c = 28)) := Or.inr ⟨by decide, Or.inl (by rw [b29]; decide)⟩
    unfold ooB at e2
    rw [hF, if_neg (by decide), if_neg (by decide), if_neg (by decide), if_neg (by decide), if_neg (by decide), if_neg (by decide), if_neg (by decide), if_neg (by decide), if_neg (by decide), if_pos (by decide), mrA_n _ 8 _ (by rw [ml_8]; omega) (by omega), o_bs, bs_some, show (S0_ S2 p (0 + 1)).2.2.1 8 c = nI (tN T 8 c) by rw [(k2.1.2.2.2.2.1 8 (by decide) (by decide)).1]; exact hY.1] at e2
    unfold gX11_rounds at e2
    rw [if_neg (by decide), if_pos (by decide), mwB_n _ 42 _ _ (by rw [ml_42]; omega) (by omega), o_bs, mwB_n _ 43 _ _ (by rw [ml_43]; omega) (by omega), o_bs, z2.2.2, bv2] at e2
    have q3 : eqB (fun k => k == 42 || k == 43) (S0_ S2 p (0 + 1)) (sB (sB (S0_ S2 p (0 + 1)) 42 p v1.2) 43 p 0) := (eqB.B rfl).tr (eqB.B rfl)
    have fr3 : FR p (S0_ S2 p (0 + 1)) (sB (sB (S0_ S2 p (0 + 1)) 42 p v1.2) 43 p 0) := by
      refine ⟨fun j hj => ?_, fun j _ => ⟨rfl, rfl⟩⟩
      have hjp : j ≠ p := by omega
      refine ⟨rfl, rfl, rfl, rfl, rfl, ?_, ?_⟩
      · simp [sB, va_up, hjp]
      · simp [sB, va_up, hjp]
    have l42 : (sB (sB (S0_ S2 p (0 + 1)) 42 p v1.2) 43 p 0).2.2.2 42 p = v1.2 := by simp [sB, va_up]
    have l43 : (sB (sB (S0_ S2 p (0 + 1)) 42 p v1.2) 43 p 0).2.2.2 43 p = 0 := by simp [sB, va_up]
    generalize hS3 : sB (sB (S0_ S2 p (0 + 1)) 42 p v1.2) 43 p 0 = S3 at q3 fr3 l42 l43 e2
    have p3 : PR T S2 S3 p c [] R1 (0 + 1 + 1) [] := ⟨k2.1.eq2 q3 (fun k _ h => by simp; omega), k2.2.1.eq q3 rfl rfl rfl, k2.2.2.1.tr fr3, k2.2.2.2.tr (rc_of q3 (by decide +kernel) (fun k hk => by simp; omega))⟩
    obtain ⟨hg0, hlt2, S4, h4, c29, cv, fr4, ho2⟩ := mid_ ih h2 (by simp) hp hc60 hF20 hst e2 p3 hq3 hY.2 (by rw [hy]; rfl) (by omega)
    apply ho2
    by_cases hz3 : f3 = 0
    · subst hz3
      simp only [if_true] at hs
      obtain ⟨cv1, cv2⟩ := cv rfl
      obtain ⟨-, -, -, -, -, r42, r43⟩ := fr4.1 p (by omega)
      exact m_29l ih hp hc60 hF hX rfl hx 200 0 v3 R3 S4 f v R2 h4 c29 cv1 cv2 (r43.symm.trans l43) (r42.symm.trans l42) (by omega) hs
    · rw [if_neg hz3] at hs
      obtain ⟨rfl, rfl, rfl⟩ : f3 = f ∧ v3 = v ∧ R3 = R2 := by simpa using hs
      exact out_fail h4 hp hc60 hF20 c29 hg0 hz3 (by decide) (by rw [hF]; decide) (by rw [hF]; decide)
  · rw [if_neg hz] at hs
    obtain ⟨rfl, rfl, rfl⟩ : f1 = f ∧ v1 = v ∧ R1 = R2 := by simpa using hs
    exact out_fail h2 hp hc60 hF20 b29 hf0 hz (by decide) (by rw [hF]; decide) (by rw [hF]; decide)
