/-! THE REFERENCE: runSite. My own rows. -/
def alkB (T : mS) (h x : Nat) : Bool := decide (tys T h = tys T x) && decide (tI T 5 h = tI T 5 x)
theorem alkB_iff (T : mS) (h x : Nat) : alkB T h x = true ↔ alk T h x := by unfold alkB alk; simp
/-- a site as it is run: the result, and what it is linked to then -/
def rsS (T : mS) (nh o st : Nat) (lk ex : Int32) (vs : List aVl) (R : aRS) : Option (aRes × Int32) :=
  if isW T o ex vs = true then some (bad 7 (0, R.2), lk) else
  if (layL T o 0 vs).1 = 0 then
    (if 0 ≤ lk then (rnS T lk.toNatClampNeg vs (0, R.2)).map fun q => (q, lk) else
     (sp T 82 st [] (0, R.2)).bind fun q => if q.1 = 0 then
       (if inI q.2.1.2 0 (nI nh - 1).toInt64 = 0 then some (bad 8 q.2.2, -1) else
        if alkB T q.2.1.2.toInt32.toNatClampNeg o = true then (rnS T q.2.1.2.toInt32.toNatClampNeg vs q.2.2).map fun q2 => (q2, q.2.1.2.toInt32) else some (bad 8 q.2.2, -1)) else some (q, lk))
  else some (bad (layL T o 0 vs).1 (0, R.2), lk)
def fRs (k : Nat) : Bool := k == 19 || fRn k
def RSo (T S : mS) (nh ns s : Nat) (vs : List aVl) (R : aRS) (q : aRes) (lk2 : Int32) (S2 : mS) : Prop := MI T S2 nh ns vs q.2.2 ∧ S2.1 26 = q.1 ∧ S2.1 23 = (if q.1 = 0 then q.2.1.1 else 3) ∧ S2.2.1 24 = (if q.1 = 0 then q.2.1.2 else 0) ∧ S2.2.2.1 19 s = lk2 ∧ (∀ i, i ≠ s → S2.2.2.1 19 i = S.2.2.1 19 i) ∧ eqB fRs S S2 ∧ 0 ≤ q.1 ∧ R.2.1 ≤ q.2.2.2.1
theorem fRs_R (k : Nat) (h : fRs k = false) : fRn k = false := by unfold fRs at h; simp at h; exact h.2
theorem fRs_19 (k : Nat) (h : fRs k = false) : (k == 19) = false := by unfold fRs at h; simp at h; simp [h.1]
theorem fRs_k (k : Nat) (h1 : k < 23) (h2 : k ≠ 0) (h3 : k ≠ 13) (h4 : k ≠ 14) (h5 : k ≠ 15) (h6 : k ≠ 19) : fRs k = false := by simp [fRs, fRn, RCb]; omega
theorem fAd_n (k : Nat) (h : fRn k = false) : fAd k = false := fAd_R k (fRn_R k h)
theorem fRn_29 (k : Nat) (h : fRn k = false) : (k == 29) = false := by
  by_cases e : k = 29
  · subst e; exact absurd h (by decide)
  · simp [e]
theorem fRn_46 (k : Nat) (h : fRn k = false) : (k == 46 || k == 33) = false := by
  by_cases e : k = 46
  · subst e; exact absurd h (by decide)
  · by_cases e2 : k = 33
    · subst e2; exact absurd h (by decide)
    · simp [e, e2]
theorem fRs_8 (k : Nat) (h : fRs k = false) : (k == 19 || k == 29) = false := by
  by_cases e : k = 29
  · subst e; exact absurd h (by decide)
  · by_cases e2 : k = 19
    · subst e2; exact absurd h (by decide)
    · simp [e, e2]
/-- from the state X, in which the site is linked to lk2, to the end -/
theorem rs_end {T S X S2 : mS} {nh ns s o : Nat} {vs : List aVl} {R R2 : aRS} {f lk2 : Int32} {v : aVl} (M : MI T S nh ns vs R) (qX : eqB fRs S X) (h19 : X.2.2.1 19 s = lk2) (h19o : ∀ i, i ≠ s → X.2.2.1 19 i = S.2.2.1 19 i) (eo : S.2.2.1 17 s = nI o) (ho : o < nh) (hlk : lk2 = S.2.2.1 19 s ∨ lk2 = -1 ∨ ∃ l, l < nh ∧ lk2 = nI l ∧ alk T l o)
    (q2 : eqB fRn X S2) (hS : RSt R2 S2) (hR : RT R2) (hl : R.2.1 ≤ R2.2.1) (hf0 : 0 ≤ f) (d1 : S2.1 26 = f) (d2 : S2.1 23 = (if f = 0 then v.1 else 3)) (d3 : S2.2.1 24 = (if f = 0 then v.2 else 0)) : RSo T S nh ns s vs R (f, v, R2) lk2 S2 := by
  have e19 : ∀ i, S2.2.2.1 19 i = X.2.2.1 19 i := fun i => by rw [(q2 19 rfl).2.2.1]
  refine ⟨M.to2 (qX.tr (q2.mono fRs_R)) fRs_k hS hR hl fun i hi => ?_, d1, d2, d3, (e19 s).trans h19, fun i hi => (e19 i).trans (h19o i hi), qX.tr (q2.mono fRs_R), hf0, hl⟩
  by_cases e : i = s
  · subst e
    rw [e19, h19]
    rcases hlk with z | z | ⟨l, z1, z2, z3⟩
    · exact Or.inl z
    · exact Or.inr (Or.inl z)
    · exact Or.inr (Or.inr ⟨o, l, eo, ho, z1, z2, z3⟩)
  · exact Or.inl ((e19 i).trans (h19o i e))
theorem g_runSite {T S : mS} {nh ns s o st : Nat} {lk : Int32} {vs : List aVl} {R : aRS} (M : MI T S nh ns vs R) (hs : s < ns) (ho : o < nh) (hst : st < nh) (eo : S.2.2.1 17 s = nI o) (est : S.2.2.1 18 s = nI st) (hts : tys T st = []) (hgs : tI T 5 st = 0) (elk : S.2.2.1 19 s = lk) (hlk : lk = -1 ∨ ∃ l, l < nh ∧ lk = nI l ∧ alk T l o) (ex : Int32) :
    ∃ (q : aRes) (lk2 : Int32) (S2 : mS), rsS T nh o st lk ex vs R = some (q, lk2) ∧ gX11_runSite (nI s) ex S = some (tlR q.1, S2) ∧ RSo T S nh ns s vs R q lk2 S2 := by
  have h10 := M.2.2.2.2.1
  have e16 : (sI S 0 0).1 16 = nI ns := M.z.2.2.2.2.2.1
  obtain ⟨⟨m1, m2⟩, ⟨m3, m4, m5, m6⟩, ⟨m7, m8⟩, ⟨m9, m10⟩, m11, m12, m13⟩ := id M
  have ho60 : o < 60 := Nat.lt_of_lt_of_le ho m3.1
  have hst60 : st < 60 := Nat.lt_of_lt_of_le hst m3.1
  have h60 := m3.1
  have q0 : eqB fRn S (sI (sI S 0 0) 32 0) := (eqB.I rfl).tr (eqB.I rfl)
  have r0 : RSt (0, R.2) (sI (sI S 0 0) 32 0) := ⟨by simp [sI, va_up, nI_0], by simpa [sI, va_up] using m8.2.1, m8.2.2.1, m8.2.2.2.1, m8.2.2.2.2.1, by simpa [sI, va_up] using m8.2.2.2.2.2⟩
  have rt0 : RT (0, R.2) := ⟨m7.1, m7.2⟩
  unfold gX11_runSite
  rw [g_in, o_bs, e16, in_1 hs (by omega), if_neg (show ¬ (1 : Int32) = 0 by decide)]
  simp only []
  generalize sI (sI S 0 0) 32 0 = S1 at q0 r0
  have x17 : S1.2.2.1 17 s = nI o := by rw [← (q0 17 rfl).2.2.1]; exact eo
  have t1 : TB T S1 := m1.eq q0 (fun k h1 h2 => by simp [fRn, RCb]; omega)
  have v1 : VA S1 vs := m9.eq q0 rfl rfl rfl
  rw [mrA_n S1 17 _ (by rw [ml_17]; omega) (by omega), o_bs, x17, g_isWrong m3 ho t1 v1, o_bs]
  unfold rsS
  by_cases hw : isW T o ex vs = true
  · simp only [hw, if_true]
    rw [if_neg (by decide)]
    have q7 : eqB (fun k => k == 29) S1 (sI S1 29 7) := eqB.I rfl
    obtain ⟨S2, e2, d1, d2, d3, d4⟩ := g_tells (S := sI S1 29 7) (f := 7) (nr := R.2.1) (v := (0, 0)) m6 ho ho60 (t1.eq q7 (fun k h1 h2 => by simp; omega)) (by simp [sI, va_up]) (by decide) (fun z => absurd z (by decide))
    rw [e2, o_bs]
    exact ⟨bad 7 (0, R.2), lk, S2, rfl, rfl, rs_end M (q0.mono fRs_R) ((congrFun (q0 19 rfl).2.2.1 s).symm.trans elk) (fun i _ => (congrFun (q0 19 rfl).2.2.1 i).symm) eo ho (Or.inl elk.symm) ((q7.mono fRn_29).tr (d4.mono fRn_t)) ((r0.eq q7 rfl rfl rfl rfl rfl).eq d4 rfl rfl rfl rfl rfl) rt0 (Nat.le_refl _) (by decide) d1 d2 d3⟩
  · have hw2 : vs.length = tN T 3 o ∧ wrL T o ex 0 vs = false := by
      unfold isW at hw
      simp at hw
      exact hw
    simp only [hw, Bool.false_eq_true, if_false, if_true]
    obtain ⟨S2, e2, b29, q2, hAB⟩ := g_lay ho60 t1 v1
    have qS2 : eqB fRn S S2 := q0.tr (q2.mono fAd_n)
    have t2 : TB T S2 := t1.eq q2 (fun k h1 h2 => by simp [fAd, fArg, fCame]; omega)
    have v2 : VA S2 vs := v1.eq q2 rfl rfl rfl
    have r2 : RSt (0, R.2) S2 := r0.eq q2 rfl rfl rfl rfl rfl
    have x19 : S2.2.2.1 19 s = lk := (congrFun (qS2 19 rfl).2.2.1 s).symm.trans elk
    have x19o : ∀ i, i ≠ s → S2.2.2.1 19 i = S.2.2.1 19 i := fun i _ => (congrFun (qS2 19 rfl).2.2.1 i).symm
    rw [e2, o_bs]
    by_cases hz : (layL T o 0 vs).1 = 0
    · rw [if_pos hz, if_pos (b29.trans hz), mrA_n S2 19 _ (by rw [ml_19]; omega) (by omega), o_bs, x19]
      rcases hlk with hlk | ⟨l, hl1, hl2, hl3⟩
      · rw [if_neg (by rw [hlk]; exact m1_lt.2), if_neg (by rw [hlk]; exact m1_lt.2)]
        rw [show gX11_begin S2 = some (sI S2 46 0) from rfl, o_bs]
        have q3 : eqB (fun k => k == 46 || k == 33) S2 (sI (sI S2 46 0) 33 0) := (eqB.I rfl).tr (eqB.I rfl)
        have a46 : AB (sI (sI S2 46 0) 33 0) [] := ⟨by simp [sI, va_up, nI_0], fun i v hi => by simp at hi⟩
        have a33 : (sI (sI S2 46 0) 33 0).1 33 = 0 := by simp [sI, va_up]
        generalize sI (sI S2 46 0) 33 0 = S3 at q3 a46 a33
        have x18 : S3.2.2.1 18 s = nI st := by rw [← (q3 18 rfl).2.2.1, ← (qS2 18 rfl).2.2.1]; exact est
        rw [mrA_n S3 18 _ (by rw [ml_18]; omega) (by omega), o_bs, x18]
        obtain ⟨f1, w1, R1, S4, S5, g1, g2, g3, ⟨c33, c29, cv, cR, cF, cq⟩, hf0, k1, k2, k3, k4⟩ := g_go (as := []) (R := (0, R.2)) m3 m4 m5 hst (by rw [hts]; exact trivial) rt0 (Nat.le_refl _) (t2.eq q3 (fun k h1 h2 => by simp; omega)) (r2.eq q3 rfl rfl rfl rfl rfl) a46 a33 (Nat.zero_le _)
        rw [g2, o_bs, g3, o_bs, g1, o_bs, c29]
        have qS5 : eqB fRn S S5 := qS2.tr ((q3.mono fRn_46).tr (cq.mono fRn_R))
        have t5 : TB T S5 := m1.eq qS5 (fun k h1 h2 => by simp [fRn, RCb]; omega)
        have v5 : VA S5 vs := m9.eq qS5 rfl rfl rfl
        have y19 : S5.2.2.1 19 s = lk := (congrFun (qS5 19 rfl).2.2.1 s).symm.trans elk
        have y19o : ∀ i, i ≠ s → S5.2.2.1 19 i = S.2.2.1 19 i := fun i _ => (congrFun (qS5 19 rfl).2.2.1 i).symm
        by_cases hf : f1 = 0
        · rw [if_pos hf, if_pos hf]
          obtain ⟨cv1, cv2⟩ := cv hf
          have e1n : S5.1 1 = nI nh := by rw [← (qS5 1 rfl).1]; exact m2
          rw [g_in, o_bs, cv2, e1n]
          simp only []
          have hbad : ∃ S6, gX11_runSite_143 (nI s) (nI o) S5 = some (tlR 8, S6) ∧ RSo T S nh ns s vs R (bad 8 R1) (-1) S6 := by
            have e8 : gX11_runSite_143 (nI s) (nI o) S5 = gX11_runSite_181 (nI s) (nI o) (sI (sA S5 19 s (-1)) 29 8) := by
              unfold gX11_runSite_143 gX11_runSite_144 gX11_runSite_165 gX11_runSite_178
              rw [if_pos rfl, mwA_n S5 19 _ _ (by rw [ml_19]; omega) (by omega), o_bs, if_pos rfl]
            have q8 : eqB (fun k => k == 19 || k == 29) S5 (sI (sA S5 19 s (-1)) 29 8) := (eqB.A rfl).tr (eqB.I rfl)
            have b8 : (sI (sA S5 19 s (-1)) 29 8).1 29 = 8 := by simp [sI, va_up]
            have z19 : ∀ i, (sI (sA S5 19 s (-1)) 29 8).2.2.1 19 i = if i = s then -1 else S5.2.2.1 19 i := by intro i; simp [sI, sA, va_up]
            rw [e8]
            generalize sI (sA S5 19 s (-1)) 29 8 = X at q8 b8 z19
            obtain ⟨S6, e6, d1, d2, d3, d4⟩ := t_bad m6 ho ho60 (t5.eq q8 (fun k h1 h2 => by simp; omega)) b8 (by decide) (by decide) (nI s)
            exact ⟨S6, e6, rs_end M ((qS5.mono fRs_R).tr (q8.mono fRs_8)) (by rw [z19, if_pos rfl]) (fun i hi => by rw [z19, if_neg hi]; exact y19o i hi) eo ho (Or.inr (Or.inl rfl)) (d4.mono fRn_t) ((cR.eq q8 rfl rfl rfl rfl rfl).eq d4 rfl rfl rfl rfl rfl) k1 k2 (by decide) d1 d2 d3⟩
          rcases in_l (j := w1.2) (n := nh) h60 with ⟨l, hl, el, z⟩ | ⟨hn, z⟩
          · have ei : w1.2.toInt32 = nI l := by rw [el, lN_i]
            have ecl : w1.2.toInt32.toNatClampNeg = l := by rw [ei, nI_clamp (by omega)]
            rw [z, if_neg (show ¬ (1 : Int32) = 0 by decide), if_neg (show ¬ (1 : Int32) = 0 by decide), ecl, ei]
            rcases g_alike m3 t5 hl ho with ⟨ha, e⟩ | ⟨ha, e⟩
            · rw [e, o_bs, if_neg (show ¬ (1 : Int32) = 0 by decide), if_pos ((alkB_iff T l o).mpr ha)]
              simp only []
              have e9 : gX11_runSite_144 (nI s) (nI o) 1 S5 = gX11_runSite_181 (nI s) (nI o) (sI (sA S5 19 s (nI l)) 29 0) := by
                unfold gX11_runSite_144 gX11_runSite_165 gX11_runSite_178
                rw [if_neg (by decide), cv2, ei, mwA_n S5 19 _ _ (by rw [ml_19]; omega) (by omega), o_bs, if_neg (by decide)]
              have q8 : eqB (fun k => k == 19 || k == 29) S5 (sI (sA S5 19 s (nI l)) 29 0) := (eqB.A rfl).tr (eqB.I rfl)
              have b8 : (sI (sA S5 19 s (nI l)) 29 0).1 29 = 0 := by simp [sI, va_up]
              have z19 : ∀ i, (sI (sA S5 19 s (nI l)) 29 0).2.2.1 19 i = if i = s then nI l else S5.2.2.1 19 i := by intro i; simp [sI, sA, va_up]
              rw [e9]
              generalize sI (sA S5 19 s (nI l)) 29 0 = X at q8 b8 z19
              obtain ⟨f, v, R2, S6, g1, g2, d1, d2, d3, d4, g5, g6, g7, g8⟩ := t_run (ex := ex) (R := R1) m3 m4 m5 m6 ho hl hs h10 ha k1 k2 (t5.eq q8 (fun k h1 h2 => by simp; omega)) (cR.eq q8 rfl rfl rfl rfl rfl) (v5.eq q8 rfl rfl rfl) (fun v hv => (m10 v hv).mono k2) hw2.1 hw2.2 (k4 hf).2 b8 (by rw [z19, if_pos rfl])
              exact ⟨(f, v, R2), nI l, S6, by rw [g1]; rfl, g2, rs_end M ((qS5.mono fRs_R).tr (q8.mono fRs_8)) (by rw [z19, if_pos rfl]) (fun i hi => by rw [z19, if_neg hi]; exact y19o i hi) eo ho (Or.inr (Or.inr ⟨l, hl, rfl, ha⟩)) d4 g5 g6 (Nat.le_trans k2 g7) g8 d1 d2 d3⟩
            · rw [e, o_bs, if_pos rfl, if_neg (fun w => ha ((alkB_iff T l o).mp w))]
              obtain ⟨S6, e6, h6⟩ := hbad
              exact ⟨bad 8 R1, -1, S6, rfl, e6, h6⟩
          · rw [z, if_pos rfl, if_pos rfl]
            obtain ⟨S6, e6, h6⟩ := hbad
            exact ⟨bad 8 R1, -1, S6, rfl, e6, h6⟩
        · rw [if_neg hf, if_neg hf]
          obtain ⟨S6, e6, d1, d2, d3, d4⟩ := t_bad m6 ho ho60 t5 c29 hf0 hf (nI s)
          exact ⟨(f1, w1, R1), lk, S6, rfl, e6, rs_end M (qS5.mono fRs_R) y19 y19o eo ho (Or.inl elk.symm) (d4.mono fRn_t) (cR.eq d4 rfl rfl rfl rfl rfl) k1 k2 hf0 d1 (by rw [d2, if_neg hf, if_neg hf]) (by rw [d3, if_neg hf, if_neg hf])⟩
      · have hl60 : l < 60 := Nat.lt_of_lt_of_le hl1 m3.1
        have hlp : 0 ≤ lk := by rw [hl2]; exact nI_pos' (by omega)
        rw [if_pos hlp, if_pos hlp]
        obtain ⟨f, v, R2, S6, g1, g2, d1, d2, d3, d4, g5, g6, g7, g8⟩ := t_run (ex := ex) m3 m4 m5 m6 ho hl1 hs h10 hl3 rt0 (Nat.le_refl _) t2 r2 v2 m10 hw2.1 hw2.2 (Nat.zero_le _) (b29.trans hz) (x19.trans hl2)
        refine ⟨(f, v, R2), lk, S6, by rw [hl2, nI_clamp (by omega), g1]; rfl, g2, rs_end M (qS2.mono fRs_R) x19 x19o eo ho (Or.inl elk.symm) d4 g5 g6 g7 g8 d1 d2 d3⟩
    · rw [if_neg hz, if_neg (fun z => hz (b29.symm.trans z))]
      obtain ⟨S6, e6, d1, d2, d3, d4⟩ := t_bad m6 ho ho60 t2 b29 (layL_0 _ _ _ _) hz (nI s)
      exact ⟨bad (layL T o 0 vs).1 (0, R.2), lk, S6, rfl, e6, rs_end M (qS2.mono fRs_R) x19 x19o eo ho (Or.inl elk.symm) (d4.mono fRn_t) (r2.eq d4 rfl rfl rfl rfl rfl) rt0 (Nat.le_refl _) (layL_0 _ _ _ _) d1 d2 d3⟩
