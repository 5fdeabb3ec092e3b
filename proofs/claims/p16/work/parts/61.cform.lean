/-! THE CLASS: moved, sifted, ended, gone round. My own rows. -/
theorem c_place7 (z : Nat → Nat) (k : Nat) (h : aH) : ∀ (d n a x : Nat), x = k + d → d < n → a < 2 ^ 31 → x < 2 ^ 31 → fX6_placeAt_7 z n (nI k) (nI a) (nI x) h = some (nI (a / 10 ^ d % 10), h) := by
  intro d
  induction d with
  | zero =>
    intro n a x hx hn ha hx2
    obtain ⟨n, rfl⟩ : ∃ q, n = q + 1 := ⟨n - 1, by omega⟩
    rw [fX6_placeAt_7, if_pos (nI_le (by omega) (by omega)), show (10 : Int32) = nI 10 from rfl, pk_rem ha (by decide) (by decide), Nat.pow_zero, Nat.div_one]
  | succ d ih =>
    intro n a x hx hn ha hx2
    obtain ⟨n, rfl⟩ : ∃ q, n = q + 1 := ⟨n - 1, by omega⟩
    rw [fX6_placeAt_7, if_neg (nI_ge (by omega) (by omega)), show x = (k + d) + 1 by omega, pk_m1, show (10 : Int32) = nI 10 from rfl, pk_div ha (by decide) (by decide), ih n (a / 10) (k + d) rfl (by omega) (by omega) (by omega), Nat.div_div_eq_div_mul, show 10 * 10 ^ d = 10 ^ (d + 1) by rw [Nat.pow_succ]; omega]
theorem c_place {z : Nat → Nat} {h : aH} {a m k : Nat} (hk : k < m) (hm : m ≤ 6) (ha : a < 2 ^ 31) : fX6_placeAt z (nI a) (nI m) (nI k) h = some (nI (a / 10 ^ (m - 1 - k) % 10), h) := by
  obtain ⟨m, rfl⟩ : ∃ q, m = q + 1 := ⟨m - 1, by omega⟩
  unfold fX6_placeAt
  rw [nI_p1, c_place7 z k h (m - k) 4000 a m (by omega) (by omega) ha (by omega), Nat.add_sub_cancel]
section
variable {z : Nat → Nat} {ac : Nat} {r : aH} {T : mS} {ha : Nat → Nat} {nr m d : Nat} {rec : aRec} {P : Nat → Option Nat → Int32 → aH → Option (Int32 × aH)} {c ty pa hx hy : Nat} {as : List aVl} {R : aRS} {C : cS}
theorem c_22 (K : CK ac r T ha c nr m rec P) (h : IN nr m d R C) (o : oOk ac T r ha c 2 ty pa hx hy) (hcd : c + d ≤ 60) (hA : CV C (d + 1) as) (w1 : tI T 9 c = nI (tN T 9 c)) (w2 : tN T 9 c < 1000000) (w3 : ∀ k, k < as.length → dgt (tI T 9 c) as.length k < as.length) (hT : VTs R.2.1 (tys T (tN T 6 c)) ((List.range as.length).map fun k => as.getD (dgt (tI T 9 c) as.length k) (0, 0))) : CG ac r d C (rec (tN T 6 c) ((List.range as.length).map fun k => as.getD (dgt (tI T 9 c) as.length k) (0, 0)) R) (fX5_performMoved z P (ac + 9) (some pa) (nI d) (co ac C r)) := by
  obtain ⟨o1, o2, -, o8, s6, -, -⟩ := o
  have h6 := hA.1
  have q2 : ∀ C, rdI (co ac C r) pa [2] 4 = some (nI (tN T 9 c)) := fun C => by rw [← w1]; exact p_rdI o8 o2 (by decide) rfl
  have q5 : ∀ C, rdR (co ac C r) pa [2] 1 = some (some (ha (tN T 6 c))) := fun C => p_rdR o8 o2 (by decide) rfl
  obtain ⟨C1, e1, a1, x1⟩ := c_open (z := z) (ac := ac) (r := r) (d := d) (by omega) h.2.2.2.2.2.2
  have loop : ∀ (u n k : Nat) (C2 : cS), k + u = as.length → u < n → xpt (d + 2) C C2 → CV C2 (d + 2) ((List.range k).map fun k => as.getD (dgt (tI T 9 c) as.length k) (0, 0)) → CG ac r d C (rec (tN T 6 c) ((List.range as.length).map fun k => as.getD (dgt (tI T 9 c) as.length k) (0, 0)) R) (fX5_performMoved_17 z P n (ac + 9) (some pa) (nI d) (some (ac + vO (d + 1))) (some (ac + vO (d + 2))) (nI k) (co ac C2 r)) := by
    intro u
    induction u with
    | zero =>
      intro n k C2 hk hn x2 a2
      obtain ⟨n, rfl⟩ : ∃ q, n = q + 1 := ⟨n - 1, by omega⟩
      obtain rfl : k = as.length := by omega
      have ec := v_count (z := z) (ac := ac) (r := r) (j := d + 1) (by omega) (hA.x x2 (by omega))
      rw [fX5_performMoved_17]
      simp only [o_bs, o7 ac r (show d + 1 < 63 by omega), ec, q5, o4]
      rw [if_pos (nI_le (Nat.le_refl _) (by omega))]
      exact k_tail K (h.x x2 a2) (x2.k (by omega)) s6 (by omega) hT a2
    | succ u ih =>
      intro n k C2 hk hn x2 a2
      obtain ⟨n, rfl⟩ : ∃ q, n = q + 1 := ⟨n - 1, by omega⟩
      have hA2 := hA.x x2 (show d + 1 ≠ d + 2 by omega)
      have ec := v_count (z := z) (ac := ac) (r := r) (j := d + 1) (by omega) hA2
      have w4 := w3 k (by omega)
      have hv : as[dgt (tI T 9 c) as.length k]? = some (as.getD (dgt (tI T 9 c) as.length k) (0, 0)) := by
        rw [List.getD_eq_getElem?_getD, List.getElem?_eq_getElem w4]
        rfl
      have e2 := v_kind (z := z) (ac := ac) (r := r) (j := d + 1) (by omega) hA2 hv
      have e3 := v_num (z := z) (ac := ac) (r := r) (j := d + 1) (by omega) hA2 hv
      have e4 : fX6_placeAt z (nI (tN T 9 c)) (nI as.length) (nI k) (co ac C2 r) = some (nI (dgt (tI T 9 c) as.length k), co ac C2 r) := c_place (by omega) h6 (by omega)
      obtain ⟨C3, e5, a3, x3⟩ := v_add (z := z) (ac := ac) (r := r) (j := d + 2) (by omega) a2 (by simp; omega) (as.getD (dgt (tI T 9 c) as.length k) (0, 0)).1 (as.getD (dgt (tI T 9 c) as.length k) (0, 0)).2
      rw [fX5_performMoved_17]
      simp only [o_bs, o7 ac r (show d + 1 < 63 by omega), o7 ac r (show d + 2 < 63 by omega), ec, q2, o4, e4, e2, e3, e5]
      rw [if_neg (nI_ge (by omega) (by omega)), nI_1]
      refine ih n (k + 1) C3 (by omega) (by omega) (x2.tr x3) ?_
      rw [List.range_succ, List.map_append]
      exact a3
  unfold fX5_performMoved
  simp only [o_bs, q_fr, r_fr ac C r (show d < 62 by omega), o4, e1]
  exact loop as.length 4000 0 C1 (by omega) (by omega) x1 a1
theorem c_24 (K : CK ac r T ha c nr m rec P) (h : IN nr m d R C) (o : oOk ac T r ha c 4 ty pa hx hy) (hcd : c + d ≤ 60) (hA : CV C (d + 1) as) (hT : VTs R.2.1 (tys T c) as) (h80 : R.1 ≤ 80) (w1 : tI T 9 c = nI (tN T 9 c)) (w2 : tN T 9 c < as.length) (y1 : tys T (tN T 7 c) = ((tys T c).drop (tN T 9 c)).take 1) (y2 : tys T (tN T 6 c) = (tys T c).take (tN T 9 c) ++ tI T 5 (tN T 7 c) :: (tys T c).drop (tN T 9 c + 1)) : CG ac r d C (thn (rec (tN T 7 c) ((as.drop (tN T 9 c)).take 1) R) fun v R2 => rec (tN T 6 c) (as.take (tN T 9 c) ++ v :: as.drop (tN T 9 c + 1)) R2) (fX5_performSifted z P (ac + 9) (some pa) (nI d) (co ac C r)) := by
  obtain ⟨o1, o2, -, o8, s6, sx, -⟩ := o
  obtain ⟨sx, s7⟩ := sx (Or.inl (by decide))
  have h6 := hA.1
  have q2 : ∀ C, rdI (co ac C r) pa [2] 4 = some (nI (tN T 9 c)) := fun C => by rw [← w1]; exact p_rdI o8 o2 (by decide) rfl
  have q5 : ∀ C, rdR (co ac C r) pa [2] 1 = some (some (ha (tN T 6 c))) := fun C => p_rdR o8 o2 (by decide) rfl
  have q6 : ∀ C, rdR (co ac C r) pa [2] 2 = some (some (ha (tN T 7 c))) := fun C => by rw [← sx]; exact p_rdR o8 o2 (by decide) rfl
  obtain ⟨C0, e0, a0, x0⟩ := c_open (z := z) (ac := ac) (r := r) (d := d) (by omega) h.2.2.2.2.2.2
  obtain ⟨C1, e1, a1, x1⟩ := v_some (z := z) (ac := ac) (r := r) (i := d + 1) (j := d + 2) (a := tN T 9 c) (b := tN T 9 c + 1) (by omega) (by omega) (by omega) (hA.x x0 (by omega)) a0 (by omega) (by omega) (by simp)
  rw [List.nil_append, Nat.add_sub_cancel_left] at a1
  rw [← nI_1] at e1
  have xx := x0.tr x1
  obtain ⟨q, C2, f1, f2, f3, f4, f5, f6, f7, f8⟩ := k_sub K (h.x xx a1) s7 (by omega) (by rw [y1]; exact (hT.drop _).take _) a1
  have k2 : kpt (d + 1) C C2 := (xx.k (by omega)).tr f3.2.2.2.1
  unfold fX5_performSifted thn
  rw [f1, o_bs]
  simp only [o_bs, q2, q6, q_fr, r_fr ac C r (show d < 62 by omega), o4, o7 ac r (show d + 2 < 63 by omega), e0, e1, f2]
  by_cases h0 : q.1 = 0
  · rw [if_pos h0, if_pos h0]
    have I2 := k_in (h.x xx a1) f3 f4 f5 f6 (by have := f7 h80; omega)
    have hA2 := hA.k k2 (Nat.le_refl _)
    obtain ⟨v1, v2⟩ := f8 h0
    obtain ⟨u1, u2⟩ := f3.2.2.2.2 h0
    obtain ⟨C3, e3, a3, x3⟩ := v_cutE (z := z) (ac := ac) (r := r) (j := d + 2) (by omega) (I2.2.2.2.2.2.2 _ (by omega))
    obtain ⟨C4, e4, a4, x4⟩ := v_some0 (z := z) (ac := ac) (r := r) (i := d + 1) (j := d + 2) (b := tN T 9 c) (by omega) (by omega) (by omega) (hA2.x x3 (by omega)) a3 (by omega) (by simp; omega)
    rw [List.nil_append] at a4
    obtain ⟨t1, t2⟩ := gk_x (x3.tr x4)
    obtain ⟨C5, e5, a5, x5⟩ := v_add (z := z) (ac := ac) (r := r) (j := d + 2) (by omega) a4 (by rw [List.length_take]; omega) q.2.1.1 q.2.1.2
    have hA5 := ((hA2.x x3 (by omega)).x x4 (by omega)).x x5 (by omega)
    obtain ⟨C6, e6, a6, x6⟩ := v_some (z := z) (ac := ac) (r := r) (i := d + 1) (j := d + 2) (a := tN T 9 c + 1) (b := as.length) (by omega) (by omega) (by omega) hA5 a5 (by omega) (Nat.le_refl _) (by rw [List.length_append, List.length_take]; simp; omega)
    rw [← nI_1] at e6
    have ec := v_count (z := z) (ac := ac) (r := r) (j := d + 1) (by omega) hA5
    simp only [o_bs, q2, q5, q_gk, q_gn, t1, t2, u1, u2, o4, o7 ac r (show d + 2 < 63 by omega), o7 ac r (show d + 1 < 63 by omega), e3, e4, e5, ec, e6]
    have x := ((x3.tr x4).tr x5).tr x6
    have e7 : as.take (tN T 9 c) ++ [(q.2.1.1, q.2.1.2)] ++ (as.drop (tN T 9 c + 1)).take (as.length - (tN T 9 c + 1)) = as.take (tN T 9 c) ++ q.2.1 :: as.drop (tN T 9 c + 1) := by
      rw [List.append_assoc, List.take_of_length_le (l := as.drop (tN T 9 c + 1)) (by rw [List.length_drop]; omega)]
      rfl
    rw [e7] at a6
    refine cg_tr k2 (k_tail K (I2.x x a6) (x.k (by omega)) s6 (by omega) ?_ a6)
    rw [y2]
    exact VTs.app (VTs.cons v1 ((hT.mono f5).drop _)) ((hT.mono f5).take _)
  · rw [if_neg h0, if_neg h0]
    exact ⟨q, C2, rfl, rfl, ce_tr (xx.k (by omega)) f3⟩
theorem c_e57 (K : CK ac r T ha c nr m rec P) {q : aRes} {C2 : cS} (I2 : IN nr m d q.2.2 C2) (q6 : ∀ C, rdR (co ac C r) pa [2] 2 = some (some (ha (tN T 7 c)))) (s7 : tN T 7 c < c) (hcd : c + d ≤ 60) (k2 : kpt (d + 1) C C2) (hA2 : CV C2 (d + 1) as) (hT : VTs q.2.2.2.1 (tys T c) as) (w : as.length < 6) (y2 : tys T (tN T 7 c) = 0 :: tys T c) (u : q.1 = 0 → C2.1 7 = q.2.1.1 ∧ C2.2.1 1 = q.2.1.2) (y : Int32) : CG ac r d C ((rec (tN T 7 c) ((0, y.toInt64) :: as) q.2.2).bind fun q2 => if q2.1 = 0 then some (q.1, q.2.1, q2.2.2) else some q2) (fX5_performEnded_57 z P (ac + 9) (some pa) (nI d) q.1 (C2.1 7) (C2.2.1 1) (some (ac + 9)) y (co ac C2 r)) := by
  obtain ⟨C3, e3, a3, x3⟩ := c_behind (z := z) (ac := ac) (r := r) (d := d) y (by omega) I2.2.2.2.2.2.2 hA2 w
  obtain ⟨q2, C4, f1, f2, f3, f4, f5, f6, f7, f8⟩ := k_sub K (I2.x x3 a3) s7 (by omega) (by rw [y2]; exact VTs.cons (vt0 (vi_32 _)) hT) a3
  unfold fX5_performEnded_57
  rw [f1, o_bs]
  simp only [o_bs, o4, e3, q6, f2]
  have kk : kpt (d + 1) C C4 := (k2.tr (x3.k (by omega))).tr f3.2.2.2.1
  by_cases h0 : q2.1 = 0
  · rw [if_pos h0, if_pos h0]
    obtain ⟨C5, e5, g1, g2, g3, g4⟩ := c_give (z := z) (ac := ac) (C := C4) (r := r) (C2.1 7) (C2.2.1 1)
    rw [e5, o_bs]
    exact ⟨_, C5, rfl, rfl, g4 _ f3.1, f3.2.1, f3.2.2.1.z g1, kk.tr (g1 _), fun e => ⟨g2.trans (u e).1, g3.trans (u e).2⟩⟩
  · rw [if_neg h0, if_neg h0]
    exact ⟨q2, C4, rfl, rfl, f3.1, f3.2.1, f3.2.2.1, kk, fun e => absurd e h0⟩
theorem c_28 (K : CK ac r T ha c nr m rec P) (h : IN nr m d R C) (o : oOk ac T r ha c 8 ty pa hx hy) (hcd : c + d ≤ 60) (hA : CV C (d + 1) as) (hT : VTs R.2.1 (tys T c) as) (h80 : R.1 ≤ 80) (w : as.length < 6) (y1 : tys T (tN T 6 c) = tys T c) (y2 : tys T (tN T 7 c) = 0 :: tys T c) : CG ac r d C ((rec (tN T 6 c) as R).bind fun q => (rec (tN T 7 c) ((0, if inI q.1.toInt64 7 10 = 0 then q.1.toInt64 else 99) :: as) q.2.2).bind fun q2 => if q2.1 = 0 then some (q.1, q.2.1, q2.2.2) else some q2) (fX5_performEnded z P (ac + 9) (some pa) (nI d) (co ac C r)) := by
  obtain ⟨o1, o2, -, o8, s6, sx, -⟩ := o
  obtain ⟨sx, s7⟩ := sx (Or.inl (by decide))
  have q5 : ∀ C, rdR (co ac C r) pa [2] 1 = some (some (ha (tN T 6 c))) := fun C => p_rdR o8 o2 (by decide) rfl
  have q6 : ∀ C, rdR (co ac C r) pa [2] 2 = some (some (ha (tN T 7 c))) := fun C => by rw [← sx]; exact p_rdR o8 o2 (by decide) rfl
  obtain ⟨C1, e1, a1, x1⟩ := c_pass (z := z) (ac := ac) (r := r) (d := d) (by omega) h.2.2.2.2.2.2 hA (Nat.le_refl _)
  rw [List.take_length] at a1
  have ec := v_count (z := z) (ac := ac) (r := r) (j := d + 1) (by omega) hA
  obtain ⟨q, C2, f1, f2, f3, f4, f5, f6, f7, f8⟩ := k_sub K (h.x x1 a1) s6 (by omega) (by rw [y1]; exact hT) a1
  have k2 : kpt (d + 1) C C2 := (x1.k (by omega)).tr f3.2.2.2.1
  have I2 := k_in (h.x x1 a1) f3 f4 f5 f6 (by have := f7 h80; omega)
  have hA2 := hA.k k2 (Nat.le_refl _)
  unfold fX5_performEnded
  rw [f1, o_bs]
  simp only [o_bs, q5, ec, q_fr, r_fr ac C r (show d < 62 by omega), o7 ac r (show d + 1 < 63 by omega), o4, e1, f2, q_gk, q_gn]
  have c1 : (lg_cmp q.1.toInt64 7 < 0) ↔ q.1 < 7 := by rw [lg_cmp_lt, Int64.lt_iff_toInt_lt, Int32.lt_iff_toInt_lt, Int32.toInt_toInt64]; rfl
  have c2 : (0 < lg_cmp q.1.toInt64 10) ↔ 10 < q.1 := by rw [lg_cmp_gt, Int64.lt_iff_toInt_lt, Int32.lt_iff_toInt_lt, Int32.toInt_toInt64]; rfl
  unfold inI
  by_cases h7 : q.1 < 7
  · rw [if_pos (c1.mpr h7), if_pos h7]
    exact c_e57 K I2 q6 s7 hcd k2 hA2 (hT.mono f5) w y2 f3.2.2.2.2 q.1
  · rw [if_neg (fun e => h7 (c1.mp e)), if_neg h7]
    by_cases h10 : 10 < q.1
    · rw [if_pos (c2.mpr h10), if_pos h10]
      exact c_e57 K I2 q6 s7 hcd k2 hA2 (hT.mono f5) w y2 f3.2.2.2.2 q.1
    · rw [if_neg (fun e => h10 (c2.mp e)), if_neg h10, if_neg (by decide)]
      exact c_e57 K I2 q6 s7 hcd k2 hA2 (hT.mono f5) w y2 f3.2.2.2.2 99
theorem c_rf {n a0 : Nat} {r1 : Option Nat} {x2 f x4 x5 : Int32} {h : aH} (hf : ¬ f = 0) : fX5_performRound_49 z P (n + 1) a0 r1 x2 f x4 x5 h = some (f, h) := by
  rw [fX5_performRound_49, if_neg hf]
  split <;> rfl
theorem c_loop (K : CK ac r T ha c nr m rec P) (hcd : c + d ≤ 60) (q6 : ∀ C, rdR (co ac C r) pa [2] 2 = some (some (ha (tN T 7 c)))) (s7 : tN T 7 c < c) {t : Int32} (ht : tys T (tN T 7 c) = [t, 0]) (hg : tI T 5 (tN T 7 c) = t) (L : Int32) : ∀ (u n k : Nat) (v : aVl) (R : aRS) (C2 : cS), k + u = 200 → u < n → k ≤ R.1 → R.1 ≤ 80 → IN nr m d R C2 → kpt (d + 1) C C2 → VT R.2.1 t v → C2.1 7 = v.1 → C2.2.1 1 = v.2 → CG ac r d C (sLoop rec (tN T 7 c) L.toInt64 u (nI k).toInt64 v R) (fX5_performRound_49 z P n (ac + 9) (some pa) (nI d) 0 (if 81 < L then 81 else L) (nI k) (co ac C2 r)) := by
  intro u
  induction u with
  | zero => intro n k v R C2 hk hn hkr h80; omega
  | succ u ih =>
    intro n k v R C2 hk hn hkr h80 I2 k2 hv u1 u2
    obtain ⟨n, rfl⟩ : ∃ q, n = q + 1 := ⟨n - 1, by omega⟩
    have cc : (0 ≤ lg_cmp (nI k).toInt64 L.toInt64) ↔ (if 81 < L then 81 else L) ≤ nI k := by
      rw [lg_cmp_ge, Int64.le_iff_toInt_le, Int32.le_iff_toInt_le, Int32.toInt_toInt64, Int32.toInt_toInt64, nI_toInt (by omega)]
      by_cases h81 : 81 < L
      · rw [if_pos h81]
        rw [Int32.lt_iff_toInt_lt] at h81
        have e81 : (81 : Int32).toInt = 81 := rfl
        rw [e81] at h81 ⊢
        omega
      · rw [if_neg h81]
    unfold sLoop
    rw [fX5_performRound_49]
    by_cases hl : 0 ≤ lg_cmp (nI k).toInt64 L.toInt64
    · rw [if_pos hl, if_pos (cc.mp hl)]
      exact ⟨_, C2, rfl, rfl, I2.2.2.2.2.2.1, I2.2.2.2.2.1, I2.2.2.2.2.2.2, k2, fun _ => ⟨u1, u2⟩⟩
    · rw [if_neg hl, if_neg (fun e => hl (cc.mpr e)), if_pos rfl]
      obtain ⟨C3, e3, a3, x3⟩ := c_open (z := z) (ac := ac) (r := r) (d := d) (by omega) I2.2.2.2.2.2.2
      obtain ⟨t1, t2⟩ := gk_x x3
      obtain ⟨C4, e4, a4, x4⟩ := v_add (z := z) (ac := ac) (r := r) (j := d + 2) (by omega) a3 (by decide) v.1 v.2
      obtain ⟨C5, e5, a5, x5⟩ := v_add (z := z) (ac := ac) (r := r) (j := d + 2) (by omega) a4 (by simp) 0 (nI k).toInt64
      have x := (x3.tr x4).tr x5
      obtain ⟨q, C6, f1, f2, f3, f4, f5, f6, f7, f8⟩ := k_sub K (bs := [v, (0, (nI k).toInt64)]) (I2.x x a5) s7 (by omega) (by rw [ht]; exact ⟨hv, vt0 (vi_32 _), trivial⟩) a5
      simp only [o_bs, o4, e3, q_gk, q_gn, t1, t2, u1, u2, o7 ac r (show d + 2 < 63 by omega), e4, e5, q6, f2, f1]
      have kk : kpt (d + 1) C C6 := (k2.tr (x.k (by omega))).tr f3.2.2.2.1
      by_cases h0 : q.1 = 0
      · obtain ⟨v1, v2⟩ := f8 h0
        rw [if_pos h0, h0, i64_j (by omega), nI_1]
        exact ih n (k + 1) q.2.1 q.2.2 C6 (by omega) (by omega) (by omega) (v2 h80) (k_in (I2.x x a5) f3 f4 f5 f6 (by have := f7 h80; omega)) kk (by rw [← hg]; exact v1) (f3.2.2.2.2 h0).1 (f3.2.2.2.2 h0).2
      · rw [if_neg h0]
        obtain ⟨n, rfl⟩ : ∃ q, n = q + 1 := ⟨n - 1, by omega⟩
        rw [c_rf h0]
        exact ⟨q, C6, rfl, rfl, f3.1, f3.2.1, f3.2.2.1, kk, fun e => absurd e h0⟩
theorem c_29 (K : CK ac r T ha c nr m rec P) (h : IN nr m d R C) (o : oOk ac T r ha c 9 ty pa hx hy) (hcd : c + d ≤ 60) (h80 : R.1 ≤ 80) (y1 : tys T (tN T 6 c) = []) (g1 : tI T 5 (tN T 6 c) = 0) {t : Int32} (y2 : tys T (tN T 7 c) = [t, 0]) (g2 : tI T 5 (tN T 7 c) = t) (y3 : tys T (tN T 8 c) = []) (g3 : tI T 5 (tN T 8 c) = t) : CG ac r d C (thn (rec (tN T 6 c) [] R) fun v R2 => thn (rec (tN T 8 c) [] R2) fun w R3 => sLoop rec (tN T 7 c) v.2 200 0 w R3) (fX5_performRound z P (ac + 9) (some pa) (nI d) (co ac C r)) := by
  obtain ⟨o1, o2, -, o8, s6, sx, sy⟩ := o
  obtain ⟨sx, s7⟩ := sx (Or.inl (by decide))
  obtain ⟨sy, s8⟩ := sy (Or.inr rfl)
  have q5 : ∀ C, rdR (co ac C r) pa [2] 1 = some (some (ha (tN T 6 c))) := fun C => p_rdR o8 o2 (by decide) rfl
  have q6 : ∀ C, rdR (co ac C r) pa [2] 2 = some (some (ha (tN T 7 c))) := fun C => by rw [← sx]; exact p_rdR o8 o2 (by decide) rfl
  have q7 : ∀ C, rdR (co ac C r) pa [2] 3 = some (some (ha (tN T 8 c))) := fun C => by rw [← sy]; exact p_rdR o8 o2 (by decide) rfl
  obtain ⟨C1, e1, a1, x1⟩ := c_open (z := z) (ac := ac) (r := r) (d := d) (by omega) h.2.2.2.2.2.2
  obtain ⟨q, C2, f1, f2, f3, f4, f5, f6, f7, f8, f9⟩ := k_sub2 K (h.x x1 a1) s6 (by omega) (by rw [y1]; exact trivial) a1
  have k2 : kpt (d + 1) C C2 := (x1.k (by omega)).tr f3.2.2.2.1
  unfold fX5_performRound thn
  rw [f1, o_bs]
  simp only [o_bs, o4, e1, q5, f2, q_gn]
  by_cases h0 : q.1 = 0
  · rw [if_pos h0, if_pos h0]
    obtain ⟨v1, v2⟩ := f8 h0
    have I2 := k_in (h.x x1 a1) f3 f4 f5 f6 (by have := f7 h80; omega)
    obtain ⟨p, C3, j1, j2, j3, j4, j5, j6, j7, j8⟩ := k_sub K I2 s8 (by omega) (by rw [y3]; exact trivial) f9
    have k3 : kpt (d + 1) C C3 := k2.tr j3.2.2.2.1
    rw [j1, o_bs]
    simp only [o_bs, q7, j2]
    by_cases p0 : p.1 = 0
    · obtain ⟨w1, w2⟩ := j8 p0
      rw [if_pos p0, p0, (f3.2.2.2.2 h0).2]
      rw [g1] at v1
      obtain ⟨L, el, el2⟩ := vi_e (v1.1 rfl).2
      rw [el2, el]
      have I3 := k_in I2 j3 j4 j5 j6 (by have := w2 (v2 h80); omega)
      exact c_loop K hcd q6 s7 y2 g2 L 200 4000 0 p.2.1 p.2.2 C3 rfl (by decide) (Nat.zero_le _) (w2 (v2 h80)) I3 k3 (by rw [← g3]; exact w1) (j3.2.2.2.2 p0).1 (j3.2.2.2.2 p0).2
    · rw [if_neg p0, c_rf p0]
      exact ⟨p, C3, rfl, rfl, j3.1, j3.2.1, j3.2.2.1, k3, fun e => absurd e p0⟩
  · rw [if_neg h0, if_neg h0, c_rf h0]
    exact ⟨q, C2, rfl, rfl, f3.1, f3.2.1, f3.2.2.1, k2, fun e => absurd e h0⟩
end
