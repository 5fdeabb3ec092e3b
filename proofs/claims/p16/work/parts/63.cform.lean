/-! THE CLASS: adapted. My own rows. -/
section
variable {z : Nat → Nat} {ac : Nat} {r : aH} {C : cS}
theorem c_addA0 {i j k nr : Nat} {as bs : List aVl} {v : aVl} {fr to : Int32} (hi : i < 63) (hj : j < 63) (hA : CV C i as) (hB : CV C j bs) (hl : bs.length < 6) (e : as[k]? = some v) (hc : CA fr to) (ht : isT to) (hv : VT nr fr v) (h0 : (adS fr to v.1 v.2).1 = 0) : ∃ C2, fX5_addAdapted z (ac + 9) (some (ac + vO j)) (some (ac + vO i)) (nI k) fr to (co ac C r) = some (0, co ac C2 r) ∧ CV C2 j (bs ++ [(adS fr to v.1 v.2).2]) ∧ xpt j C C2 := by
  have e1 := v_kind (z := z) (ac := ac) (r := r) hi hA e
  have e2 := v_num (z := z) (ac := ac) (r := r) hi hA e
  have e3 := a_fail (z := z) (h := co ac C r) hc hv
  rw [h0] at e3
  obtain ⟨e4, e5⟩ := a_kind (z := z) (h := co ac C r) hc ht hv h0
  obtain ⟨C2, e6, a6, x6⟩ := v_add (z := z) (ac := ac) (r := r) hj hB hl (adS fr to v.1 v.2).2.1 (adS fr to v.1 v.2).2.2
  unfold fX5_addAdapted
  simp only [o_bs, o7 ac r hi, o7 ac r hj, e1, e2, e3, e4, e5, e6, if_true]
  exact ⟨C2, rfl, a6, x6⟩
theorem c_addA1 {i j k nr : Nat} {as : List aVl} {v : aVl} {fr to : Int32} (hi : i < 63) (hA : CV C i as) (e : as[k]? = some v) (hc : CA fr to) (hv : VT nr fr v) (h0 : ¬ (adS fr to v.1 v.2).1 = 0) : fX5_addAdapted z (ac + 9) (some (ac + vO j)) (some (ac + vO i)) (nI k) fr to (co ac C r) = some ((adS fr to v.1 v.2).1, co ac C r) := by
  have e1 := v_kind (z := z) (ac := ac) (r := r) hi hA e
  have e3 := a_fail (z := z) (h := co ac C r) hc hv
  unfold fX5_addAdapted
  simp only [o_bs, o7 ac r hi, e1, e3]
  rw [if_neg h0]
theorem c_adG {nr d : Nat} {v : aVl} {fr to : Int32} {R : aRS} (hrc : rc R C) (hz : RZ R) (hV : VF C) (u1 : C.1 7 = v.1) (u2 : C.2.1 1 = v.2) (hc : CA fr to) (ht : isT to) (hv : VT nr fr v) : CG ac r d C (some ((adS fr to v.1 v.2).1, (adS fr to v.1 v.2).2, R)) (fX5_adaptGot z (ac + 9) fr to (co ac C r)) := by
  have e3 := a_fail (z := z) (h := co ac C r) hc hv
  unfold fX5_adaptGot
  simp only [o_bs, q_gk, q_gn, u1, u2, e3]
  by_cases h0 : (adS fr to v.1 v.2).1 = 0
  · obtain ⟨e4, e5⟩ := a_kind (z := z) (h := co ac C r) hc ht hv h0
    obtain ⟨C2, e6, g⟩ := ce_give (z := z) (ac := ac) (r := r) (d := d) hrc hz hV (adS fr to v.1 v.2).2.1 (adS fr to v.1 v.2).2.2
    rw [if_pos h0, h0]
    simp only [e4, e5, o_bs, o4, e6, q_gn, u2]
    exact ⟨_, C2, rfl, rfl, g⟩
  · rw [if_neg h0]
    exact ⟨_, C, rfl, rfl, hrc, hz, hV, kpt.rf _ _, fun e => absurd e h0⟩
variable {T : mS} {ha : Nat → Nat} {nr m d : Nat} {rec : aRec} {P : Nat → Option Nat → Int32 → aH → Option (Int32 × aH)} {c ty pa hx hy : Nat} {as : List aVl} {R : aRS}
theorem c_84 {x7 : Int32} {r1 r3 r4 : Option Nat} {h : aH} (hf : ¬ x7 = 0) : fX5_performAdapted_84 z P (ac + 9) r1 (nI d) r3 r4 x7 h = some (x7, h) := by
  unfold fX5_performAdapted_84 fX5_performAdapted_105
  rw [if_neg hf, if_neg hf]
theorem tys_at (T : mS) {c k : Nat} (hk : k < tN T 3 c) : (tys T c)[k]? = some (tI T 4 (6 * c + k)) := by
  unfold tys
  rw [List.getElem?_map, List.getElem?_range hk]
  rfl
theorem c_32 (K : CK ac r T ha c nr m rec P) (h : IN nr m d R C) (ho : out ac (ha c)) (o : oOk ac T r ha c 12 ty pa hx hy) (hty : aTy ac r ty (tys T c) (tI T 5 c)) (H : hOk ac T r ha (tN T 6 c)) (hcd : c + d ≤ 60) (hA : CV C (d + 1) as) (hT : VTs R.2.1 (tys T c) as) (h80 : R.1 ≤ 80) (g1 : CA (tI T 5 (tN T 6 c)) (tI T 5 c)) (g2 : isT (tI T 5 c)) (y1 : tN T 3 (tN T 6 c) = tN T 3 c) (y2 : ∀ k, k < tN T 3 c → CA (tI T 4 (6 * c + k)) (tI T 4 (6 * tN T 6 c + k)) ∧ isT (tI T 4 (6 * tN T 6 c + k))) : CG ac r d C (if (adL T c (tN T 6 c) 0 as).1 = 0 then thn (rec (tN T 6 c) (adL T c (tN T 6 c) 0 as).2 R) fun v R2 => some ((adS (tI T 5 (tN T 6 c)) (tI T 5 c) v.1 v.2).1, (adS (tI T 5 (tN T 6 c)) (tI T 5 c) v.1 v.2).2, R2) else some (bad (adL T c (tN T 6 c) 0 as).1 R)) (fX5_performAdapted z P (ac + 9) (some (ha c)) (nI d) (co ac C r)) := by
  obtain ⟨o1, o2, ⟨hk, hn, o5, o6⟩, o8, s6, -, -⟩ := o
  obtain ⟨hR, hnr, hm, h1000, hz, hrc, hV⟩ := id h
  obtain ⟨th, fh, b1, b2, b3, b4, b5, b6⟩ := h_ty2 H
  have hl := hT.len
  rw [tys_len] at hl
  have h6 := hA.1
  have q1 : ∀ C, rdR (co ac C r) (ha c) [1] 3 = some (some pa) := fun C => p_rdR o5 ho (by decide) rfl
  have q2 : ∀ C, rdR (co ac C r) (ha c) [1] 1 = some (some ty) := fun C => p_rdR o5 ho (by decide) rfl
  have q5 : ∀ C, rdR (co ac C r) pa [2] 1 = some (some (ha (tN T 6 c))) := fun C => p_rdR o8 o2 (by decide) rfl
  obtain ⟨fc, ofc⟩ : ∃ fs, ∀ C, obO (co ac C r) ty 6 = some fs := by
    obtain ⟨a1, a6, k, tg, f, a2, a3, a4, a5⟩ := id hty
    exact ⟨_, fun C => p_ob a2 a1⟩
  have hgc : ∀ C, rdI (co ac C r) ty [6] 1 = some (tI T 5 c) := fun C => t_gives hty
  obtain ⟨C1, e1, a1, x1⟩ := c_open (z := z) (ac := ac) (r := r) (d := d) (by omega) hV
  have loop : ∀ (ws : List aVl) (n k : Nat) (C3 : cS) (bs : List aVl), k + ws.length = as.length → as.drop k = ws → ws.length < n → bs.length = k → xpt (d + 2) C C3 → CV C3 (d + 2) bs → VTs R.2.1 ((List.range k).map fun j => tI T 4 (6 * tN T 6 c + j)) bs → CG ac r d C (if (adL T c (tN T 6 c) k ws).1 = 0 then thn (rec (tN T 6 c) (bs ++ (adL T c (tN T 6 c) k ws).2) R) fun v R2 => some ((adS (tI T 5 (tN T 6 c)) (tI T 5 c) v.1 v.2).1, (adS (tI T 5 (tN T 6 c)) (tI T 5 c) v.1 v.2).2, R2) else some (bad (adL T c (tN T 6 c) k ws).1 R)) (fX5_performAdapted_38 z P n (ac + 9) (some (ha c)) (nI d) (some ty) (some th) (some (ac + vO (d + 1))) (some (ac + vO (d + 2))) 0 (nI k) (co ac C3 r)) := by
    intro ws
    induction ws with
    | nil =>
      intro n k C3 bs hk hd hn hb x3 a3 v3
      obtain ⟨n, rfl⟩ : ∃ q, n = q + 1 := ⟨n - 1, by omega⟩
      simp at hk
      subst hk
      have A3 := hA.x x3 (show d + 1 ≠ d + 2 by omega)
      have ec := v_count (z := z) (ac := ac) (r := r) (j := d + 1) (by omega) A3
      rw [fX5_performAdapted_38]
      simp only [o_bs, o7 ac r (show d + 1 < 63 by omega), ec, adL, if_true, List.append_nil]
      rw [if_pos (nI_le (Nat.le_refl _) (by omega))]
      unfold fX5_performAdapted_84
      have hTh : VTs R.2.1 (tys T (tN T 6 c)) bs := by
        unfold tys
        rw [y1, ← hl]
        exact v3
      obtain ⟨q, C4, f1, f2, f3, f4, f5, f6, f7, f8⟩ := k_sub K (h.x x3 a3) s6 (by omega) hTh a3
      have k4 : kpt (d + 1) C C4 := (x3.k (by omega)).tr f3.2.2.2.1
      unfold thn
      simp only [o_bs, q1, q5, o4, f1, f2, if_true]
      unfold fX5_performAdapted_105
      by_cases h0 : q.1 = 0
      · rw [if_pos h0, if_pos h0]
        simp only [o_bs, b5, hgc, o4]
        obtain ⟨v1, v2⟩ := f8 h0
        obtain ⟨p, C5, p1, p2, p3⟩ := c_adG (z := z) (ac := ac) (r := r) (d := d) f3.1 f3.2.1 f3.2.2.1 (f3.2.2.2.2 h0).1 (f3.2.2.2.2 h0).2 g1 g2 v1
        rw [p2, o_bs]
        exact cg_tr k4 ⟨p, C5, p1, rfl, p3⟩
      · rw [if_neg h0, if_neg h0]
        exact ⟨q, C4, rfl, rfl, f3.1, f3.2.1, f3.2.2.1, k4, fun e => absurd e h0⟩
    | cons v ws ih =>
      intro n k C3 bs hk hd hn hb x3 a3 v3
      obtain ⟨n, rfl⟩ : ∃ q, n = q + 1 := ⟨n - 1, by omega⟩
      rw [List.length_cons] at hk hn
      have A3 := hA.x x3 (show d + 1 ≠ d + 2 by omega)
      have ec := v_count (z := z) (ac := ac) (r := r) (j := d + 1) (by omega) A3
      have ev : as[k]? = some v := by
        have : (as.drop k)[0]? = some v := by rw [hd]; rfl
        rw [List.getElem?_drop] at this
        exact this
      have hvt : VT R.2.1 (tI T 4 (6 * c + k)) v := by
        have := hT.get k (by rw [tys_len]; omega)
        rw [List.getD_eq_getElem?_getD, List.getD_eq_getElem?_getD, tys_at T (by omega), ev] at this
        exact this
      obtain ⟨ca, it⟩ := y2 k (by omega)
      have t1 := t_at (z := z) (ac := ac) (C := C3) (r := r) hty (tys_at T (show k < tN T 3 c by omega))
      have t2 := t_at (z := z) (ac := ac) (C := C3) (r := r) b1 (tys_at T (show k < tN T 3 (tN T 6 c) by omega))
      rw [fX5_performAdapted_38]
      unfold adL
      by_cases h0 : (adS (tI T 4 (6 * c + k)) (tI T 4 (6 * tN T 6 c + k)) v.1 v.2).1 = 0
      · obtain ⟨C4, e4, a4, x4⟩ := c_addA0 (z := z) (ac := ac) (r := r) (i := d + 1) (j := d + 2) (by omega) (by omega) A3 a3 (by omega) ev ca it hvt h0
        simp only [o_bs, o7 ac r (show d + 1 < 63 by omega), ec, ofc, b3, t1, t2, o4, e4, h0, if_true]
        rw [if_neg (nI_ge (by omega) (by omega)), nI_1]
        have := ih n (k + 1) C4 (bs ++ [(adS (tI T 4 (6 * c + k)) (tI T 4 (6 * tN T 6 c + k)) v.1 v.2).2]) (by omega) (by rw [← List.drop_drop, hd]; rfl) (by omega) (by rw [List.length_append, hb]; rfl) (x3.tr x4) a4 (by
          rw [List.range_succ, List.map_append]
          exact VTs.app (nr := R.2.1) (us := [tI T 4 (6 * tN T 6 c + k)]) (ws := [(adS (tI T 4 (6 * c + k)) (tI T 4 (6 * tN T 6 c + k)) v.1 v.2).2]) ⟨ad_vt ca it hvt h0, trivial⟩ v3)
        rw [List.append_assoc] at this
        exact this
      · have e4 := c_addA1 (z := z) (ac := ac) (r := r) (i := d + 1) (j := d + 2) (by omega) A3 ev ca hvt h0
        simp only [o_bs, o7 ac r (show d + 1 < 63 by omega), ec, ofc, b3, t1, t2, o4, e4, if_neg h0, if_true]
        rw [if_neg (nI_ge (by omega) (by omega))]
        obtain ⟨n, rfl⟩ : ∃ q, n = q + 1 := ⟨n - 1, by omega⟩
        rw [fX5_performAdapted_38]
        simp only [o_bs, o7 ac r (show d + 1 < 63 by omega), ec, if_neg h0, c_84 h0, ite_self]
        exact ⟨_, C3, rfl, rfl, hrc.x x3, hz, hV.x x3 a3, x3.k (by omega), fun e => absurd e h0⟩
  unfold fX5_performAdapted
  obtain ⟨N, hN, eN⟩ : ∃ N, as.length < N ∧ 4000 = N := ⟨4000, by omega, rfl⟩
  rw [eN]
  simp only [o_bs, q1, q2, q5, b2, q_fr, r_fr ac C r (show d < 62 by omega), o4, e1]
  have fin := loop as N 0 C1 [] (by omega) (List.drop_zero ..) hN rfl x1 a1 trivial
  rw [List.nil_append, nI_0] at fin
  exact fin
end
