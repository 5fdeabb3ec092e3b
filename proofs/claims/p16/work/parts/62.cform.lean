/-! THE CLASS: spread, gathered. My own rows. -/
theorem nI_subN {a b : Nat} (h : b ≤ a) : nI a - nI b = nI (a - b) := by
  have e : nI (a - b) + nI b = nI a := by rw [nI_add, Nat.sub_add_cancel h]
  rw [← e, Int32.add_sub_cancel]
section
variable {z : Nat → Nat} {ac : Nat} {r : aH} {T : mS} {ha : Nat → Nat} {nr m d : Nat} {rec : aRec} {P : Nat → Option Nat → Int32 → aH → Option (Int32 × aH)} {c ty pa hx hy : Nat} {as : List aVl} {R : aRS} {C : cS}
theorem c_30 (K : CK ac r T ha c nr m rec P) (h : IN nr m d R C) (o : oOk ac T r ha c 10 ty pa hx hy) (hcd : c + d ≤ 60) (hA : CV C (d + 1) as) (hT : VTs R.2.1 (tys T c) as) (w1 : tI T 9 c = nI (tN T 9 c)) (w2 : tN T 9 c ≤ 6) (H6 : (tys T (tN T 6 c)).length ≤ 6) {ts : List Int32} (y1 : tys T c = ts ++ [3]) (y2 : tys T (tN T 6 c) = ts ++ (List.range (tN T 9 c)).map fun _ => 0) : CG ac r d C (as[as.length - 1]?.bind fun v => if v.1 = 3 then some (bad 3 R) else (rrl R v.2.toInt32).bind fun n => if n = tI T 9 c then rec (tN T 6 c) (as.take (as.length - 1) ++ (List.range (tN T 9 c)).map fun k => (0, (R.2.2.2.1 (20 * v.2.toInt32.toNatClampNeg + k)).toInt64)) R else some (bad 6 R)) (fX5_performSpread z P (ac + 9) (some pa) (nI d) (co ac C r)) := by
  obtain ⟨o1, o2, -, o8, s6, -, -⟩ := o
  obtain ⟨hR, hn, hm, h1000, hz, hrc, hV⟩ := id h
  have h60 := hR.1
  have q2 : ∀ C, rdI (co ac C r) pa [2] 4 = some (nI (tN T 9 c)) := fun C => by rw [← w1]; exact p_rdI o8 o2 (by decide) rfl
  have q5 : ∀ C, rdR (co ac C r) pa [2] 1 = some (some (ha (tN T 6 c))) := fun C => p_rdR o8 o2 (by decide) rfl
  have h6 := hA.1
  rw [y1] at hT
  obtain ⟨t1, t2⟩ := VTs.split hT
  have hl := hT.len
  rw [List.length_append] at hl
  simp at hl
  obtain ⟨v, w0, ev, hv, t3⟩ := t2.one
  have e0 : w0 = [] := t3.nil
  subst e0
  rw [show ts.length = as.length - 1 by omega] at t1 ev
  have gv : as[as.length - 1]? = some v := by
    have : (as.drop (as.length - 1))[0]? = some v := by rw [ev]; rfl
    rw [List.getElem?_drop] at this
    exact this
  obtain ⟨n1, en⟩ : ∃ n1, as.length = n1 + 1 := ⟨as.length - 1, by omega⟩
  have en1 : as.length - 1 = n1 := by omega
  rw [en1] at gv t1 ⊢
  have ec := v_count (z := z) (ac := ac) (r := r) (j := d + 1) (by omega) hA
  rw [en] at ec
  have ek := v_kind (z := z) (ac := ac) (r := r) (j := d + 1) (by omega) hA gv
  have ei := v_int (z := z) (ac := ac) (r := r) (j := d + 1) (by omega) hA gv
  unfold fX5_performSpread
  rw [gv, o_bs]
  simp only [o_bs, q_fr, r_fr ac C r (show d < 62 by omega), o7 ac r (show d + 1 < 63 by omega), ec, nI_p1, ek]
  by_cases h3 : v.1 = 3
  · rw [if_pos h3, if_pos h3]
    exact go_bad hrc hz hV (by decide)
  · rw [if_neg h3, if_neg h3]
    obtain ⟨a, k1, ha1, ha60, hm1, hk, e2, e4, e5, e6⟩ := row_of hR hv h3
    rw [e6, o_bs]
    simp only [o_bs, ei, e4, q_rr, o3, c_len hrc h60 ha1, e5, q2]
    rw [w1]
    by_cases hq : nI k1 = nI (tN T 9 c)
    · rw [if_pos hq, if_pos hq, nI_clamp (by omega)]
      have hka : k1 = tN T 9 c := (nI_eq (by omega) (by omega)).mp hq
      obtain ⟨C1, e1, a1, x1⟩ := c_open (z := z) (ac := ac) (r := r) (d := d) (by omega) hV
      obtain ⟨C2, e8, a2, x2⟩ := v_some0 (z := z) (ac := ac) (r := r) (i := d + 1) (j := d + 2) (b := n1) (by omega) (by omega) (by omega) (hA.x x1 (by omega)) a1 (by omega) (by simp; omega)
      rw [List.nil_append] at a2
      simp only [o_bs, o4, e1, o7 ac r (show d + 2 < 63 by omega), e8]
      rw [y2, List.length_append] at H6
      simp at H6
      have loop : ∀ (u n k : Nat) (C3 : cS), k + u = tN T 9 c → u < n → xpt (d + 2) C C3 → CV C3 (d + 2) (as.take n1 ++ (List.range k).map fun k => (0, (R.2.2.2.1 (20 * a + k)).toInt64)) → CG ac r d C (rec (tN T 6 c) (as.take n1 ++ (List.range (tN T 9 c)).map fun k => (0, (R.2.2.2.1 (20 * a + k)).toInt64)) R) (fX5_performSpread_73 z P n (ac + 9) (some pa) (nI d) (nI a) (some (ac + vO (d + 2))) (nI k) (co ac C3 r)) := by
        intro u
        induction u with
        | zero =>
          intro n k C3 hk hn x3 a3
          obtain ⟨n, rfl⟩ : ∃ q, n = q + 1 := ⟨n - 1, by omega⟩
          obtain rfl : k = tN T 9 c := by omega
          rw [fX5_performSpread_73]
          simp only [o_bs, q2, q5, o4]
          rw [if_pos (nI_le (Nat.le_refl _) (by omega))]
          refine k_tail K (h.x x3 a3) (x3.k (by omega)) s6 (by omega) ?_ a3
          rw [y2]
          exact VTs.app (VTs.map _ _ _ fun k _ => vt0 (vi_32 _)) t1
        | succ u ih =>
          intro n k C3 hk hn x3 a3
          obtain ⟨n, rfl⟩ : ∃ q, n = q + 1 := ⟨n - 1, by omega⟩
          have ei2 := c_item (z := z) (ac := ac) (r := r) (hrc.x x3) h60 ha1 e5 hm1 (show k < k1 by omega)
          obtain ⟨C4, e9, a4, x4⟩ := v_add (z := z) (ac := ac) (r := r) (j := d + 2) (by omega) a3 (by rw [List.length_append, List.length_take]; simp; omega) 0 (R.2.2.2.1 (20 * a + k)).toInt64
          rw [fX5_performSpread_73]
          simp only [o_bs, q2, q_rr, o3, ei2, o7 ac r (show d + 2 < 63 by omega), e9]
          rw [if_neg (nI_ge (by omega) (by omega)), nI_1]
          refine ih n (k + 1) C4 (by omega) (by omega) (x3.tr x4) ?_
          rw [List.range_succ, List.map_append, ← List.append_assoc]
          exact a4
      exact loop (tN T 9 c) 4000 0 C2 (by omega) (by omega) (x1.tr x2) (by rw [List.range_zero, List.map_nil, List.append_nil]; exact a2)
    · rw [if_neg hq, if_neg hq]
      exact go_bad hrc hz hV (by decide)
theorem gat_z (R : aRS) (n : Nat) : gat R n [] = R := by
  unfold gat
  obtain ⟨a, b, c, f, g⟩ := R
  simp only [List.length_nil, Nat.add_zero]
  congr 4
  funext i
  rw [if_neg (by omega)]
theorem gat_1 {R : aRS} {n k : Nat} {vs : List aVl} {v : aVl} (e : vs[k]? = some v) : (R.1, R.2.1, R.2.2.1, va_up (gat R n (vs.take k)).2.2.2.1 (20 * n + k) v.2.toInt32, R.2.2.2.2) = gat R n (vs.take (k + 1)) := by
  unfold gat
  have hk := (List.getElem?_eq_some_iff.mp e).1
  simp only
  congr 4
  funext i
  rw [List.length_take, List.length_take, Nat.min_eq_left (by omega), Nat.min_eq_left (by omega)]
  unfold va_up
  simp only
  by_cases h1 : i = 20 * n + k
  · rw [if_pos h1, if_pos (by omega), h1, Nat.add_sub_cancel_left, List.getD_eq_getElem?_getD, List.getElem?_take, if_pos (by omega), e]
    rfl
  · rw [if_neg h1]
    by_cases h2 : 20 * n ≤ i ∧ i < 20 * n + k
    · rw [if_pos h2, if_pos (by omega), List.getD_eq_getElem?_getD, List.getD_eq_getElem?_getD, List.getElem?_take, List.getElem?_take, if_pos (by omega), if_pos (by omega)]
    · rw [if_neg h2, if_neg (by omega)]
theorem c_31 (K : CK ac r T ha c nr m rec P) (h : IN nr m d R C) (o : oOk ac T r ha c 11 ty pa hx hy) (hcd : c + d ≤ 60) (hA : CV C (d + 1) as) (hT : VTs R.2.1 (tys T c) as) (w1 : tI T 9 c = nI (tN T 9 c)) (w2 : tN T 9 c ≤ 5) (H6 : (tys T (tN T 6 c)).length ≤ 6) {ts : List Int32} (y1 : tys T c = ts ++ (List.range (tN T 9 c)).map fun _ => 0) (y2 : tys T (tN T 6 c) = ts ++ [3]) : CG ac r d C (if R.2.1 = 60 then some (bad 10 R) else rec (tN T 6 c) (as.take (as.length - tN T 9 c) ++ [(2, (nI R.2.1).toInt64)]) (gat (rnew R (tN T 9 c)) R.2.1 (as.drop (as.length - tN T 9 c)))) (fX5_performGathered z P (ac + 9) (some pa) (nI d) (co ac C r)) := by
  obtain ⟨o1, o2, -, o8, s6, -, -⟩ := o
  obtain ⟨hR, hn, hm, h1000, hz, hrc, hV⟩ := id h
  have h60 := hR.1
  have q2 : ∀ C, rdI (co ac C r) pa [2] 4 = some (nI (tN T 9 c)) := fun C => by rw [← w1]; exact p_rdI o8 o2 (by decide) rfl
  have q5 : ∀ C, rdR (co ac C r) pa [2] 1 = some (some (ha (tN T 6 c))) := fun C => p_rdR o8 o2 (by decide) rfl
  have h6 := hA.1
  have hl := hT.len
  rw [y1] at hT hl
  obtain ⟨t1, t2⟩ := VTs.split hT
  rw [List.length_append] at hl
  simp at hl
  rw [y2, List.length_append] at H6
  simp at H6
  have hts : ts.length = as.length - tN T 9 c := by omega
  rw [hts] at t1 t2
  generalize hfi : as.length - tN T 9 c = fi at t1 t2 ⊢
  have ec := v_count (z := z) (ac := ac) (r := r) (j := d + 1) (by omega) hA
  unfold fX5_performGathered
  simp only [o_bs, q_fr, r_fr ac C r (show d < 62 by omega), o7 ac r (show d + 1 < 63 by omega), ec, q2, q_rr, o3]
  by_cases hf : R.2.1 = 60
  · rw [if_pos hf, c_full hrc hf]
    simp only [o_bs, if_true]
    exact go_bad hrc hz hV (by decide)
  · rw [if_neg hf]
    obtain ⟨C1, e1, g1, g2, g3, g4⟩ := c_make (z := z) (ac := ac) (r := r) (m := tN T 9 c) hrc hz (by omega) (by omega)
    simp only [e1, o_bs]
    rw [if_neg (fun e => by
      have : decide (nI R.2.1 < 0) = decide ((-1 : Int32) < 0) := by rw [e]
      rw [decide_eq_false (nI_pos (by omega))] at this
      exact absurd this (by decide)), nI_subN (by omega), hfi]
    have hvs : (as.drop fi).length = tN T 9 c := by rw [List.length_drop]; omega
    have len1 : (rnew R (tN T 9 c)).2.2.1 R.2.1 = nI (tN T 9 c) := by simp [rnew, va_up]
    have loop : ∀ (u n k : Nat) (C3 : cS), k + u = tN T 9 c → u < n → rc (gat (rnew R (tN T 9 c)) R.2.1 ((as.drop fi).take k)) C3 → zpt C C3 → CG ac r d C (rec (tN T 6 c) (as.take fi ++ [(2, (nI R.2.1).toInt64)]) (gat (rnew R (tN T 9 c)) R.2.1 (as.drop fi))) (fX5_performGathered_43 z P n (ac + 9) (some pa) (nI d) (some (ac + vO (d + 1))) (nI fi) (nI R.2.1) (nI k) (co ac C3 r)) := by
      intro u
      induction u with
      | zero =>
        intro n k C3 hk hn r3 x3
        obtain ⟨n, rfl⟩ : ∃ q, n = q + 1 := ⟨n - 1, by omega⟩
        obtain rfl : k = tN T 9 c := by omega
        rw [List.take_of_length_le (by omega)] at r3
        have V3 := hV.z x3
        have A3 := hA.k (x3 _) (Nat.le_refl _)
        obtain ⟨C4, e4, a4, x4⟩ := c_open (z := z) (ac := ac) (r := r) (d := d) (by omega) V3
        obtain ⟨C5, e5, a5, x5⟩ := v_some0 (z := z) (ac := ac) (r := r) (i := d + 1) (j := d + 2) (b := fi) (by omega) (by omega) (by omega) (A3.x x4 (by omega)) a4 (by omega) (by simp; omega)
        rw [List.nil_append] at a5
        obtain ⟨C6, e6, a6, x6⟩ := v_add (z := z) (ac := ac) (r := r) (j := d + 2) (by omega) a5 (by rw [List.length_take]; omega) 2 (nI R.2.1).toInt64
        rw [fX5_performGathered_43]
        simp only [o_bs, q2, q5, o4, e4, o7 ac r (show d + 2 < 63 by omega), e5, e6]
        rw [if_pos (nI_le (Nat.le_refl _) (by omega))]
        have x := (x4.tr x5).tr x6
        have I3 : IN nr m d (gat (rnew R (tN T 9 c)) R.2.1 (as.drop fi)) C3 := by
          refine ⟨?_, Nat.le_succ_of_le h.2.1, hm, h1000, ?_, r3, V3⟩
          · exact rt_new hR (by omega) (by omega)
          · intro i hi
            have hi : 20 * (R.2.1 + 1) ≤ i := hi
            show (if _ then _ else (rnew R (tN T 9 c)).2.2.2.1 i) = 0
            rw [if_neg (by omega)]
            exact hz.new i hi
        refine cg_tr (x3 _) (k_tail K (I3.x x a6) (x.k (by omega)) s6 (by omega) ?_ a6)
        rw [y2]
        exact VTs.app (nr := R.2.1 + 1) (us := [3]) (ws := [(2, (nI R.2.1).toInt64)]) ⟨vt3 (Nat.lt_succ_self _), trivial⟩ (t1.mono (Nat.le_succ _))
      | succ u ih =>
        intro n k C3 hk hn r3 x3
        obtain ⟨n, rfl⟩ : ∃ q, n = q + 1 := ⟨n - 1, by omega⟩
        have A3 := hA.k (x3 _) (Nat.le_refl _)
        obtain ⟨v, ev⟩ : ∃ v, (as.drop fi)[k]? = some v := ⟨_, List.getElem?_eq_getElem (by omega)⟩
        have ev2 : as[fi + k]? = some v := by rw [← List.getElem?_drop]; exact ev
        have ei := v_int (z := z) (ac := ac) (r := r) (j := d + 1) (by omega) A3 ev2
        obtain ⟨C4, e4, p1, p2, p3, p4⟩ := c_put (z := z) (ac := ac) (r := r) (a := R.2.1) (k := k) (m := tN T 9 c) r3 (show R.2.1 + 1 ≤ 60 by omega) (Nat.lt_succ_self _) len1 (by omega) (by omega) v.2.toInt32
        rw [fX5_performGathered_43]
        simp only [o_bs, q2, q_rr, o3, nI_add, o7 ac r (show d + 1 < 63 by omega), ei, e4]
        rw [if_neg (nI_ge (by omega) (by omega)), nI_1]
        refine ih n (k + 1) C4 (by omega) (by omega) ?_ (x3.tr p2)
        have := gat_1 (R := rnew R (tN T 9 c)) (n := R.2.1) ev
        rw [← this]
        exact p1
    exact loop (tN T 9 c) 4000 0 C1 (by omega) (by omega) (by rw [List.take_zero, gat_z]; exact g1) g2
end
