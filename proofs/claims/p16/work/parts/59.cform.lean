/-! THE CLASS: others, one by one. My own rows. -/
/-- what the class's sub-step owes -/
def CK (ac : Nat) (r : aH) (T : mS) (ha : Nat → Nat) (N nr m : Nat) (rec : aRec) (P : Nat → Option Nat → Int32 → aH → Option (Int32 × aH)) : Prop := ∀ (c : Nat) (as : List aVl) (R : aRS) (C : cS) (d : Nat), c < N → c + d ≤ 60 → VTs R.2.1 (tys T c) as → RT R → nr ≤ R.2.1 → m ≤ R.1 → R.1 ≤ 1000 → RZ R → rc R C → VF C → CV C (d + 1) as → ∃ q C2, rec c as R = some q ∧ P (ac + 9) (some (ha c)) (nI d) (co ac C r) = some (q.1, co ac C2 r) ∧ CE d C C2 q ∧ RT q.2.2 ∧ R.2.1 ≤ q.2.2.2.1 ∧ R.1 < q.2.2.1 ∧ (R.1 ≤ 80 → q.2.2.1 ≤ 162) ∧ (q.1 = 0 → VT q.2.2.2.1 (tI T 5 c) q.2.1 ∧ (R.1 ≤ 80 → q.2.2.1 ≤ 80))
/-- a state in a step at depth d -/
def IN (nr m d : Nat) (R : aRS) (C : cS) : Prop := RT R ∧ nr ≤ R.2.1 ∧ m ≤ R.1 ∧ R.1 ≤ 1000 ∧ RZ R ∧ rc R C ∧ VF C
def L4 (ac : Nat) (C : cS) : List aV := [rfV (ac + 3), rfV (ac + 10), .inl (C.1 5), .inl (C.1 6), .inl (C.1 7), .inr (.inl (C.2.1 1))]
def L3 (ac : Nat) (C : cS) : List aV := [rfV (ac + 4), rfV (ac + 5), .inl (C.1 4)]
def L7 (ac j : Nat) (C : cS) : List aV := [rfV (ac + (vO j + 1)), rfV (ac + (vO j + 2)), .inl (C.1 (8 + j))]
theorem o4 (ac : Nat) (r : aH) (C : cS) : obO (co ac C r) (ac + 9) 4 = some (L4 ac C) := by
  unfold obO
  rw [co_at ac C r (o := 9) (by decide)]
  rfl
theorem o3 (ac : Nat) (r : aH) (C : cS) : obO (co ac C r) (ac + 3) 3 = some (L3 ac C) := by
  unfold obO
  rw [co_at ac C r (o := 3) (by decide)]
  rfl
theorem o7 (ac : Nat) (r : aH) {j : Nat} (hj : j < 63) (C : cS) : obO (co ac C r) (ac + vO j) 7 = some (L7 ac j C) := by
  unfold obO
  rw [co_at ac C r (Nat.lt_of_le_of_lt (Nat.le_add_right _ 2) (v_lt hj)), cC_v0]
  rfl
theorem cg_tr {ac d : Nat} {r : aH} {C C1 : cS} {x : Option aRes} {y : Option (Int32 × aH)} (k : kpt (d + 1) C C1) (h : CG ac r d C1 x y) : CG ac r d C x y := by
  obtain ⟨q, C2, a, b, c1, c2, c3, c4, c5⟩ := h
  exact ⟨q, C2, a, b, c1, c2, c3, k.tr c4, c5⟩
theorem ce_tr {d : Nat} {C C1 C2 : cS} {q : aRes} (k : kpt (d + 1) C C1) (h : CE d C1 C2 q) : CE d C C2 q := ⟨h.1, h.2.1, h.2.2.1, k.tr h.2.2.2.1, h.2.2.2.2⟩
theorem IN.x {nr m d j : Nat} {R : aRS} {C C1 : cS} {bs : List aVl} (h : IN nr m d R C) (x : xpt j C C1) (c : CV C1 j bs) : IN nr m d R C1 := ⟨h.1, h.2.1, h.2.2.1, h.2.2.2.1, h.2.2.2.2.1, h.2.2.2.2.2.1.x x, h.2.2.2.2.2.2.x x c⟩
section
variable {z : Nat → Nat} {ac : Nat} {r : aH} {T : mS} {ha : Nat → Nat} {N nr m d : Nat} {rec : aRec} {P : Nat → Option Nat → Int32 → aH → Option (Int32 × aH)}
theorem k_sub (K : CK ac r T ha N nr m rec P) {c : Nat} {bs : List aVl} {R : aRS} {C : cS} (h : IN nr m d R C) (hc : c < N) (hcd : c + d < 60) (hT : VTs R.2.1 (tys T c) bs) (hA : CV C (d + 2) bs) : ∃ q C2, rec c bs R = some q ∧ P (ac + 9) (some (ha c)) (nI d + 1) (co ac C r) = some (q.1, co ac C2 r) ∧ CE d C C2 q ∧ RT q.2.2 ∧ R.2.1 ≤ q.2.2.2.1 ∧ R.1 < q.2.2.1 ∧ (R.1 ≤ 80 → q.2.2.1 ≤ 162) ∧ (q.1 = 0 → VT q.2.2.2.1 (tI T 5 c) q.2.1 ∧ (R.1 ≤ 80 → q.2.2.1 ≤ 80)) := by
  obtain ⟨h1, h2, h3, h4, h5, h6, h7⟩ := h
  obtain ⟨q, C2, a, b, ⟨c1, c2, c3, c4, c5⟩, e⟩ := K c bs R C (d + 1) hc (by omega) hT h1 h2 h3 h4 h5 h6 h7 hA
  exact ⟨q, C2, a, by rw [nI_1]; exact b, ⟨c1, c2, c3, c4.dn (by omega), c5⟩, e⟩
/-- the sub-step's own values stay too -/
theorem k_sub2 (K : CK ac r T ha N nr m rec P) {c : Nat} {bs : List aVl} {R : aRS} {C : cS} (h : IN nr m d R C) (hc : c < N) (hcd : c + d < 60) (hT : VTs R.2.1 (tys T c) bs) (hA : CV C (d + 2) bs) : ∃ q C2, rec c bs R = some q ∧ P (ac + 9) (some (ha c)) (nI d + 1) (co ac C r) = some (q.1, co ac C2 r) ∧ CE d C C2 q ∧ RT q.2.2 ∧ R.2.1 ≤ q.2.2.2.1 ∧ R.1 < q.2.2.1 ∧ (R.1 ≤ 80 → q.2.2.1 ≤ 162) ∧ (q.1 = 0 → VT q.2.2.2.1 (tI T 5 c) q.2.1 ∧ (R.1 ≤ 80 → q.2.2.1 ≤ 80)) ∧ CV C2 (d + 2) bs := by
  obtain ⟨h1, h2, h3, h4, h5, h6, h7⟩ := h
  obtain ⟨q, C2, a, b, ⟨c1, c2, c3, c4, c5⟩, e1, e2, e3, e4, e5⟩ := K c bs R C (d + 1) hc (by omega) hT h1 h2 h3 h4 h5 h6 h7 hA
  exact ⟨q, C2, a, by rw [nI_1]; exact b, ⟨c1, c2, c3, c4.dn (by omega), c5⟩, e1, e2, e3, e4, e5, hA.k c4 (Nat.le_refl _)⟩
theorem k_tail (K : CK ac r T ha N nr m rec P) {c : Nat} {bs : List aVl} {R : aRS} {C C1 : cS} (h : IN nr m d R C1) (k : kpt (d + 1) C C1) (hc : c < N) (hcd : c + d < 60) (hT : VTs R.2.1 (tys T c) bs) (hA : CV C1 (d + 2) bs) : CG ac r d C (rec c bs R) ((P (ac + 9) (some (ha c)) (nI d + 1) (co ac C1 r)).bind fun q => some (q.1, q.2)) := by
  obtain ⟨q, C2, a, b, e, -⟩ := k_sub K h hc hcd hT hA
  rw [a, b, o_bs]
  exact ⟨q, C2, rfl, rfl, ce_tr k e⟩
/-- the state behind a sub-step -/
theorem k_in {R : aRS} {C C2 : cS} {q : aRes} (h : IN nr m d R C) (he : CE d C C2 q) (h1 : RT q.2.2) (h2 : R.2.1 ≤ q.2.2.2.1) (h3 : R.1 < q.2.2.1) (h4 : q.2.2.1 ≤ 1000) : IN nr m d q.2.2 C2 := ⟨h1, Nat.le_trans h.2.1 h2, Nat.le_trans h.2.2.1 (Nat.le_of_lt h3), h4, he.2.1, he.1, he.2.2.1⟩
variable {c ty pa hx hy : Nat} {as : List aVl} {R : aRS} {C : cS}
theorem c_20 (K : CK ac r T ha c nr m rec P) (h : IN nr m d R C) (ho : out ac (ha c)) (o : oOk ac T r ha c 0 ty pa hx hy) (hcd : c + d ≤ 60) (hA : CV C (d + 1) as) (hT : VTs R.2.1 (tys T c) as) (w1 : tI T 9 c = nI (tN T 9 c)) (w2 : tN T 9 c ≤ as.length) (w3 : as.length < 6) {t : Int32} (y1 : tys T (tN T 6 c) = (tys T c).take (tN T 9 c) ++ t :: (tys T c).drop (tN T 9 c)) (y2 : VT nr t (tI T 11 c, T.2.2.2 12 c)) : CG ac r d C (rec (tN T 6 c) (as.take (tN T 9 c) ++ (tI T 11 c, T.2.2.2 12 c) :: as.drop (tN T 9 c)) R) (fX5_performBound z P (ac + 9) (some (ha c)) (nI d) (co ac C r)) := by
  obtain ⟨o1, o2, ⟨hk, hn, o5, o6⟩, o8, s6, -, -⟩ := o
  obtain ⟨g1, g2⟩ := o6 rfl
  rw [g1, g2] at o5
  have q1 : ∀ C, rdR (co ac C r) (ha c) [1] 3 = some (some pa) := fun C => p_rdR o5 ho (by decide) rfl
  have q2 : ∀ C, rdI (co ac C r) pa [2] 4 = some (nI (tN T 9 c)) := fun C => by rw [← w1]; exact p_rdI o8 o2 (by decide) rfl
  have q3 : ∀ C, rdI (co ac C r) (ha c) [1] 4 = some (tI T 11 c) := fun C => p_rdI o5 ho (by decide) rfl
  have q4 : ∀ C, rdJ (co ac C r) (ha c) [1] 5 = some (T.2.2.2 12 c) := fun C => p_rdJ o5 ho (by decide) rfl
  have q5 : ∀ C, rdR (co ac C r) pa [2] 1 = some (some (ha (tN T 6 c))) := fun C => p_rdR o8 o2 (by decide) rfl
  obtain ⟨C1, e1, a1, x1⟩ := c_open (z := z) (ac := ac) (r := r) (d := d) (by omega) h.2.2.2.2.2.2
  obtain ⟨C2, e2, a2, x2⟩ := v_some0 (z := z) (ac := ac) (r := r) (i := d + 1) (j := d + 2) (by omega) (by omega) (by omega) (hA.x x1 (by omega)) a1 w2 (by simp; omega)
  rw [List.nil_append] at a2
  obtain ⟨C3, e3, a3, x3⟩ := v_add (z := z) (ac := ac) (r := r) (j := d + 2) (by omega) a2 (by rw [List.length_take]; omega) (tI T 11 c) (T.2.2.2 12 c)
  have hA3 := ((hA.x x1 (by omega)).x x2 (by omega)).x x3 (by omega)
  obtain ⟨C4, e4, a4, x4⟩ := v_some (z := z) (ac := ac) (r := r) (i := d + 1) (j := d + 2) (a := tN T 9 c) (b := as.length) (by omega) (by omega) (by omega) hA3 a3 w2 (Nat.le_refl _) (by rw [List.length_append, List.length_take]; simp; omega)
  have ec := v_count (z := z) (ac := ac) (r := r) (j := d + 1) (by omega) hA3
  unfold fX5_performBound
  simp only [o_bs, q1, q2, q3, q4, q5, q_fr, r_fr ac C r (show d < 62 by omega), o4, o7 ac r (show d + 2 < 63 by omega), o7 ac r (show d + 1 < 63 by omega), e1, e2, e3, ec, e4]
  have x := ((x1.tr x2).tr x3).tr x4
  have e5 : as.take (tN T 9 c) ++ [(tI T 11 c, T.2.2.2 12 c)] ++ (as.drop (tN T 9 c)).take (as.length - tN T 9 c) = as.take (tN T 9 c) ++ (tI T 11 c, T.2.2.2 12 c) :: as.drop (tN T 9 c) := by
    rw [List.append_assoc, List.take_of_length_le (l := as.drop (tN T 9 c)) (by rw [List.length_drop]; omega)]
    rfl
  rw [e5] at a4
  refine k_tail K (h.x x a4) (x.k (by omega)) s6 (by omega) ?_ a4
  rw [y1]
  exact VTs.app (VTs.cons (y2.mono h.2.1) (hT.drop _)) (hT.take _)
theorem c_21 (K : CK ac r T ha c nr m rec P) (h : IN nr m d R C) (o : oOk ac T r ha c 1 ty pa hx hy) (hcd : c + d ≤ 60) (hA : CV C (d + 1) as) (hT : VTs R.2.1 (tys T c) as) (w1 : tI T 9 c = nI (tN T 9 c)) (w2 : tN T 9 c < as.length) (y1 : tys T (tN T 6 c) = (tys T c).take (tN T 9 c) ++ (tys T c).drop (tN T 9 c + 1)) : CG ac r d C (rec (tN T 6 c) (as.take (tN T 9 c) ++ as.drop (tN T 9 c + 1)) R) (fX5_performLeft z P (ac + 9) (some pa) (nI d) (co ac C r)) := by
  obtain ⟨o1, o2, -, o8, s6, -, -⟩ := o
  have h6 := hA.1
  have q2 : ∀ C, rdI (co ac C r) pa [2] 4 = some (nI (tN T 9 c)) := fun C => by rw [← w1]; exact p_rdI o8 o2 (by decide) rfl
  have q5 : ∀ C, rdR (co ac C r) pa [2] 1 = some (some (ha (tN T 6 c))) := fun C => p_rdR o8 o2 (by decide) rfl
  obtain ⟨C1, e1, a1, x1⟩ := c_open (z := z) (ac := ac) (r := r) (d := d) (by omega) h.2.2.2.2.2.2
  obtain ⟨C2, e2, a2, x2⟩ := v_some0 (z := z) (ac := ac) (r := r) (i := d + 1) (j := d + 2) (b := tN T 9 c) (by omega) (by omega) (by omega) (hA.x x1 (by omega)) a1 (by omega) (by simp; omega)
  rw [List.nil_append] at a2
  have hA2 := (hA.x x1 (by omega)).x x2 (by omega)
  obtain ⟨C4, e4, a4, x4⟩ := v_some (z := z) (ac := ac) (r := r) (i := d + 1) (j := d + 2) (a := tN T 9 c + 1) (b := as.length) (by omega) (by omega) (by omega) hA2 a2 (by omega) (Nat.le_refl _) (by rw [List.length_take]; omega)
  have ec := v_count (z := z) (ac := ac) (r := r) (j := d + 1) (by omega) hA2
  unfold fX5_performLeft
  simp only [o_bs, q2, q5, q_fr, r_fr ac C r (show d < 62 by omega), o4, o7 ac r (show d + 2 < 63 by omega), o7 ac r (show d + 1 < 63 by omega), e1, e2, ec, nI_1, e4]
  have x := (x1.tr x2).tr x4
  rw [List.take_of_length_le (l := as.drop (tN T 9 c + 1)) (by rw [List.length_drop]; omega)] at a4
  rw [← nI_1]
  refine k_tail K (h.x x a4) (x.k (by omega)) s6 (by omega) ?_ a4
  rw [y1]
  exact VTs.app (hT.drop _) (hT.take _)
end
