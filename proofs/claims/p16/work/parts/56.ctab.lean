/-! THE CLASS'S OTHER CELLS: types, handles; adapting; the next depth. My own rows. -/
/-- outside the class's fixed objects and the reference's, which stand behind them -/
def out (ac x : Nat) : Prop := ¬ (ac ≤ x ∧ x < ac + 228)
section
variable {z : Nat → Nat} {ac : Nat} {C : cS} {r : aH}
theorem p_at {a : Nat} {e : Option aE} (ho : out ac a) (h : r.2.2 a = e) : (co ac C r).2.2 a = e := (co_out ac C r (by unfold out at ho; omega)).trans h
theorem p_rdR {a c k : Nat} {fs : List aV} {cs : List Nat} {x : Option Nat} (h : r.2.2 a = some (.inr (c, fs))) (ho : out ac a) (hc : c ∈ cs) (hf : fs[k]? = some (.inr (.inr x))) : rdR (co ac C r) a cs k = some x := by
  unfold rdR rdF
  rw [p_at ho h]
  simp only
  rw [if_pos hc, hf]
theorem p_rdI {a c k : Nat} {fs : List aV} {cs : List Nat} {x : Int32} (h : r.2.2 a = some (.inr (c, fs))) (ho : out ac a) (hc : c ∈ cs) (hf : fs[k]? = some (.inl x)) : rdI (co ac C r) a cs k = some x := by
  unfold rdI rdF
  rw [p_at ho h]
  simp only
  rw [if_pos hc, hf]
theorem p_rdJ {a c k : Nat} {fs : List aV} {cs : List Nat} {x : Int64} (h : r.2.2 a = some (.inr (c, fs))) (ho : out ac a) (hc : c ∈ cs) (hf : fs[k]? = some (.inr (.inl x))) : rdJ (co ac C r) a cs k = some x := by
  unfold rdJ rdF
  rw [p_at ho h]
  simp only
  rw [if_pos hc, hf]
theorem p_ob {a c : Nat} {fs : List aV} (h : r.2.2 a = some (.inr (c, fs))) (ho : out ac a) : obO (co ac C r) a c = some fs := by
  unfold obO
  rw [p_at ho h]
  simp only
  rw [if_pos trivial]
theorem p_cl {a c : Nat} {fs : List aV} (h : r.2.2 a = some (.inr (c, fs))) (ho : out ac a) : clO (co ac C r) a = some c := by
  unfold clO
  rw [p_at ho h]
theorem p_an {a tg n : Nat} {f : (Nat → Int32) ⊕ (Nat → Int64) ⊕ (Nat → Option Nat)} (h : r.2.2 a = some (.inl (tg, n, f))) (ho : out ac a) : arN (co ac C r) a = some (nI n) := by
  unfold arN
  rw [p_at ho h]
  rfl
theorem p_ai {a tg n i : Nat} {f : Nat → Int32} (h : r.2.2 a = some (.inl (tg, n, .inl f))) (ho : out ac a) (hi : i < n) (hn : n < 2 ^ 31) : arI (co ac C r) a (nI i) = some (f i) := by
  unfold arI
  rw [p_at ho h]
  simp only
  rw [nI_clamp (by omega), if_pos ⟨nI_pos (by omega), hi⟩]
/-- types -/
def aTy (ac : Nat) (r : aH) (a : Nat) (ts : List Int32) (g : Int32) : Prop := out ac a ∧ ts.length ≤ 6 ∧ ∃ (k tg : Nat) (f : Nat → Int32), r.2.2 a = some (.inr (6, [rfV k, .inl g])) ∧ out ac k ∧ r.2.2 k = some (.inl (tg, ts.length, .inl f)) ∧ ∀ (i : Nat) (t : Int32), ts[i]? = some t → f i = t
theorem t_ob {a : Nat} {ts : List Int32} {g : Int32} (h : aTy ac r a ts g) : ∃ fs, obO (co ac C r) a 6 = some fs := by
  obtain ⟨h1, h6, k, tg, f, h2, h3, h4, h5⟩ := h
  exact ⟨_, p_ob h2 h1⟩
theorem t_gives {a : Nat} {ts : List Int32} {g : Int32} (h : aTy ac r a ts g) : rdI (co ac C r) a [6] 1 = some g := by
  obtain ⟨h1, h6, k, tg, f, h2, h3, h4, h5⟩ := h
  exact p_rdI h2 h1 (by decide) rfl
theorem t_count {a : Nat} {ts : List Int32} {g : Int32} (h : aTy ac r a ts g) : fX8_count z a (co ac C r) = some (nI ts.length, co ac C r) := by
  obtain ⟨h1, h6, k, tg, f, h2, h3, h4, h5⟩ := h
  unfold fX8_count
  rw [p_rdR h2 h1 (by decide) rfl, o_bs, o_bs, p_an h4 h3, o_bs]
theorem t_at {a i : Nat} {ts : List Int32} {g t : Int32} (h : aTy ac r a ts g) (e : ts[i]? = some t) : fX8_at z a (nI i) (co ac C r) = some (t, co ac C r) := by
  obtain ⟨h1, h6, k, tg, f, h2, h3, h4, h5⟩ := h
  have hi := (List.getElem?_eq_some_iff.mp e).1
  unfold fX8_at
  rw [if_neg (nI_pos (by omega)), p_rdR h2 h1 (by decide) rfl, o_bs, o_bs, p_an h4 h3, o_bs, if_neg (by rw [nI_leI (by omega) (by omega)]; omega), o_bs, o_bs, p_ai h4 h3 hi (by omega), o_bs, h5 i t e]
theorem t_atn {a i : Nat} {ts : List Int32} {g : Int32} (h : aTy ac r a ts g) (hi : ts.length ≤ i) (hl : i < 2 ^ 31) : fX8_at z a (nI i) (co ac C r) = some (-1, co ac C r) := by
  obtain ⟨h1, h6, k, tg, f, h2, h3, h4, h5⟩ := h
  unfold fX8_at
  rw [if_neg (nI_pos (by omega)), p_rdR h2 h1 (by decide) rfl, o_bs, o_bs, p_an h4 h3, o_bs, if_pos (by rw [nI_leI (by omega) (by omega)]; omega)]
/-- which forms look at x, at y -/
def lkX (j : Nat) : Prop := (3 ≤ j ∧ j ≤ 9) ∨ j = 12
def lkY (j : Nat) : Prop := j = 6 ∨ j = 9
/-- another handle: its object, its parts -/
def oOk (ac : Nat) (T : mS) (r : aH) (ha : Nat → Nat) (c j ty pa hx hy : Nat) : Prop := tI T 2 c = nI (20 + j) ∧ out ac pa ∧ (∃ (hk : Int32) (hn : Int64), r.2.2 (ha c) = some (.inr (1, [.inl (nI j), rfV ty, .inl (tI T 10 c), rfV pa, .inl hk, .inr (.inl hn)])) ∧ (j = 0 → hk = tI T 11 c ∧ hn = T.2.2.2 12 c)) ∧ r.2.2 pa = some (.inr (2, [.inl (nI j), rfV (ha (tN T 6 c)), rfV hx, rfV hy, .inl (tI T 9 c), .inl (tI T 10 c)])) ∧ tN T 6 c < c ∧ (lkX j → hx = ha (tN T 7 c) ∧ tN T 7 c < c) ∧ (lkY j → hy = ha (tN T 8 c) ∧ tN T 8 c < c)
def hOk (ac : Nat) (T : mS) (r : aH) (ha : Nat → Nat) (c : Nat) : Prop := out ac (ha c) ∧ ∃ ty, aTy ac r ty (tys T c) (tI T 5 c) ∧ ((∃ j, j < 14 ∧ tI T 2 c = nI j ∧ r.2.2 (ha c) = some (.inr (0, [.inl (tI T 2 c), rfV ty, .inl (tI T 10 c)]))) ∨ ∃ j pa hx hy, j < 13 ∧ oOk ac T r ha c j ty pa hx hy)
/-- the types of a handle -/
theorem h_ty {T : mS} {ha : Nat → Nat} {c : Nat} (h : hOk ac T r ha c) : ∃ ty, aTy ac r ty (tys T c) (tI T 5 c) ∧ ∀ C, rdR (co ac C r) (ha c) [0, 1] 1 = some (some ty) := by
  obtain ⟨ho, ty, h1, ⟨j, h2, h3, h4⟩ | ⟨j, pa, hx, hy, h2, h3, h4, ⟨hk, hn, h5, h6⟩, h7⟩⟩ := h
  · exact ⟨ty, h1, fun C => p_rdR h4 ho (by decide) rfl⟩
  · exact ⟨ty, h1, fun C => p_rdR h5 ho (by decide) rfl⟩
/-- adapting -/
theorem a_fail {nr : Nat} {fr to : Int32} {v : aVl} {h : aH} (hc : CA fr to) (hv : VT nr fr v) : fX0_failure z v.1 fr to h = some ((adS fr to v.1 v.2).1, h) := by
  unfold fX0_failure fX0_failure_16 adS
  by_cases e1 : fr = to
  · rw [if_pos e1]
    subst e1
    by_cases e2 : fr = 2
    · subst e2; rfl
    · rw [if_neg e2]
  · rw [if_neg e1]
    by_cases e2 : to = 4
    · subst e2
      by_cases e3 : fr = 2
      · rw [if_pos e3]; rfl
      · rw [if_neg e3]; rfl
    · rw [if_neg e2]
      by_cases e3 : fr = 4
      · rw [if_pos e3, e3]; rfl
      · rw [if_neg e3]
        by_cases e4 : fr = 2
        · rw [if_pos e4, if_pos e4]
          subst e4
          have ht : to = 0 ∨ to = 1 := by
            rcases hc with q | q | q | ⟨q, -⟩ | ⟨q, -⟩ | ⟨-, q⟩
            · exact absurd q e1
            · exact absurd q e2
            · exact absurd q e3
            · exact absurd q (by decide)
            · exact absurd q (by decide)
            · exact q
          rcases ht with rfl | rfl
          · rw [if_pos rfl]
            simp only [if_true]
            by_cases k3 : v.1 = 3
            · rw [if_pos k3, if_pos k3]
            · rw [if_neg k3, if_neg k3]
              rcases hv.2.2.1 rfl with ⟨q, -⟩ | q | q
              · rw [if_pos q, q]; rfl
              · rw [q]; rfl
              · exact absurd (by rw [q]) k3
          · rw [if_neg (by decide), if_pos rfl]
            by_cases k3 : v.1 = 3
            · rw [if_pos k3, if_pos k3]
            · rw [if_neg k3, if_neg k3, if_neg (by decide), if_neg (by decide)]
        · rw [if_neg e4, if_neg e4]
          split <;> rfl
theorem a_kind {nr : Nat} {fr to : Int32} {v : aVl} {h : aH} (hc : CA fr to) (ht : isT to) (hv : VT nr fr v) (h0 : (adS fr to v.1 v.2).1 = 0) : fX0_kindAfter z v.1 fr to h = some ((adS fr to v.1 v.2).2.1, h) ∧ fX0_numberAfter z v.2 to h = some ((adS fr to v.1 v.2).2.2, h) := by
  have hw := ad_vt hc ht hv h0
  unfold fX0_kindAfter fX0_numberAfter
  by_cases e2 : to = 4
  · rw [if_pos e2, if_pos e2, hw.2.2.2.2 e2]
    exact ⟨rfl, rfl⟩
  · rw [if_neg e2, if_neg e2]
    by_cases e5 : to = 1
    · rw [if_pos e5, hw.2.1 e5]
      refine ⟨rfl, ?_⟩
      subst e5
      unfold adS
      by_cases e1 : fr = 1
      · rw [if_pos e1]
      · rw [if_neg e1, if_neg e2]
        by_cases e3 : fr = 4
        · rw [if_pos e3, hv.2.2.2.2 e3]
        · rw [if_neg e3]
          by_cases e4 : fr = 2
          · rw [if_pos e4]
          · rw [if_neg e4, if_pos rfl]
    · rw [if_neg e5]
      by_cases e3 : fr = 4
      · rw [if_pos e3]
        subst e3
        rw [hv.2.2.2.2 rfl]
        unfold adS
        rw [if_neg (Ne.symm e2), if_neg e2, if_pos rfl]
        by_cases e6 : to = 0
        · rw [if_pos e6, if_pos e6]; exact ⟨rfl, rfl⟩
        · rw [if_neg e6, if_neg e6, if_neg e5]; exact ⟨rfl, rfl⟩
      · rw [if_neg e3]
        unfold adS at h0 ⊢
        by_cases e1 : fr = to
        · rw [if_pos e1]; exact ⟨rfl, rfl⟩
        · rw [if_neg e1, if_neg e2, if_neg e3] at h0 ⊢
          by_cases e4 : fr = 2
          · rw [if_pos e4] at h0 ⊢
            refine ⟨?_, rfl⟩
            have ht : to = 0 := by
              rcases hc with q | q | q | ⟨q, -⟩ | ⟨q, -⟩ | ⟨-, q⟩
              · exact absurd q e1
              · exact absurd q e2
              · exact absurd q e3
              · rw [e4] at q; exact absurd q (by decide)
              · rw [e4] at q; exact absurd q (by decide)
              · exact q.resolve_right e5
            subst ht
            by_cases k3 : v.1 = 3
            · rw [if_pos k3] at h0; exact absurd h0 (show ¬ (3 : Int32) = 0 by decide)
            · rw [if_neg k3, if_pos rfl] at h0
              rcases hv.2.2.1 e4 with ⟨q, -⟩ | q | q
              · rw [q]
              · rw [if_pos q] at h0; exact absurd h0 (show ¬ (2 : Int32) = 0 by decide)
              · exact absurd (by rw [q]) k3
          · rw [if_neg e4, if_neg e5]; exact ⟨rfl, rfl⟩
/-- the next depth -/
theorem c_open {d : Nat} (hd : d ≤ 60) (hV : VF C) : ∃ C2, fX5_opened z (ac + 9) (nI d) (co ac C r) = some (some (ac + vO (d + 2)), co ac C2 r) ∧ CV C2 (d + 2) [] ∧ xpt (d + 2) C C2 := by
  unfold fX5_opened
  obtain ⟨C2, e, h1, h2⟩ := v_cutE (z := z) (ac := ac) (r := r) (j := d + 2) (by omega) (hV _ (by omega))
  obtain ⟨fs, e7⟩ := q_o7 ac C r (j := d + 2) (by omega)
  rw [q_fr, o_bs, o_bs, nI_1, r_fr ac C r (by omega), o_bs, o_bs, e7, o_bs, e, o_bs]
  exact ⟨C2, rfl, h1, h2⟩
theorem c_pass {d n : Nat} {as : List aVl} (hd : d ≤ 60) (hV : VF C) (hA : CV C (d + 1) as) (hn : n ≤ as.length) : ∃ C2, fX5_passFirst z (ac + 9) (nI n) (nI d) (co ac C r) = some (co ac C2 r) ∧ CV C2 (d + 2) (as.take n) ∧ xpt (d + 2) C C2 := by
  unfold fX5_passFirst
  obtain ⟨fs, e4⟩ := q_o4 ac C r
  obtain ⟨C1, e1, h1, h2⟩ := c_open (z := z) (ac := ac) (r := r) hd hV
  obtain ⟨fs1, e5⟩ := q_o7 ac C1 r (j := d + 2) (by omega)
  have h6 := hA.1
  obtain ⟨C2, e6, k1, k2⟩ := v_some0 (z := z) (ac := ac) (r := r) (i := d + 1) (j := d + 2) (by omega) (by omega) (by omega) (hA.x h2 (by omega)) h1 hn (by simp; omega)
  rw [e4, o_bs, e1, o_bs]
  simp only
  rw [q_fr, o_bs, o_bs, r_fr ac C1 r (by omega), o_bs, o_bs, e5, o_bs, e6, o_bs]
  exact ⟨C2, rfl, by simpa using k1, h2.tr k2⟩
theorem c_behind {d : Nat} {as : List aVl} (x : Int32) (hd : d ≤ 60) (hV : VF C) (hA : CV C (d + 1) as) (hn : as.length < 6) : ∃ C2, fX5_passBehind z (ac + 9) x (nI d) (co ac C r) = some (co ac C2 r) ∧ CV C2 (d + 2) ((0, x.toInt64) :: as) ∧ xpt (d + 2) C C2 := by
  unfold fX5_passBehind
  obtain ⟨fs, e4⟩ := q_o4 ac C r
  obtain ⟨C1, e1, h1, h2⟩ := c_open (z := z) (ac := ac) (r := r) hd hV
  obtain ⟨fs1, e5⟩ := q_o7 ac C1 r (j := d + 2) (by omega)
  obtain ⟨C2, e6, k1, k2⟩ := v_add (z := z) (ac := ac) (r := r) (j := d + 2) (by omega) h1 (by decide) 0 x.toInt64
  have hA2 : CV C2 (d + 1) as := (hA.x h2 (by omega)).x k2 (by omega)
  obtain ⟨C3, e7, m1, m2⟩ := v_some0 (z := z) (ac := ac) (r := r) (i := d + 1) (j := d + 2) (by omega) (by omega) (by omega) hA2 k1 (Nat.le_refl _) (by simp; omega)
  obtain ⟨fs2, e8⟩ := q_o7 ac C2 r (j := d + 1) (by omega)
  obtain ⟨fs3, e9⟩ := q_o7 ac C2 r (j := d + 2) (by omega)
  rw [q_fr, o_bs, o_bs, r_fr ac C r (by omega), o_bs, e4, o_bs, e1, o_bs, o_bs]
  simp only
  rw [e5, o_bs, e6, o_bs, o_bs, e8, o_bs, v_count (by omega) hA2, o_bs]
  simp only
  rw [e9, o_bs, e7, o_bs]
  exact ⟨C3, rfl, by simpa using m1, (h2.tr k2).tr m2⟩
end
