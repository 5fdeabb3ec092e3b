/-! THE CLASS: a run begins. My own rows. -/
theorem vk_k {nr : Nat} {v : aVl} (h : VK nr v) : v.1 = 0 ∨ v.1 = 1 ∨ v.1 = 2 ∨ v.1 = 3 := by
  rcases h with ⟨a, -⟩ | a | ⟨a, -⟩ | a
  · exact Or.inl a
  · exact Or.inr (Or.inl a)
  · exact Or.inr (Or.inr (Or.inl a))
  · exact Or.inr (Or.inr (Or.inr (by rw [a])))
section
variable {z : Nat → Nat} {h : aH}
theorem c_tov {kd : Int32} (hk : kd = 0 ∨ kd = 1 ∨ kd = 2 ∨ kd = 3) (t : Int32) : fX0_typeOf z kd t h = some (tov kd t, h) := by
  unfold fX0_typeOf tov
  rcases hk with rfl | rfl | rfl | rfl
  · rfl
  · rfl
  · rfl
  · by_cases ht : t = 3
    · rw [if_neg (by decide), if_neg (by decide), if_neg (by decide), if_pos ht, if_pos rfl, if_pos ht]
    · rw [if_neg (by decide), if_neg (by decide), if_neg (by decide), if_neg ht, if_pos rfl, if_neg ht]
theorem c_allow (fr to : Int32) : fX0_isAllowed z fr to h = some (if caB fr to = true then 1 else 0, h) := by
  unfold fX0_isAllowed fX0_isAllowed_e caB
  by_cases h1 : fr = to
  · rw [if_pos h1, chk_1]; simp [h1]
  rw [if_neg h1]
  by_cases h2 : to = 4
  · rw [if_pos h2, chk_1]; simp [h2]
  rw [if_neg h2]
  by_cases h3 : fr = 4
  · rw [if_pos h3, chk_1]; simp [h3]
  rw [if_neg h3]
  by_cases h4 : fr = 0
  · rw [if_pos h4]
    by_cases h5 : to = 1
    · rw [if_pos h5, chk_1]; simp [h4, h5]
    rw [if_neg h5]
    by_cases h6 : to = 2
    · rw [if_pos h6, chk_1]; simp [h4, h6]
    · rw [if_neg h6, chk_0]; subst h4; simp [h5, h6, h1, h2]
  rw [if_neg h4]
  by_cases h5 : fr = 1
  · rw [if_pos h5]
    by_cases h6 : to = 2
    · rw [if_pos h6, chk_1]; simp [h5, h6]
    · rw [if_neg h6, chk_0]; subst h5; simp [h6, h1, h2]
  rw [if_neg h5]
  by_cases h6 : fr = 2
  · rw [if_pos h6]
    by_cases h7 : to = 0
    · rw [if_pos h7, chk_1]; simp [h6, h7]
    rw [if_neg h7]
    by_cases h8 : to = 1
    · rw [if_pos h8, chk_1]; simp [h6, h8]
    · rw [if_neg h8, chk_0]; subst h6; simp [h7, h8, h1, h2]
  · rw [if_neg h6, chk_0]; simp [h1, h2, h3, h4, h5, h6]
theorem c_exact {kd t ex : Int32} (hk : kd = 0 ∨ kd = 1 ∨ kd = 2 ∨ kd = 3) (ht : t = 0 ∨ t = 1 ∨ t = 2 ∨ t = 3) (hx : ¬ ex = 0) : fX0_isExactly z kd t h = some (if wv ex t kd = true then 0 else 1, h) := by
  unfold wv
  rw [if_neg hx]
  rcases ht with rfl | rfl | rfl | rfl <;> rcases hk with rfl | rfl | rfl | rfl <;> rfl
end
/-- what the class adapts from -/
def frA2 (ex kd t : Int32) : Int32 := if ex = 0 then tov kd t else t
theorem vt_tov {nr : Nat} {v : aVl} {t : Int32} (h : VK nr v) : VT nr (tov v.1 t) v := by
  obtain ⟨kd, x⟩ := v
  unfold tov
  rcases h with ⟨rfl, b⟩ | rfl | ⟨rfl, r, b, d⟩ | a
  · exact vt0 b
  · exact vt1
  · simp only at d
    rw [d]
    exact vt3 b
  · obtain ⟨rfl, rfl⟩ := Prod.mk.inj a
    by_cases ht : t = 3
    · simp only [if_true, if_pos ht]; exact vt3n
    · simp only [if_true, if_neg ht]; exact vt2n
theorem ad_t {t kd : Int32} {x : Int64} : adS t t kd x = (0, (kd, x)) := by unfold adS; rw [if_pos rfl]
theorem ad_ly {kd t : Int32} {x : Int64} (hk : kd = 0 ∨ kd = 1 ∨ kd = 2 ∨ kd = 3) : adS (tov kd t) t kd x = adS (lyF kd t) t kd x := by
  unfold lyF
  by_cases h1 : tov kd t = t
  · rw [if_pos h1, h1]
  · rw [if_neg h1]
    by_cases h2 : t = 2
    · rw [if_pos h2]
      subst h2
      rw [ad_t]
      rcases hk with rfl | rfl | rfl | rfl <;> rfl
    · rw [if_neg h2]
theorem ly_A {nr : Nat} {ex t : Int32} {v : aVl} (hv : VK nr v) (ht : t = 0 ∨ t = 1 ∨ t = 2 ∨ t = 3) (hw : wv ex t v.1 = false) : CA (frA2 ex v.1 t) t ∧ VT nr (frA2 ex v.1 t) v ∧ adS (frA2 ex v.1 t) t v.1 v.2 = adS (lyF v.1 t) t v.1 v.2 := by
  unfold frA2
  by_cases hx : ex = 0
  · rw [if_pos hx]
    refine ⟨?_, vt_tov hv, ad_ly (vk_k hv)⟩
    unfold wv at hw
    rw [if_pos hx] at hw
    exact (caB_iff _ _).mp (by simpa using hw)
  · rw [if_neg hx]
    have hly : lyF v.1 t = t := by
      unfold wv at hw
      rw [if_neg hx] at hw
      unfold lyF tov
      rcases ht with rfl | rfl | rfl | rfl
      · have : v.1 = 0 := by simpa using hw
        rw [this]; rfl
      · have : v.1 = 1 := by simpa using hw
        rw [this]; rfl
      · rcases vk_k hv with e | e | e | e <;> rw [e] <;> rfl
      · rcases vk_k hv with e | e | e | e <;> rw [e] at hw ⊢
        · exact absurd hw (by decide)
        · exact absurd hw (by decide)
        · rfl
        · rfl
    have h0 : (adS (lyF v.1 t) t v.1 v.2).1 = 0 := by rw [hly, ad_t]
    have := ly_vt hv ht hw h0
    rw [hly, ad_t] at this
    exact ⟨Or.inl rfl, this, by rw [hly]⟩
section
variable {z : Nat → Nat} {ac ty : Nat} {T : mS} {r : aH} {c : Nat} {g : Int32} {vs : List aVl} {R : aRS} {C : cS}
theorem c_fits {ex : Int32} (hv : CV C 0 vs) (hK : ∀ v, v ∈ vs → VK R.2.1 v) (hty : aTy ac r ty (tys T c) g) (hA : ∀ k, k < tN T 3 c → (tI T 4 (6 * c + k) = 0 ∨ tI T 4 (6 * c + k) = 1 ∨ tI T 4 (6 * c + k) = 2 ∨ tI T 4 (6 * c + k) = 3)) : fX5_fits z (ac + 9) (some (ac + vO 0)) (some ty) ex (co ac C r) = some (if isW T c ex vs = true then 0 else 1, co ac C r) := by
  have ec := v_count (z := z) (ac := ac) (r := r) (j := 0) (by decide) hv
  have et := t_count (z := z) (C := C) hty
  rw [tys_len] at et
  obtain ⟨ft, oft⟩ := t_ob (C := C) hty
  have h6 := hv.1
  have h6t : tN T 3 c ≤ 6 := by have := hty.2.1; rw [tys_len] at this; exact this
  have loop : ∀ (ws : List aVl) (n k : Nat), k + ws.length = vs.length → vs.length = tN T 3 c → vs.drop k = ws → ws.length < n → fX5_fits_16 z n (some (ac + vO 0)) (some ty) ex (nI k) (co ac C r) = some (if wrL T c ex k ws = true then 0 else 1, co ac C r) := by
    intro ws
    induction ws with
    | nil =>
      intro n k hk hl hd hn
      obtain ⟨n, rfl⟩ : ∃ q, n = q + 1 := ⟨n - 1, by omega⟩
      simp at hk
      rw [fX5_fits_16]
      simp only [o_bs, oft, et]
      rw [if_pos (nI_le (by omega) (by omega))]
      rfl
    | cons v ws ih =>
      intro n k hk hl hd hn
      obtain ⟨n, rfl⟩ : ∃ q, n = q + 1 := ⟨n - 1, by omega⟩
      rw [List.length_cons] at hk hn
      have ev : vs[k]? = some v := by
        have : (vs.drop k)[0]? = some v := by rw [hd]; rfl
        rw [List.getElem?_drop] at this
        exact this
      have hvk := hK v (List.mem_of_getElem? ev)
      have ek := v_kind (z := z) (ac := ac) (r := r) (j := 0) (by decide) hv ev
      have ea := t_at (z := z) (C := C) hty (tys_at T (show k < tN T 3 c by omega))
      have hd2 : vs.drop (k + 1) = ws := by rw [← List.drop_drop, hd]; rfl
      have go : ∀ b : Bool, fX5_fits_67 z (fX5_fits_16 z n) (some (ac + vO 0)) (some ty) ex (nI k) (if b = true then 0 else 1) (co ac C r) = some (if (b || wrL T c ex (k + 1) ws) = true then 0 else 1, co ac C r) := by
        intro b
        unfold fX5_fits_67
        cases b with
        | true => rfl
        | false =>
          simp only [Bool.false_eq_true, if_false, Bool.false_or]
          rw [if_neg (by decide), nI_1]
          exact ih n (k + 1) (by omega) hl hd2 (by omega)
      rw [fX5_fits_16]
      simp only [o_bs, oft, et, o7 ac r (show 0 < 63 by decide), ek, ea]
      rw [if_neg (nI_ge (by omega) (by omega)), wrL]
      by_cases hx : ex = 0
      · rw [if_pos hx, c_tov (vk_k hvk), o_bs, c_allow, o_bs]
        simp only
        rw [← go (wv ex (tI T 4 (6 * c + k)) v.1)]
        unfold wv
        rw [if_pos hx]
        congr 1
        by_cases hb : caB (tov v.1 (tI T 4 (6 * c + k))) (tI T 4 (6 * c + k)) = true
        · simp [hb]
        · simp [hb]
      · rw [if_neg hx, c_exact (vk_k hvk) (hA k (by omega)) hx, o_bs, ← go (wv ex (tI T 4 (6 * c + k)) v.1)]
  unfold fX5_fits fX5_fits_e isW
  simp only [o_bs, o7 ac r (show 0 < 63 by decide), ec, oft, et]
  by_cases hl : vs.length = tN T 3 c
  · rw [if_pos (by rw [hl])]
    have := loop vs 4000 0 (by omega) hl (List.drop_zero ..) (by omega)
    rw [nI_0] at this
    rw [this]
    by_cases hb : wrL T c ex 0 vs = true
    · simp only [hb, if_true, chk_0, hl]; simp
    · simp only [hb, chk_1, hl]; simp [chk_1]
  · rw [if_neg (fun e => hl ((nI_eq (by omega) (by omega)).mp e)), chk_0]
    simp [hl]
theorem c_begin {ex : Int32} (hv : CV C 0 vs) (hV : VF C) (hrc : rc R C) (hK : ∀ v, v ∈ vs → VK R.2.1 v) (hty : aTy ac r ty (tys T c) g) (hA : ∀ k, k < tN T 3 c → (tI T 4 (6 * c + k) = 0 ∨ tI T 4 (6 * c + k) = 1 ∨ tI T 4 (6 * c + k) = 2 ∨ tI T 4 (6 * c + k) = 3)) : ∃ f C2, fX5_begin z (ac + 9) (some (ac + vO 0)) (some ty) ex (co ac C r) = some (f, co ac C2 r) ∧ rc (0, R.2) C2 ∧ VF C2 ∧ kpt 0 C C2 ∧ (isW T c ex vs = true → f = 7) ∧ (¬ isW T c ex vs = true → f = (layL T c 0 vs).1 ∧ (f = 0 → CV C2 1 (layL T c 0 vs).2)) := by
  have hx0 : zpt C (cI C 5 0) := zpt.I (by decide)
  have hv0 := hv.k (hx0 0) (Nat.le_refl _)
  have hV0 := hV.z hx0
  have hr0 : rc (0, R.2) (cI C 5 0) := ⟨by simp [cI, va_up, nI_0], by simp only [cI]; rw [up_ne _ _ (by decide)]; exact hrc.2.1, hrc.2.2.1, hrc.2.2.2.1, by simp only [cI]; rw [up_ne _ _ (by decide)]; exact hrc.2.2.2.2⟩
  unfold fX5_begin
  rw [w_st, o_bs]
  generalize cI C 5 0 = C0 at hx0 hv0 hV0 hr0 ⊢
  rw [o4, o_bs, c_fits (R := R) (ex := ex) hv0 hK hty hA, o_bs]
  simp only
  by_cases hw : isW T c ex vs = true
  · rw [if_pos hw, if_pos rfl]
    exact ⟨7, C0, rfl, hr0, hV0, hx0 0, fun _ => rfl, fun q => absurd hw q⟩
  · rw [if_neg hw, if_neg (by decide)]
    obtain ⟨C1, e1, a1, x1⟩ := v_cutE (z := z) (ac := ac) (r := r) (j := 1) (by decide) (hV0 1 (by decide))
    have hw2 : vs.length = tN T 3 c ∧ wrL T c ex 0 vs = false := by
      unfold isW at hw
      simp at hw
      exact hw
    have h6 := hv.1
    have efr : arR (co ac C0 r) (ac + 10) 0 = some (some (ac + vO 1)) := r_fr ac C0 r (d := 0) (by decide)
    simp only [q_fr, o_bs, efr, o7 ac r (show 1 < 63 by decide), e1]
    have loop : ∀ (ws : List aVl) (n k : Nat) (C2 : cS) (bs : List aVl), k + ws.length = vs.length → vs.drop k = ws → wrL T c ex k ws = false → ws.length < n → bs.length = k → xpt 1 C0 C2 → CV C2 1 bs → ∃ C3, fX5_begin_38 z n (ac + 9) (some (ac + vO 0)) (some ty) ex (some (ac + vO 1)) 0 (nI k) (co ac C2 r) = some ((layL T c k ws).1, co ac C3 r) ∧ xpt 1 C0 C3 ∧ (∃ as, CV C3 1 as) ∧ ((layL T c k ws).1 = 0 → CV C3 1 (bs ++ (layL T c k ws).2)) := by
      intro ws
      induction ws with
      | nil =>
        intro n k C2 bs hk hd hwr hn hb x2 a2
        obtain ⟨n, rfl⟩ : ∃ q, n = q + 1 := ⟨n - 1, by omega⟩
        simp at hk
        have et := t_count (z := z) (C := C2) hty
        rw [tys_len] at et
        obtain ⟨ft, oft⟩ := t_ob (C := C2) hty
        rw [fX5_begin_38]
        simp only [o_bs, oft, et]
        rw [if_pos (nI_le (by omega) (by omega))]
        exact ⟨C2, rfl, x2, ⟨bs, a2⟩, fun _ => by rw [layL, List.append_nil]; exact a2⟩
      | cons v ws ih =>
        intro n k C2 bs hk hd hwr hn hb x2 a2
        obtain ⟨n, rfl⟩ : ∃ q, n = q + 1 := ⟨n - 1, by omega⟩
        rw [List.length_cons] at hk hn
        have et := t_count (z := z) (C := C2) hty
        rw [tys_len] at et
        obtain ⟨ft, oft⟩ := t_ob (C := C2) hty
        have ev : vs[k]? = some v := by
          have : (vs.drop k)[0]? = some v := by rw [hd]; rfl
          rw [List.getElem?_drop] at this
          exact this
        have hv2 := hv0.x x2 (show (0 : Nat) ≠ 1 by decide)
        have hvk := hK v (List.mem_of_getElem? ev)
        have ek := v_kind (z := z) (ac := ac) (r := r) (j := 0) (by decide) hv2 ev
        have ea := t_at (z := z) (C := C2) hty (tys_at T (show k < tN T 3 c by omega))
        have hd2 : vs.drop (k + 1) = ws := by rw [← List.drop_drop, hd]; rfl
        rw [wrL, Bool.or_eq_false_iff] at hwr
        have ht := hA k (by omega)
        obtain ⟨ca, vt, ae⟩ := ly_A hvk ht hwr.1
        have key : fX5_begin_38 z (n + 1) (ac + 9) (some (ac + vO 0)) (some ty) ex (some (ac + vO 1)) 0 (nI k) (co ac C2 r) = (fX5_addAdapted z (ac + 9) (some (ac + vO 1)) (some (ac + vO 0)) (nI k) (frA2 ex v.1 (tI T 4 (6 * c + k))) (tI T 4 (6 * c + k)) (co ac C2 r)).bind fun q104 => fX5_begin_38 z n (ac + 9) (some (ac + vO 0)) (some ty) ex (some (ac + vO 1)) q104.1 (nI (k + 1)) q104.2 := by
          rw [fX5_begin_38]
          unfold fX5_begin_80
          simp only [o_bs, oft, et]
          rw [if_neg (nI_ge (by omega) (by omega))]
          simp only [if_true]
          unfold frA2
          by_cases hx : ex = 0
          · rw [if_pos hx, if_pos hx]
            simp only [o_bs, o7 ac r (show 0 < 63 by decide), ek, oft, ea, c_tov (vk_k hvk), o4, nI_1]
          · rw [if_neg hx, if_neg hx]
            simp only [o_bs, oft, ea, o4, nI_1]
        rw [key, layL]
        by_cases h0 : (adS (lyF v.1 (tI T 4 (6 * c + k))) (tI T 4 (6 * c + k)) v.1 v.2).1 = 0
        · obtain ⟨C3, e3, a3, x3⟩ := c_addA0 (z := z) (ac := ac) (r := r) (i := 0) (j := 1) (by decide) (by decide) hv2 a2 (by omega) ev ca (by unfold isT; rcases ht with q | q | q | q <;> simp [q]) vt (by rw [ae]; exact h0)
          rw [ae] at a3
          rw [e3, o_bs, if_pos h0]
          obtain ⟨C4, e4, x4, a4, a5⟩ := ih n (k + 1) C3 _ (by omega) hd2 hwr.2 (by omega) (by rw [List.length_append, hb]; rfl) (x2.tr x3) a3
          refine ⟨C4, e4, x4, a4, fun q => ?_⟩
          have := a5 q
          rw [List.append_assoc] at this
          exact this
        · have e3 := c_addA1 (z := z) (ac := ac) (r := r) (i := 0) (j := 1) (by decide) hv2 ev ca vt (by rw [ae]; exact h0)
          rw [e3, o_bs, ae, if_neg h0]
          obtain ⟨n, rfl⟩ : ∃ q, n = q + 1 := ⟨n - 1, by omega⟩
          rw [fX5_begin_38]
          simp only [o_bs, oft, et, if_neg h0, ite_self]
          exact ⟨C2, rfl, x2, ⟨bs, a2⟩, fun q => absurd q h0⟩
    obtain ⟨N, hN, eN⟩ : ∃ N, vs.length < N ∧ 4000 = N := ⟨4000, by omega, rfl⟩
    rw [eN]
    obtain ⟨C3, e3, x3, ⟨as3, a3⟩, b3⟩ := loop vs N 0 C1 [] (by omega) (List.drop_zero ..) hw2.2 hN rfl x1 a1
    rw [nI_0] at e3
    rw [e3]
    exact ⟨_, C3, rfl, hr0.x x3, hV0.x x3 a3, (hx0 0).tr (x3.k (by decide)), fun q => absurd q hw, fun _ => ⟨rfl, fun q => by have := b3 q; rw [List.nil_append] at this; exact this⟩⟩
end
