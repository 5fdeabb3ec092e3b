/-! THE CLASS: types cut and put together. My own rows. -/
/-- an array of types -/
def aAr (ac : Nat) (r : aH) (k : Nat) (ts : List Int32) : Prop := out ac k ∧ ∃ (tg : Nat) (f : Nat → Int32), r.2.2 k = some (.inl (tg, ts.length, .inl f)) ∧ ∀ (i : Nat) (t : Int32), ts[i]? = some t → f i = t
theorem aTy.ar {ac a : Nat} {r : aH} {ts : List Int32} {g : Int32} (h : aTy ac r a ts g) : ∃ k, aAr ac r k ts ∧ ∀ C, rdR (co ac C r) a [6] 0 = some (some k) := by
  obtain ⟨h1, h6, k, tg, f, h2, h3, h4, h5⟩ := h
  exact ⟨k, ⟨h3, tg, f, h4, h5⟩, fun C => p_rdR h2 h1 (by decide) rfl⟩
theorem aAr.gx {ac k n m : Nat} {r r2 : aH} {ts : List Int32} (h : aAr ac r k ts) (g : GX ac n m r r2) : aAr ac r2 k ts := by
  obtain ⟨h1, tg, f, h2, h3⟩ := h
  exact ⟨h1, tg, f, g.2.1 _ _ h2, h3⟩
theorem aTy.gx {ac a n m : Nat} {r r2 : aH} {ts : List Int32} {g : Int32} (h : aTy ac r a ts g) (G : GX ac n m r r2) : aTy ac r2 a ts g := h.ex G.ex
section
variable {z : Nat → Nat} {ac : Nat} {r : aH} {C : cS}
/-- copying into the newest array -/
theorem c_cpN {k len sp tp n : Nat} {us : List Int32} {f0 : Nat → Int32} (hF : FRS r) (hr : ac + 228 ≤ r.1) (h : aAr ac r k us) (hl : len ≤ 10) (h1 : sp + n ≤ us.length) (h2 : tp + n ≤ len) (hu : us.length ≤ 10) : ∃ f, cpI (co ac C (hnew r len (.inl (0, len, .inl f0)))) k (nI sp) r.1 (nI tp) (nI n) = some (co ac C (hnew r len (.inl (0, len, .inl f)))) ∧ (∀ i, i < n → ∀ t, us[sp + i]? = some t → f (tp + i) = t) ∧ ∀ i, ¬ (tp ≤ i ∧ i < tp + n) → f i = f0 i := by
  obtain ⟨ho, tg, fu, hk, hf⟩ := h
  refine ⟨va_cpy fu f0 sp tp n, ?_, fun i hi t ht => ?_, fun i hi => ?_⟩
  · unfold cpI
    rw [p_at ho (new_old hF _ _ hk), co_out ac C _ (by omega), new_at]
    simp only
    rw [nI_clamp (by omega), nI_clamp (by omega), nI_clamp (by omega), if_pos ⟨by decide, nI_pos (by omega), nI_pos (by omega), nI_pos (by omega), h1, h2⟩, co_hupo (by omega), hup_new]
  · unfold va_cpy
    rw [if_pos ⟨by omega, by omega⟩]
    have := hf (sp + i) t ht
    first | exact this | (rw [show sp + (tp + i - tp) = sp + i by omega]; exact this) | (rw [show tp + i - tp + sp = sp + i by omega]; exact this)
  · unfold va_cpy
    rw [if_neg hi]
theorem c_spl {a0 k p c : Nat} {ts us : List Int32} {g : Int32} (hF : FRS r) (hr : ac + 228 ≤ r.1) (ht : aTy ac r a0 ts g) (hu : aAr ac r k us) (hu6 : us.length ≤ 6) (hpc : p + c ≤ ts.length) : (ts.length - c + us.length ≤ 6 → ∃ r2 ty, fX8_spliced z a0 (nI p) (nI c) (some k) (co ac C r) = some (some ty, co ac C r2) ∧ GX ac 2 8 r r2 ∧ aTy ac r2 ty (ts.take p ++ us ++ ts.drop (p + c)) g) ∧ (¬ ts.length - c + us.length ≤ 6 → fX8_spliced z a0 (nI p) (nI c) (some k) (co ac C r) = some (none, co ac C r)) := by
  have h6 := ht.2.1
  have et := t_count (z := z) (C := C) ht
  obtain ⟨fs, ofs⟩ := t_ob (C := C) ht
  have en : arN (co ac C r) k = some (nI us.length) := by
    obtain ⟨ho, tg, fu, hk, -⟩ := hu
    exact p_an hk ho
  refine ⟨fun hl => ?_, fun hl => ?_⟩
  · obtain ⟨len, hlen⟩ : ∃ len, len = ts.length - c + us.length := ⟨_, rfl⟩
    obtain ⟨kt, hkt, rkt⟩ := ht.ar
    have G1 := GX.new hF (show ac ≤ r.1 by omega) len (.inl (0, len, .inl (fun _ => (0 : Int32))))
    obtain ⟨f1, c1, c2, c3⟩ := c_cpN (C := C) (len := len) (sp := 0) (tp := 0) (n := p) (f0 := fun _ => 0) hF hr hkt (by omega) (by omega) (by omega) (by omega)
    obtain ⟨f2, d1, d2, d3⟩ := c_cpN (C := C) (len := len) (sp := 0) (tp := p) (n := us.length) (f0 := f1) hF hr hu (by omega) (by omega) (by omega) (by omega)
    obtain ⟨f3, e1, e2, e3⟩ := c_cpN (C := C) (len := len) (sp := p + c) (tp := p + us.length) (n := ts.length - p - c) (f0 := f2) hF hr hkt (by omega) (by omega) (by omega) (by omega)
    rw [nI_0] at c1 d1
    have enN : ∀ f, arN (co ac C (hnew r len (.inl (0, len, .inl f)))) k = some (nI us.length) := fun f => by
      obtain ⟨ho, tg, fu, hk, -⟩ := hu
      exact p_an (new_old hF _ _ hk) ho
    have htN : ∀ f, aTy ac (hnew r len (.inl (0, len, .inl f))) a0 ts g := fun f => ht.gx (GX.new hF (show ac ≤ r.1 by omega) len (.inl (0, len, .inl f)))
    have rktN : ∀ f, rdR (co ac C (hnew r len (.inl (0, len, .inl f)))) a0 [6] 0 = some (some kt) := fun f => by
      obtain ⟨h1, h6, k', tg, f', h2, h3, h4, h5⟩ := ht
      have q := rkt C
      rw [p_rdR h2 h1 (by decide) rfl] at q
      rw [p_rdR (new_old hF _ _ h2) h1 (by decide) rfl]
      exact q
    have etN : ∀ f, fX8_count z a0 (co ac C (hnew r len (.inl (0, len, .inl f)))) = some (nI ts.length, co ac C (hnew r len (.inl (0, len, .inl f)))) := fun f => t_count (htN f)
    have oN : ∀ f, ∃ fs, obO (co ac C (hnew r len (.inl (0, len, .inl f)))) a0 6 = some fs := fun f => t_ob (htN f)
    obtain ⟨fs2, ofs2⟩ := oN f2
    -- the array that is made
    have hnewArr : (ts.take p ++ us ++ ts.drop (p + c)).length = len := by rw [List.length_append, List.length_append, List.length_take, List.length_drop]; omega
    have harr : ∀ (i : Nat) (t : Int32), (ts.take p ++ us ++ ts.drop (p + c))[i]? = some t → f3 i = t := by
      intro i t hi
      by_cases h1 : i < p
      · rw [List.append_assoc, List.getElem?_append_left (by rw [List.length_take]; omega), List.getElem?_take, if_pos h1] at hi
        rw [e3 i (by omega), d3 i (by omega)]
        have := c2 i h1 t (by rw [Nat.zero_add]; exact hi)
        rw [Nat.zero_add] at this
        exact this
      · by_cases h2 : i < p + us.length
        · rw [List.append_assoc, List.getElem?_append_right (by rw [List.length_take]; omega), List.length_take, Nat.min_eq_left (by omega), List.getElem?_append_left (by omega)] at hi
          rw [e3 i (by omega)]
          have := d2 (i - p) (by omega) t (by rw [Nat.zero_add]; exact hi)
          rw [show p + (i - p) = i by omega] at this
          exact this
        · have hil := (List.getElem?_eq_some_iff.mp hi).1
          rw [List.getElem?_append_right (by rw [List.length_append, List.length_take]; omega), List.length_append, List.length_take, Nat.min_eq_left (by omega), List.getElem?_drop] at hi
          have := e2 (i - (p + us.length)) (by omega) t hi
          rw [show p + us.length + (i - (p + us.length)) = i by omega] at this
          exact this
    have hF3 : FRS (hnew r len (.inl (0, len, .inl f3))) := hF.new _ _
    obtain ⟨i1, i2⟩ := c_tnew (ac := ac) (z := z) (C := C) (r := hnew (hnew r len (.inl (0, len, .inl f3))) 2 (.inr (6, dz6))) (a := r.1 + 1) (k := r.1) (ts := ts.take p ++ us ++ ts.drop (p + c)) (g := g) (by unfold out; omega) (by omega) (new_at (hnew r len (.inl (0, len, .inl f3))) 2 _) (by unfold out; omega) (by rw [hnewArr]; exact new_old hF3 _ _ (new_at r _ _)) (by omega) harr
    refine ⟨_, r.1 + 1, ?_, ?_, i2⟩
    · unfold fX8_spliced
      simp only [ofs, et, o_bs, en]
      rw [if_neg (nI_pos (by omega)), if_neg (nI_pos (by omega)), nI_add, if_neg (nI_nlt (by omega) (by omega)), nI_subN (by omega), nI_add, ← hlen, if_pos (show nI len ≤ 6 from nI_le (b := 6) (by omega) (by decide)), c_nwI (by omega) (by omega), o_bs, rktN, o_bs, o_bs]
      show ((cpI (co ac C (hnew r len (.inl (0, len, .inl (fun _ => 0))))) kt 0 r.1 0 (nI p)).bind _) = _
      rw [c1, o_bs, enN, o_bs]
      show ((cpI (co ac C (hnew r len (.inl (0, len, .inl f1)))) k 0 r.1 (nI p) (nI us.length)).bind _) = _
      rw [d1, o_bs, rktN, o_bs, enN, o_bs, ofs2, o_bs, etN, o_bs, o_bs]
      show ((cpI (co ac C (hnew r len (.inl (0, len, .inl f2)))) kt (nI (p + c)) r.1 (nI p + nI us.length) (nI ts.length - nI p - nI c)).bind _) = _
      rw [nI_add, nI_subN (by omega), nI_subN (by omega), e1, o_bs, co_hnew (show ac + 197 ≤ r.1 + 1 by omega)]
      have hg : rdI (co ac C (hnew (hnew r len (.inl (0, len, .inl f3))) 2 (.inr (6, dz6)))) a0 [6] 1 = some g := t_gives ((htN f3).gx (GX.new hF3 (show ac ≤ r.1 + 1 by omega) 2 (.inr (6, dz6))))
      rw [hg, o_bs]
      show ((fX8_init z (r.1 + 1) (some r.1) g (co ac C (hnew (hnew r len (.inl (0, len, .inl f3))) 2 (.inr (6, dz6))))).bind fun q120 => some (some (r.1 + 1), q120)) = _
      rw [i1, o_bs]
    · have g1 := (GX.new hF (show ac ≤ r.1 by omega) len (.inl (0, len, .inl f3))).tr (GX.new hF3 (show ac ≤ r.1 + 1 by omega) 2 (.inr (6, dz6)))
      exact (g1.hup (hF (r.1 + 1) (Nat.le_succ _)) (new_at (hnew r len (.inl (0, len, .inl f3))) 2 _) (by omega)).up (by decide) (by omega)
  · unfold fX8_spliced
    simp only [ofs, et, o_bs, en]
    rw [if_neg (nI_pos (by omega)), if_neg (nI_pos (by omega)), nI_add, if_neg (nI_nlt (by omega) (by omega)), nI_subN (by omega), nI_add, if_neg (show ¬ nI (ts.length - c + us.length) ≤ 6 from nI_ge (a := 6) (by omega) (by omega))]
end
