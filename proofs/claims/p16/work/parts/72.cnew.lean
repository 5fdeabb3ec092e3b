/-! THE CLASS: new objects. My own rows. -/
/-- the rest has grown -/
def GX (ac n m : Nat) (r r2 : aH) : Prop := FRS r2 ∧ (∀ x e, r.2.2 x = some e → r2.2.2 x = some e) ∧ r.1 ≤ r2.1 ∧ r2.1 ≤ r.1 + n ∧ r2.2.1 ≤ r.2.1 + m ∧ ∀ x, x < ac → r2.2.2 x = r.2.2 x
theorem GX.rf {ac : Nat} {r : aH} (h : FRS r) : GX ac 0 0 r r := ⟨h, fun _ _ e => e, Nat.le_refl _, Nat.le_refl _, Nat.le_refl _, fun _ _ => rfl⟩
theorem GX.tr {ac n m n2 m2 : Nat} {r r2 r3 : aH} (h : GX ac n m r r2) (h2 : GX ac n2 m2 r2 r3) : GX ac (n + n2) (m + m2) r r3 := ⟨h2.1, fun x e q => h2.2.1 x e (h.2.1 x e q), by have := h.2.2.1; have := h2.2.2.1; omega, by have := h.2.2.2.1; have := h2.2.2.2.1; omega, by have := h.2.2.2.2.1; have := h2.2.2.2.2.1; omega, fun x hx => (h2.2.2.2.2.2 x hx).trans (h.2.2.2.2.2 x hx)⟩
theorem GX.up {ac n m n2 m2 : Nat} {r r2 : aH} (h : GX ac n m r r2) (hn : n ≤ n2) (hm : m ≤ m2) : GX ac n2 m2 r r2 := ⟨h.1, h.2.1, h.2.2.1, by have := h.2.2.2.1; omega, by have := h.2.2.2.2.1; omega, h.2.2.2.2.2⟩
theorem GX.new {ac : Nat} {r : aH} (h : FRS r) (hr : ac ≤ r.1) (k : Nat) (e : aE) : GX ac 1 k r (hnew r k e) := ⟨h.new k e, fun x e2 q => new_old h k e q, Nat.le_succ _, Nat.le_refl _, Nat.le_refl _, fun x hx => by
  show (if x = r.1 then _ else r.2.2 x) = _
  rw [if_neg (by omega)]⟩
theorem GX.ex {ac n m : Nat} {r r2 : aH} (h : GX ac n m r r2) : ex5 ac r r2 := fun x e _ _ q => h.2.1 x e q
/-- a cell that was not there before may be written anew -/
theorem GX.hup {ac n m x : Nat} {r r2 : aH} {e e0 : aE} (h : GX ac n m r r2) (hr : r.2.2 x = none) (h0 : r2.2.2 x = some e0) (hx : ac ≤ x) : GX ac n m r (hup r2 x e) := by
  refine ⟨fun y hy => ?_, fun y e2 q => ?_, h.2.2.1, h.2.2.2.1, h.2.2.2.2.1, fun y hy => ?_⟩
  · have := h.1.lt h0
    have hy : r2.1 ≤ y := hy
    show (if y = x then _ else r2.2.2 y) = none
    rw [if_neg (by omega)]
    exact h.1 y hy
  · show (if y = x then _ else r2.2.2 y) = _
    rw [if_neg (fun z => by rw [z, hr] at q; cases q)]
    exact h.2.1 y e2 q
  · show (if y = x then _ else r2.2.2 y) = _
    rw [if_neg (by omega)]
    exact h.2.2.2.2.2 y hy
/-- a rest that holds the reference still holds it -/
theorem GX.om {ac n m : Nat} {S : mS} {r R2 : aH} (h : GX ac n m (mo (ac + 197) S r) R2) (hr : ac + 228 ≤ r.1) (hF : FRS r) : ∃ r2, R2 = mo (ac + 197) S r2 ∧ GX ac n m r r2 := by
  obtain ⟨h1, h2, h3, h4, h5, h6⟩ := h
  have hlow : r.1 ≤ R2.1 := h3
  refine ⟨(R2.1, R2.2.1, fun x => if ac + 197 ≤ x ∧ x ≤ ac + 197 + 30 then r.2.2 x else R2.2.2 x), ?_, fun x hx => ?_, fun x e q => ?_, h3, h4, h5, fun x hx => ?_⟩
  · obtain ⟨a, b, f⟩ := R2
    unfold mo
    simp only
    congr 2
    funext x
    by_cases hx : x = ac + 197
    · rw [if_pos hx]
      exact h2 x _ (by show (if x = ac + 197 then _ else _) = _; rw [if_pos hx])
    · rw [if_neg hx]
      by_cases hx2 : ac + 197 < x ∧ x ≤ ac + 197 + 30
      · rw [if_pos hx2]
        exact h2 x _ (by show (if x = ac + 197 then _ else if ac + 197 < x ∧ x ≤ ac + 197 + 30 then _ else _) = _; rw [if_neg hx, if_pos hx2])
      · rw [if_neg hx2, if_neg (by omega)]
  · have hx : R2.1 ≤ x := hx
    show (if ac + 197 ≤ x ∧ x ≤ ac + 197 + 30 then r.2.2 x else R2.2.2 x) = none
    rw [if_neg (by omega)]
    exact h1 x hx
  · show (if ac + 197 ≤ x ∧ x ≤ ac + 197 + 30 then r.2.2 x else R2.2.2 x) = _
    by_cases hx : ac + 197 ≤ x ∧ x ≤ ac + 197 + 30
    · rw [if_pos hx]; exact q
    · rw [if_neg hx]
      exact h2 x e (by rw [mo_out _ _ _ hx]; exact q)
  · show (if ac + 197 ≤ x ∧ x ≤ ac + 197 + 30 then r.2.2 x else R2.2.2 x) = _
    rw [if_neg (by omega), h6 x hx, mo_out _ _ _ (by omega)]
theorem frs_mo {ac : Nat} {S : mS} {r : aH} (h : FRS r) (hr : ac + 228 ≤ r.1) : FRS (mo (ac + 197) S r) := fun x hx => by
  have hx : r.1 ≤ x := hx
  rw [mo_out _ _ _ (by omega)]
  exact h x hx
theorem aTy.hup {ac a x c : Nat} {r : aH} {ts : List Int32} {g : Int32} {e : aE} {fs : List aV} (h : aTy ac r a ts g) (hx : r.2.2 x = some (.inr (c, fs))) (hc : c ≠ 6) : aTy ac (hup r x e) a ts g := by
  obtain ⟨h1, h6, k, tg, f, h2, h3, h4, h5⟩ := h
  refine ⟨h1, h6, k, tg, f, ?_, h3, ?_, h5⟩
  · show (if a = x then _ else r.2.2 a) = _
    rw [if_neg (fun q => by
      rw [q, hx] at h2
      injection h2 with h2
      injection h2 with h2
      injection h2 with h2
      exact hc h2)]
    exact h2
  · show (if k = x then _ else r.2.2 k) = _
    rw [if_neg (fun q => by
      rw [q, hx] at h4
      injection h4 with h4
      cases h4)]
    exact h4
section
variable {z : Nat → Nat} {ac : Nat} {r : aH} {C : cS}
theorem c_nwI {n : Nat} (hr : ac + 197 ≤ r.1) (hn : n ≤ 10) : nwI (co ac C r) (nI n) = some (co ac C (hnew r n (.inl (0, n, .inl (fun _ => 0))))) := by
  rw [nwI, nI_clamp (by omega), if_pos ⟨nI_pos (by omega), by omega⟩, co_hnew hr]
theorem c_awN {n i : Nat} {f : Nat → Int32} (v : Int32) (hr : ac + 197 ≤ r.1) (hn : n ≤ 10) (hi : i < n) : awI (co ac C (hnew r n (.inl (0, n, .inl f)))) r.1 (nI i) v = some (co ac C (hnew r n (.inl (0, n, .inl (va_up f i v))))) := by
  unfold awI
  rw [co_out ac C _ (by omega), new_at]
  simp only
  rw [nI_clamp (by omega), if_pos ⟨by decide, nI_pos (by omega), hi⟩, co_hupo (by omega), hup_new]
/-- types made of an array that is there -/
theorem c_tnew {a k tg : Nat} {ts : List Int32} {g : Int32} {f : Nat → Int32} (ha : out ac a) (ha2 : ac + 197 ≤ a) (h0 : r.2.2 a = some (.inr (6, dz6))) (hk : out ac k) (h1 : r.2.2 k = some (.inl (tg, ts.length, .inl f))) (h6 : ts.length ≤ 6) (hf : ∀ (i : Nat) (t : Int32), ts[i]? = some t → f i = t) : fX8_init z a (some k) g (co ac C r) = some (co ac C (hup r a (.inr (6, [rfV k, .inl g])))) ∧ aTy ac (hup r a (.inr (6, [rfV k, .inl g]))) a ts g := by
  refine ⟨?_, ha, h6, k, tg, f, ?_, hk, ?_, hf⟩
  · unfold fX8_init wrF
    rw [p_at ha h0]
    simp only
    rw [if_pos (by decide), o_bs, co_hupo (by omega), p_at ha (show (hup r a _).2.2 a = some _ from by show (if a = a then _ else _) = _; rw [if_pos rfl])]
    simp only
    rw [if_pos (by decide), o_bs, co_hupo (by omega)]
    congr 2
    unfold hup
    simp only
    congr 2
    funext x
    by_cases hx : x = a
    · rw [if_pos hx, if_pos hx]; rfl
    · rw [if_neg hx, if_neg hx, if_neg hx]
  · show (if a = a then _ else _) = _
    rw [if_pos rfl]
  · show (if k = a then _ else r.2.2 k) = _
    rw [if_neg (fun q => by rw [q, h0] at h1; injection h1 with h1; cases h1)]
    exact h1
/-- new types with a new array -/
theorem c_tarr {n : Nat} {ts : List Int32} {g : Int32} {f : Nat → Int32} (hn : ts.length = n) (hF : FRS r) (hr : ac + 228 ≤ r.1) (h6 : n ≤ 6) (hf : ∀ (i : Nat) (t : Int32), ts[i]? = some t → f i = t) : ∃ r2, fX8_init z r.1 (some (hnew r 2 (.inr (6, dz6))).1) g (co ac C (hnew (hnew r 2 (.inr (6, dz6))) n (.inl (0, n, .inl f)))) = some (co ac C r2) ∧ GX ac 2 8 r r2 ∧ aTy ac r2 r.1 ts g   := by
  subst hn
  have hF1 := hF.new 2 (.inr (6, dz6))
  obtain ⟨e, t⟩ := c_tnew (ac := ac) (z := z) (C := C) (r := hnew (hnew r 2 (.inr (6, dz6))) ts.length (.inl (0, ts.length, .inl f))) (a := r.1) (k := r.1 + 1) (g := g) (by unfold out; omega) (by omega) (new_old hF1 _ _ (new_at r 2 _)) (by unfold out; omega) (new_at (hnew r 2 (.inr (6, dz6))) _ _) h6 hf
  refine ⟨_, e, ?_, t⟩
  have g1 := (GX.new hF (show ac ≤ r.1 by omega) 2 (.inr (6, dz6))).tr (GX.new hF1 (show ac ≤ r.1 + 1 by omega) ts.length (.inl (0, ts.length, .inl f)))
  exact (g1.hup (hF r.1 (Nat.le_refl _)) (new_old hF1 _ _ (new_at r 2 _)) (by omega)).up (by decide) (by omega)
/-- new types with the array of none -/
theorem c_tno {g : Int32} {f : Nat → Int32} {tg : Nat} (hF : FRS r) (hr : ac + 228 ≤ r.1) (hz : out ac (z 0)) (h0 : r.2.2 (z 0) = some (.inl (tg, 0, .inl f))) : ∃ r2, fX8_init z r.1 (some (z 0)) g (co ac C (hnew r 2 (.inr (6, dz6)))) = some (co ac C r2) ∧ GX ac 2 8 r r2 ∧ aTy ac r2 r.1 [] g := by
  obtain ⟨e, t⟩ := c_tnew (ac := ac) (z := z) (C := C) (r := hnew r 2 (.inr (6, dz6))) (a := r.1) (k := z 0) (ts := []) (g := g) (by unfold out; omega) (by omega) (new_at r 2 _) hz (new_old hF _ _ h0) (by decide) (fun i t h => by simp at h)
  refine ⟨_, e, ?_, t⟩
  exact ((GX.new hF (show ac ≤ r.1 by omega) 2 (.inr (6, dz6))).hup (hF r.1 (Nat.le_refl _)) (new_at r 2 _) (by omega)).up (by decide) (by decide)
/-- the shape of a plain handle -/
def pTs (F a : Int32) : List Int32 := if F = 0 then [] else if F = 1 then [a] else if F = 7 then [1, 1] else if F = 8 then [3, 0] else if F = 9 then [3, 0, 0] else if F = 10 then [3] else if F = 11 then [0] else if F = 12 then [] else if F = 13 then [] else [0, 0]
def pGv (F a : Int32) : Int32 := if F = 0 then a else if F = 1 then a else if F = 7 then 1 else if F = 8 then 0 else if F = 9 then 4 else if F = 10 then 0 else if F = 11 then 3 else if F = 12 then a else if F = 13 then 0 else 0
theorem a1 {v : Int32} (hr : ac + 197 ≤ r.1) : ((nwI (co ac C r) 1).bind fun h => awI h r.1 0 v) = some (co ac C (hnew r 1 (.inl (0, 1, .inl (va_up (fun _ => 0) 0 v))))) := by
  rw [show nwI (co ac C r) 1 = _ from c_nwI (n := 1) hr (by decide), o_bs]
  exact c_awN (n := 1) (i := 0) v hr (by decide) (by decide)
theorem a2 {v w : Int32} (hr : ac + 197 ≤ r.1) : ((nwI (co ac C r) 2).bind fun h => (awI h r.1 0 v).bind fun h2 => awI h2 r.1 1 w) = some (co ac C (hnew r 2 (.inl (0, 2, .inl (va_up (va_up (fun _ => 0) 0 v) 1 w))))) := by
  rw [show nwI (co ac C r) 2 = _ from c_nwI (n := 2) hr (by decide), o_bs, show ∀ f, awI (co ac C (hnew r 2 (.inl (0, 2, .inl f)))) r.1 0 v = _ from fun f => c_awN (n := 2) (i := 0) v hr (by decide) (by decide), o_bs]
  exact c_awN (n := 2) (i := 1) w hr (by decide) (by decide)
theorem a3 {v w u : Int32} (hr : ac + 197 ≤ r.1) : ((nwI (co ac C r) 3).bind fun h => (awI h r.1 0 v).bind fun h2 => (awI h2 r.1 1 w).bind fun h3 => awI h3 r.1 2 u) = some (co ac C (hnew r 3 (.inl (0, 3, .inl (va_up (va_up (va_up (fun _ => 0) 0 v) 1 w) 2 u))))) := by
  rw [show nwI (co ac C r) 3 = _ from c_nwI (n := 3) hr (by decide), o_bs, show ∀ f, awI (co ac C (hnew r 3 (.inl (0, 3, .inl f)))) r.1 0 v = _ from fun f => c_awN (n := 3) (i := 0) v hr (by decide) (by decide), o_bs, show ∀ f, awI (co ac C (hnew r 3 (.inl (0, 3, .inl f)))) r.1 1 w = _ from fun f => c_awN (n := 3) (i := 1) w hr (by decide) (by decide), o_bs]
  exact c_awN (n := 3) (i := 2) u hr (by decide) (by decide)
end
