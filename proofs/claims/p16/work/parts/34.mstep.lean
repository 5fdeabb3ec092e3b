/-! THE REFERENCE: calls, over, adapt, in, newRow. My own rows. -/
theorem nI_7 (p : Nat) : 7 * nI p = nI (7 * p) := by rw [show (7 : Int32) = nI 7 from rfl, pk_mul]
theorem nI_20 (p i : Nat) : 20 * nI p + nI i = nI (20 * p + i) := by rw [show (20 : Int32) = nI 20 from rfl, pk_mul, nI_add]
theorem nI_6 (p i : Nat) : 6 * nI p + nI i = nI (6 * p + i) := by rw [show (6 : Int32) = nI 6 from rfl, pk_mul, nI_add]
/-- what calls changes -/
def fCall (k : Nat) : Bool := k == 29 || k == 32 || k == 33 || k == 34 || k == 35 || k == 36 || k == 37 || k == 38
/-- the frames below p are the same -/
def FR (p : Nat) (S S2 : mS) : Prop := (∀ j, j < p → S.2.2.1 35 j = S2.2.2.1 35 j ∧ S.2.2.1 36 j = S2.2.2.1 36 j ∧ S.2.2.1 39 j = S2.2.2.1 39 j ∧ S.2.2.1 40 j = S2.2.2.1 40 j ∧ S.2.2.2 41 j = S2.2.2.2 41 j ∧ S.2.2.2 42 j = S2.2.2.2 42 j ∧ S.2.2.2 43 j = S2.2.2.2 43 j) ∧ ∀ j, j < 7 * p → S.2.2.1 37 j = S2.2.2.1 37 j ∧ S.2.2.2 38 j = S2.2.2.2 38 j
theorem FR.rf {p : Nat} {S : mS} : FR p S S := ⟨fun _ _ => ⟨rfl, rfl, rfl, rfl, rfl, rfl, rfl⟩, fun _ _ => ⟨rfl, rfl⟩⟩
theorem FR.tr {p : Nat} {S S2 S3 : mS} (h : FR p S S2) (h2 : FR p S2 S3) : FR p S S3 := ⟨fun j hj => by
  obtain ⟨a1, a2, a3, a4, a5, a6, a7⟩ := h.1 j hj
  obtain ⟨b1, b2, b3, b4, b5, b6, b7⟩ := h2.1 j hj
  exact ⟨a1.trans b1, a2.trans b2, a3.trans b3, a4.trans b4, a5.trans b5, a6.trans b6, a7.trans b7⟩, fun j hj => ⟨(h.2 j hj).1.trans (h2.2 j hj).1, (h.2 j hj).2.trans (h2.2 j hj).2⟩⟩
theorem FR.mono {p p2 : Nat} {S S2 : mS} (h : FR p S S2) (hp : p2 ≤ p) : FR p2 S S2 := ⟨fun j hj => h.1 j (by omega), fun j hj => h.2 j (by omega)⟩
theorem FR.eq {p : Nat} {S S2 : mS} {f : Nat → Bool} (h : eqB f S S2) (hf : ∀ k, 35 ≤ k → k ≤ 43 → f k = false) : FR p S S2 := ⟨fun j _ => by
  refine ⟨?_, ?_, ?_, ?_, ?_, ?_, ?_⟩
  · rw [(h 35 (hf 35 (by decide) (by decide))).2.2.1]
  · rw [(h 36 (hf 36 (by decide) (by decide))).2.2.1]
  · rw [(h 39 (hf 39 (by decide) (by decide))).2.2.1]
  · rw [(h 40 (hf 40 (by decide) (by decide))).2.2.1]
  · rw [(h 41 (hf 41 (by decide) (by decide))).2.2.2]
  · rw [(h 42 (hf 42 (by decide) (by decide))).2.2.2]
  · rw [(h 43 (hf 43 (by decide) (by decide))).2.2.2], fun j _ => ⟨by rw [(h 37 (hf 37 (by decide) (by decide))).2.2.1], by rw [(h 38 (hf 38 (by decide) (by decide))).2.2.2]⟩⟩
def fFr (k : Nat) : Bool := k == 33 || k == 34 || k == 37 || k == 38
theorem g_calls_53 {p : Nat} (hp : p < 81) (as : List aVl) (h7 : as.length ≤ 7) : ∀ (m n a : Nat) (S : mS), a + m = as.length → m < n → AB S as → S.1 33 = nI p → FV S p (as.take a) →
    ∃ S2, gX11_calls_53 n (nI a) S = some S2 ∧ S2.1 33 = nI (p + 1) ∧ FV S2 p as ∧ eqB fFr S S2 ∧ (∀ j, j < 7 * p → S.2.2.1 37 j = S2.2.2.1 37 j ∧ S.2.2.2 38 j = S2.2.2.2 38 j) := by
  intro m
  induction m with
  | zero =>
    intro n a S ha hn hA hS hF
    obtain ⟨n, rfl⟩ : ∃ q, n = q + 1 := ⟨n - 1, by omega⟩
    rw [gX11_calls_53, hA.1, if_pos (nI_le (by omega) (by omega))]
    refine ⟨_, rfl, ?_, ?_, (eqB.I rfl).tr (eqB.I rfl), fun j _ => ⟨rfl, rfl⟩⟩
    · simp [sI, va_up, hS, nI_1]
    · rw [show as.take a = as from List.take_of_length_le (by omega)] at hF
      exact hF
  | succ m ih =>
    intro n a S ha hn hA hS hF
    obtain ⟨n, rfl⟩ : ∃ q, n = q + 1 := ⟨n - 1, by omega⟩
    have hal : a < as.length := by omega
    have hv := List.getElem?_eq_getElem hal
    obtain ⟨f1, f2⟩ := hA.2 a _ hv
    rw [gX11_calls_53, hA.1, if_neg (nI_ge (by omega) (by omega)), mrA_n S 44 _ (by rw [ml_44]; omega) (by omega), o_bs, hS, nI7, mwA_n S 37 _ _ (by rw [ml_37]; omega) (by omega), o_bs]
    rw [mrB_n _ 45 _ (by rw [ml_45]; omega) (by omega), o_bs, show (sA S 37 (7 * p + a) (S.2.2.1 44 a)).1 33 = nI p from hS, nI7, mwB_n _ 38 _ _ (by rw [ml_38]; omega) (by omega), o_bs, nI_1]
    have q1 : eqB fFr S (sB (sA S 37 (7 * p + a) (S.2.2.1 44 a)) 38 (7 * p + a) ((sA S 37 (7 * p + a) (S.2.2.1 44 a)).2.2.2 45 a)) := (eqB.A rfl).tr (eqB.B rfl)
    generalize hS3 : sB (sA S 37 (7 * p + a) (S.2.2.1 44 a)) 38 (7 * p + a) ((sA S 37 (7 * p + a) (S.2.2.1 44 a)).2.2.2 45 a) = S3 at q1 ⊢
    have k37 : ∀ j, S3.2.2.1 37 j = if j = 7 * p + a then as[a].1 else S.2.2.1 37 j := by
      intro j
      rw [← hS3, ← f1]
      simp only [sB, sA, va_up, if_true]
    have k38 : ∀ j, S3.2.2.2 38 j = if j = 7 * p + a then as[a].2 else S.2.2.2 38 j := by
      intro j
      rw [← hS3, ← f2]
      simp only [sB, sA, va_up, if_true]
    obtain ⟨S4, e4, g1, g2, g3, g4⟩ := ih n (a + 1) S3 (by omega) (by omega) ⟨by rw [← (q1 46 rfl).1]; exact hA.1, fun i v hi => by rw [← (q1 44 rfl).2.2.1, ← (q1 45 rfl).2.2.2]; exact hA.2 i v hi⟩ (by rw [← hS3]; exact hS) (fun i v hi => by
      rw [k37, k38]
      have hia : i < a + 1 := by
        have := (List.getElem?_eq_some_iff.mp hi).1
        simp at this
        omega
      by_cases hie : i = a
      · subst hie
        rw [if_pos rfl, if_pos rfl]
        rw [List.getElem?_take, if_pos (by omega), hv] at hi
        cases hi
        exact ⟨rfl, rfl⟩
      · rw [if_neg (by omega), if_neg (by omega)]
        refine hF i v ?_
        rw [List.getElem?_take, if_pos (by omega)]
        rw [List.getElem?_take, if_pos (by omega)] at hi
        exact hi)
    refine ⟨S4, e4, g1, g2, q1.tr g3, fun j hj => ?_⟩
    obtain ⟨c1, c2⟩ := g4 j hj
    rw [k37, if_neg (by omega)] at c1
    rw [k38, if_neg (by omega)] at c2
    exact ⟨c1, c2⟩
/-- a call that is made: the frame p -/
theorem g_calls {S : mS} {p c k : Nat} {as : List aVl} (hp : p < 81) (h7 : as.length ≤ 7) (hA : AB S as) (hS : S.1 33 = nI p) (hk : S.1 32 = nI k) (hk80 : k < 80) :
    ∃ S2, gX11_calls (nI c) S = some S2 ∧ S2.1 33 = nI (p + 1) ∧ S2.1 32 = nI (k + 1) ∧ S2.2.2.1 35 p = nI c ∧ S2.2.2.1 36 p = 0 ∧ FV S2 p as ∧ eqB fCall S S2 ∧ S2.1 29 = S.1 29 ∧ FR p S S2 := by
  unfold gX11_calls
  rw [hk, if_neg (fun q => by
    have := (nI_eq (a := k) (b := 80) (by omega) (by omega)).mp q
    omega)]
  have e1 : (sI S 32 (nI k + 1)).1 33 = nI p := hS
  rw [e1, mwA_n _ 35 _ _ (by rw [ml_35]; omega) (by omega), o_bs]
  have e2 : (sA (sI S 32 (nI k + 1)) 35 p (nI c)).1 33 = nI p := hS
  rw [e2, mwA_n _ 36 _ _ (by rw [ml_36]; omega) (by omega), o_bs]
  have q0 : eqB fCall S (sA (sA (sI S 32 (nI k + 1)) 35 p (nI c)) 36 p 0) := (eqB.I rfl).tr ((eqB.A rfl).tr (eqB.A rfl))
  generalize hS3 : sA (sA (sI S 32 (nI k + 1)) 35 p (nI c)) 36 p 0 = S3 at q0
  have a33 : S3.1 33 = nI p := by rw [← hS3]; exact hS
  have a32 : S3.1 32 = nI (k + 1) := by rw [← hS3, ← nI_1]; simp [sA, sI, va_up]
  have a29 : S3.1 29 = S.1 29 := by rw [← hS3]; simp [sA, sI, va_up]
  have a35 : ∀ j, S3.2.2.1 35 j = if j = p then nI c else S.2.2.1 35 j := by
    intro j; rw [← hS3]; simp [sA, sI, va_up]
  have a36 : ∀ j, S3.2.2.1 36 j = if j = p then 0 else S.2.2.1 36 j := by
    intro j; rw [← hS3]; simp [sA, sI, va_up]
  have a37 : S3.2.2.1 37 = S.2.2.1 37 := by rw [← hS3]; simp [sA, sI, va_up]
  have ao : ∀ k, k ≠ 35 → k ≠ 36 → S3.2.2.1 k = S.2.2.1 k := by
    intro k h1 h2; rw [← hS3]; simp [sA, sI, va_up, h1, h2]
  have ab : S3.2.2.2 = S.2.2.2 := by rw [← hS3]; rfl
  obtain ⟨S4, e4, g1, g2, g3, g4⟩ := g_calls_53 hp as h7 as.length 4000 0 S3 (by omega) (by omega) ⟨by rw [← (q0 46 rfl).1]; exact hA.1, fun i v hi => by rw [← (q0 44 rfl).2.2.1, ← (q0 45 rfl).2.2.2]; exact hA.2 i v hi⟩ a33 (fun i v hi => by simp at hi)
  refine ⟨S4, e4, g1, ?_, ?_, ?_, g2, q0.tr (g3.mono (fun k hk => by simp [fCall] at hk; simp [fFr]; omega)), ?_, fun j hj => ?_, fun j hj => ?_⟩
  · rw [← (g3 32 rfl).1]; exact a32
  · rw [← (g3 35 rfl).2.2.1, a35, if_pos rfl]
  · rw [← (g3 36 rfl).2.2.1, a36, if_pos rfl]
  · rw [← (g3 29 rfl).1]; exact a29
  · refine ⟨?_, ?_, ?_, ?_, ?_, ?_, ?_⟩
    · rw [← (g3 35 rfl).2.2.1, a35, if_neg (by omega)]
    · rw [← (g3 36 rfl).2.2.1, a36, if_neg (by omega)]
    · rw [← (g3 39 rfl).2.2.1, ao 39 (by decide) (by decide)]
    · rw [← (g3 40 rfl).2.2.1, ao 40 (by decide) (by decide)]
    · rw [← (g3 41 rfl).2.2.2, ab]
    · rw [← (g3 42 rfl).2.2.2, ab]
    · rw [← (g3 43 rfl).2.2.2, ab]
  · obtain ⟨c1, c2⟩ := g4 j hj
    exact ⟨by rw [← c1, a37], by rw [← c2, ab]⟩
/-- a call that is SPENT -/
theorem g_spent {S : mS} {c : Int32} (hk : S.1 32 = nI 80) : gX11_calls c S = some (sI (sI S 29 9) 34 1) := by
  unfold gX11_calls
  rw [hk, if_pos (show nI 80 = 80 from rfl)]
theorem g_over (S : mS) : gX11_over S = some (sI (sI S 33 (S.1 33 - 1)) 34 1) := rfl
def inI (a b c : Int64) : Int32 := if lg_cmp a b < 0 then 0 else if 0 < lg_cmp a c then 0 else 1
theorem g_in (a b c : Int64) (S : mS) : gX11_in a b c S = some (inI a b c, S) := by
  unfold gX11_in gX11_in_e inI
  split
  · rfl
  · split <;> rfl
def adS (fr to kd : Int32) (v : Int64) : Int32 × aVl := if fr = to then (0, (kd, v)) else if to = 4 then (0, (3, 0)) else if fr = 4 then (0, (if to = 0 then 0 else if to = 1 then 1 else 3, 0)) else if fr = 2 then (if kd = 3 then 3 else if to = 0 then (if kd = 1 then 2 else 0) else 0, (to, v)) else if to = 1 then (0, (1, v)) else (0, (kd, v))
def fCame (k : Nat) : Bool := k == 29 || k == 30 || k == 31
theorem g_comes (kd : Int32) (v : Int64) (S : mS) : ∃ S2, gX11_comes kd v S = some S2 ∧ S2.1 29 = 0 ∧ S2.1 30 = kd ∧ S2.2.1 31 = v ∧ eqB fCame S S2 := ⟨_, rfl, by simp [sJ, sI, va_up], by simp [sJ, sI, va_up], by simp [sJ, sI, va_up], (eqB.I rfl).tr ((eqB.I rfl).tr (eqB.J rfl))⟩
theorem g_adapt (fr to kd : Int32) (v : Int64) (S : mS) : ∃ S2, gX11_adapt fr to kd v S = some S2 ∧ S2.1 29 = (adS fr to kd v).1 ∧ S2.1 30 = (adS fr to kd v).2.1 ∧ S2.2.1 31 = (adS fr to kd v).2.2 ∧ eqB fCame S S2 := by
  unfold gX11_adapt adS
  obtain ⟨S1, e1, a1, a2, a3, q1⟩ := g_comes kd v S
  rw [e1, o_bs]
  by_cases h1 : fr = to
  · rw [if_pos h1, if_pos h1]; exact ⟨S1, rfl, a1, a2, a3, q1⟩
  · rw [if_neg h1, if_neg h1]
    by_cases h2 : to = 4
    · rw [if_pos h2, if_pos h2]
      obtain ⟨S2, e2, b1, b2, b3, q2⟩ := g_comes 3 0 S1
      rw [e2, o_bs]; exact ⟨S2, rfl, b1, b2, b3, q1.tr q2⟩
    · rw [if_neg h2, if_neg h2]
      by_cases h3 : fr = 4
      · rw [if_pos h3, if_pos h3]
        by_cases h4 : to = 0
        · rw [if_pos h4, if_pos h4]
          obtain ⟨S2, e2, b1, b2, b3, q2⟩ := g_comes 0 0 S1
          rw [e2, o_bs]; exact ⟨S2, rfl, b1, b2, b3, q1.tr q2⟩
        · rw [if_neg h4, if_neg h4]
          by_cases h5 : to = 1
          · rw [if_pos h5, if_pos h5]
            obtain ⟨S2, e2, b1, b2, b3, q2⟩ := g_comes 1 0 S1
            rw [e2, o_bs]; exact ⟨S2, rfl, b1, b2, b3, q1.tr q2⟩
          · rw [if_neg h5, if_neg h5]
            obtain ⟨S2, e2, b1, b2, b3, q2⟩ := g_comes 3 0 S1
            rw [e2, o_bs]; exact ⟨S2, rfl, b1, b2, b3, q1.tr q2⟩
      · rw [if_neg h3, if_neg h3]
        by_cases h4 : fr = 2
        · rw [if_pos h4, if_pos h4]
          have key : ∀ w : Int32, ∃ S2, some (sI (sI S1 29 w) 30 to) = some S2 ∧ S2.1 29 = w ∧ S2.1 30 = to ∧ S2.2.1 31 = v ∧ eqB fCame S S2 := fun w => ⟨_, rfl, by simp [sI, va_up], by simp [sI, va_up], by simpa [sI, va_up] using a3, q1.tr ((eqB.I rfl).tr (eqB.I rfl))⟩
          by_cases h5 : kd = 3
          · rw [if_pos h5, if_pos h5]; exact key 3
          · rw [if_neg h5, if_neg h5]
            by_cases h6 : to = 0
            · rw [if_pos h6, if_pos h6]
              by_cases h7 : kd = 1
              · rw [if_pos h7, if_pos h7]; exact key 2
              · rw [if_neg h7, if_neg h7]; exact key 0
            · rw [if_neg h6, if_neg h6]; exact key 0
        · rw [if_neg h4, if_neg h4]
          by_cases h5 : to = 1
          · rw [if_pos h5, if_pos h5]
            exact ⟨_, rfl, by simpa [sI, va_up] using a1, by simp [sI, va_up], by simpa [sI, va_up] using a3, q1.tr (eqB.I rfl)⟩
          · rw [if_neg h5, if_neg h5]; exact ⟨S1, rfl, a1, a2, a3, q1⟩
