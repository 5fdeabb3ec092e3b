/-! THE REFERENCE: the shape of another handle. My own rows. -/
/-- when a shape is there -/
def oC (T : mS) (vs : List aVl) (j h x y a : Nat) : Prop :=
  (j = 0 → bOK T vs h a) ∧ (j = 1 → tN T 3 h < 6) ∧
  (j = 3 → (if tI T 5 x = 4 then 0 else 1) + tN T 3 x ≤ tN T 3 h ∧ (tI T 5 x ≠ 4 → tI T 4 (6 * h) = tI T 5 x) ∧ tys T x = ((tys T h).drop (if tI T 5 x = 4 then 0 else 1)).take (tN T 3 x)) ∧
  (j = 4 → tN T 3 x = 1 ∧ tI T 5 x = tI T 4 (6 * h + a)) ∧
  (j = 5 → tN T 3 x = (if tI T 5 h = 4 then 0 else 1) ∧ ((if tI T 5 h = 4 then 0 else 1) = 1 → tI T 4 (6 * x) = tI T 5 h)) ∧
  (j = 6 → tI T 5 h = 0 ∧ (tN T 3 h ≤ tN T 3 x ∧ tys T h = (tys T x).take (tN T 3 h)) ∧ tys T x = tys T y ∧ tI T 5 x = tI T 5 y) ∧
  (j = 7 → tN T 3 x = tN T 3 h + 1 ∧ tI T 4 (6 * x) = 0 ∧ (tys T x).drop 1 = tys T h ∧ tI T 5 x = tI T 5 h) ∧
  (j = 8 → tN T 3 x = tN T 3 h + 1 ∧ tI T 4 (6 * x) = 0 ∧ (tys T x).drop 1 = tys T h ∧ tI T 5 x = 4) ∧
  (j = 9 → tN T 3 h = 0 ∧ tI T 5 h = 0 ∧ tN T 3 y = 0 ∧ tI T 5 y ≠ 4 ∧ tN T 3 x = 2 ∧ tI T 4 (6 * x) = tI T 5 y ∧ tI T 4 (6 * x + 1) = 0 ∧ tI T 5 x = tI T 5 y) ∧
  (j = 10 → a ≤ tN T 3 h ∧ ∀ i, tN T 3 h - a ≤ i → i < tN T 3 h → tI T 4 (6 * h + i) = 0) ∧
  (j = 11 → tN T 3 h ≠ 0 ∧ tI T 4 (6 * h + (tN T 3 h - 1)) = 3 ∧ tN T 3 h - 1 + a ≤ 6) ∧
  (j = 12 → tN T 3 x = tN T 3 h ∧ caB (tI T 5 h) (tI T 5 x) = true ∧ ∀ i, i < tN T 3 h → caB (tI T 4 (6 * x + i)) (tI T 4 (6 * h + i)) = true)
/-- what it takes -/
def oT (T : mS) (j h x a : Nat) (b : Int32) (ts : List Int32) : Prop :=
  (j = 0 → ts = (tys T h).take a ++ (tys T h).drop (a + 1)) ∧ (j = 1 → ts = (tys T h).take a ++ b :: (tys T h).drop a) ∧
  (j = 2 → ts.length = tN T 3 h ∧ ∀ i, i < tN T 3 h → ts[dgt (nI a) (tN T 3 h) i]? = some (tI T 4 (6 * h + i))) ∧
  (j = 3 → ts = (tys T h).drop (if tI T 5 x = 4 then 0 else 1)) ∧ (j = 4 → ts = (tys T h).take a ++ tI T 4 (6 * x) :: (tys T h).drop (a + 1)) ∧
  (j = 5 ∨ j = 7 ∨ j = 8 ∨ j = 9 → ts = tys T h) ∧ (j = 6 ∨ j = 12 → ts = tys T x) ∧
  (j = 10 → ts = (tys T h).take (tN T 3 h - a) ++ [3]) ∧ (j = 11 → ts = (tys T h).take (tN T 3 h - 1) ++ List.replicate a 0)
/-- what it gives -/
def oG (T : mS) (j h x y : Nat) : Int32 := if j = 5 ∨ j = 6 ∨ j = 12 then tI T 5 x else if j = 9 then tI T 5 y else tI T 5 h
/-- the numbers fit -/
def oV (T : mS) (j h a : Nat) (A b : Int32) : Prop :=
  (j = 0 ∨ j = 4 → A = nI a ∧ a < tN T 3 h) ∧ (j = 1 → A = nI a ∧ a ≤ tN T 3 h ∧ (b = 0 ∨ b = 1 ∨ b = 2 ∨ b = 3)) ∧
  (j = 2 → A = nI a ∧ a < 10 ^ tN T 3 h ∧ (∀ k, k < tN T 3 h → dgt (nI a) (tN T 3 h) k < tN T 3 h) ∧ ∀ i k, i < tN T 3 h → k < tN T 3 h → dgt (nI a) (tN T 3 h) i = dgt (nI a) (tN T 3 h) k → i = k) ∧
  (j = 10 → A = nI a ∧ 1 ≤ a ∧ a ≤ 6) ∧ (j = 11 → A = nI a ∧ a ≤ 5)
def SHx (S : mS) (y : Option (Int32 × mS)) (T : mS) (vs : List aVl) (j h x yy a : Nat) (b : Int32) : Prop := (oC T vs j h x yy a → ∃ S2 ts, y = some (oG T j h x yy, S2) ∧ TW S2 ts ∧ oT T j h x a b ts ∧ eqB f27 S S2 ∧ (j = 0 → S2.1 30 = (bV T vs h a).1 ∧ S2.2.1 31 = (bV T vs h a).2)) ∧ (¬ oC T vs j h x yy a → ∃ S2, y = some (-1, S2) ∧ eqB f27 S S2)
theorem shx {S S1 : mS} {y : Option (Int32 × mS)} {T : mS} {vs : List aVl} {j h x yy a : Nat} {b : Int32} {P : Prop} {g : Int32} {ts : List Int32} (H : SHo S1 y P g ts) (q : eqB f27 S S1) (hP : oC T vs j h x yy a ↔ P) (hg : g = oG T j h x yy) (ht : P → oT T j h x a b ts) (hj : j ≠ 0) : SHx S y T vs j h x yy a b := by
  refine ⟨fun c => ?_, fun c => ?_⟩
  · obtain ⟨S2, e, w, q2⟩ := H.1 (hP.mp c)
    exact ⟨S2, ts, by rw [← hg]; exact e, w, ht (hP.mp c), q.tr q2, fun z => absurd z hj⟩
  · obtain ⟨S2, e, q2⟩ := H.2 fun z => c (hP.mpr z)
    exact ⟨S2, e, q.tr q2⟩
