/-! TYPES: a run of well typed handles is never stuck. My own rows. -/
def VI (x : Int64) : Prop := x.toInt32.toInt64 = x
theorem vi_32 (x : Int32) : VI x.toInt64 := by unfold VI; rw [Int32.toInt32_toInt64]
def VT (nr : Nat) (t : Int32) (v : aVl) : Prop := (t = 0 → v.1 = 0 ∧ VI v.2) ∧ (t = 1 → v.1 = 1) ∧ (t = 2 → (v.1 = 0 ∧ VI v.2) ∨ v.1 = 1 ∨ v = (3, 0)) ∧ (t = 3 → (v.1 = 2 ∧ ∃ r, r < nr ∧ v.2 = (nI r).toInt64) ∨ v = (3, 0)) ∧ (t = 4 → v = (3, 0))
theorem VT.mono {nr nr2 : Nat} {t : Int32} {v : aVl} (h : VT nr t v) (hl : nr ≤ nr2) : VT nr2 t v := ⟨h.1, h.2.1, h.2.2.1, fun z => by
  rcases h.2.2.2.1 z with ⟨a, r, b, c⟩ | a
  · exact Or.inl ⟨a, r, by omega, c⟩
  · exact Or.inr a, h.2.2.2.2⟩
theorem vt0 {nr : Nat} {x : Int64} (h : VI x) : VT nr 0 (0, x) := ⟨fun _ => ⟨rfl, h⟩, fun z => absurd z (by decide), fun z => absurd z (by decide), fun z => absurd z (by decide), fun z => absurd z (by decide)⟩
theorem vt1 {nr : Nat} {x : Int64} : VT nr 1 (1, x) := ⟨fun z => absurd z (by decide), fun _ => rfl, fun z => absurd z (by decide), fun z => absurd z (by decide), fun z => absurd z (by decide)⟩
theorem vt2i {nr : Nat} {x : Int64} (h : VI x) : VT nr 2 (0, x) := ⟨fun z => absurd z (by decide), fun z => absurd z (by decide), fun _ => Or.inl ⟨rfl, h⟩, fun z => absurd z (by decide), fun z => absurd z (by decide)⟩
theorem vt2l {nr : Nat} {x : Int64} : VT nr 2 (1, x) := ⟨fun z => absurd z (by decide), fun z => absurd z (by decide), fun _ => Or.inr (Or.inl rfl), fun z => absurd z (by decide), fun z => absurd z (by decide)⟩
theorem vt2n {nr : Nat} : VT nr 2 (3, 0) := ⟨fun z => absurd z (by decide), fun z => absurd z (by decide), fun _ => Or.inr (Or.inr rfl), fun z => absurd z (by decide), fun z => absurd z (by decide)⟩
theorem vt3 {nr r : Nat} (h : r < nr) : VT nr 3 (2, (nI r).toInt64) := ⟨fun z => absurd z (by decide), fun z => absurd z (by decide), fun z => absurd z (by decide), fun _ => Or.inl ⟨rfl, r, h, rfl⟩, fun z => absurd z (by decide)⟩
theorem vt3n {nr : Nat} : VT nr 3 (3, 0) := ⟨fun z => absurd z (by decide), fun z => absurd z (by decide), fun z => absurd z (by decide), fun _ => Or.inr rfl, fun z => absurd z (by decide)⟩
theorem vt4 {nr : Nat} : VT nr 4 (3, 0) := ⟨fun z => absurd z (by decide), fun z => absurd z (by decide), fun z => absurd z (by decide), fun z => absurd z (by decide), fun _ => rfl⟩
def VTs (nr : Nat) : List Int32 → List aVl → Prop
  | [], [] => True
  | t :: ts, v :: vs => VT nr t v ∧ VTs nr ts vs
  | _, _ => False
theorem VTs.len {nr : Nat} : ∀ {ts : List Int32} {vs : List aVl}, VTs nr ts vs → vs.length = ts.length
  | [], [], _ => rfl
  | _ :: _, _ :: _, h => by rw [List.length_cons, List.length_cons, h.2.len]
  | [], _ :: _, h => h.elim
  | _ :: _, [], h => h.elim
theorem VTs.mono {nr nr2 : Nat} (hl : nr ≤ nr2) : ∀ {ts : List Int32} {vs : List aVl}, VTs nr ts vs → VTs nr2 ts vs
  | [], [], _ => trivial
  | _ :: _, _ :: _, h => ⟨h.1.mono hl, h.2.mono hl⟩
  | [], _ :: _, h => h.elim
  | _ :: _, [], h => h.elim
theorem VTs.app {nr : Nat} {us : List Int32} {ws : List aVl} (hu : VTs nr us ws) : ∀ {ts : List Int32} {vs : List aVl}, VTs nr ts vs → VTs nr (ts ++ us) (vs ++ ws)
  | [], [], _ => hu
  | _ :: _, _ :: _, h => ⟨h.1, VTs.app hu h.2⟩
  | [], _ :: _, h => h.elim
  | _ :: _, [], h => h.elim
theorem VTs.take {nr : Nat} : ∀ (n : Nat) {ts : List Int32} {vs : List aVl}, VTs nr ts vs → VTs nr (ts.take n) (vs.take n)
  | 0, _, _, _ => by simp only [List.take_zero]; exact trivial
  | n + 1, [], [], _ => trivial
  | n + 1, _ :: _, _ :: _, h => ⟨h.1, VTs.take n h.2⟩
  | _ + 1, [], _ :: _, h => h.elim
  | _ + 1, _ :: _, [], h => h.elim
theorem VTs.drop {nr : Nat} : ∀ (n : Nat) {ts : List Int32} {vs : List aVl}, VTs nr ts vs → VTs nr (ts.drop n) (vs.drop n)
  | 0, _, _, h => h
  | n + 1, [], [], _ => trivial
  | n + 1, _ :: _, _ :: _, h => VTs.drop n h.2
  | _ + 1, [], _ :: _, h => h.elim
  | _ + 1, _ :: _, [], h => h.elim
theorem VTs.get {nr : Nat} : ∀ (k : Nat) {ts : List Int32} {vs : List aVl}, VTs nr ts vs → k < ts.length → VT nr (ts.getD k 0) (vs.getD k (0, 0))
  | _, [], [], _, h => absurd h (by simp)
  | 0, _ :: _, _ :: _, h, _ => h.1
  | k + 1, _ :: ts, _ :: vs, h, hk => VTs.get k h.2 (by simpa using hk)
  | _, [], _ :: _, h, _ => h.elim
  | _, _ :: _, [], h, _ => h.elim
theorem VTs.map {nr : Nat} {α : Type} (f : α → Int32) (g : α → aVl) : ∀ (l : List α), (∀ a, a ∈ l → VT nr (f a) (g a)) → VTs nr (l.map f) (l.map g)
  | [], _ => trivial
  | a :: l, h => ⟨h a (by simp), VTs.map f g l fun b hb => h b (by simp [hb])⟩
theorem VTs.nil {nr : Nat} {vs : List aVl} (h : VTs nr [] vs) : vs = [] := by cases vs; rfl; exact h.elim
theorem VTs.one {nr : Nat} {t : Int32} {ts : List Int32} {vs : List aVl} (h : VTs nr (t :: ts) vs) : ∃ v ws, vs = v :: ws ∧ VT nr t v ∧ VTs nr ts ws := by
  cases vs with
  | nil => exact h.elim
  | cons v ws => exact ⟨v, ws, rfl, h.1, h.2⟩
/-- may a value of one type be adapted to another -/
def CA (fr to : Int32) : Prop := fr = to ∨ to = 4 ∨ fr = 4 ∨ (fr = 0 ∧ (to = 1 ∨ to = 2)) ∨ (fr = 1 ∧ to = 2) ∨ (fr = 2 ∧ (to = 0 ∨ to = 1))
theorem ad_vt {nr : Nat} {fr to : Int32} {v : aVl} (hc : CA fr to) (ht : to = 0 ∨ to = 1 ∨ to = 2 ∨ to = 3 ∨ to = 4) (h : VT nr fr v) (h0 : (adS fr to v.1 v.2).1 = 0) : VT nr to (adS fr to v.1 v.2).2 := by
  unfold adS at h0 ⊢
  by_cases e1 : fr = to
  · rw [if_pos e1]; rw [e1] at h; exact h
  rw [if_neg e1] at h0 ⊢
  by_cases e2 : to = 4
  · rw [if_pos e2, e2]; exact vt4
  rw [if_neg e2] at h0 ⊢
  by_cases e3 : fr = 4
  · rw [if_pos e3]
    rcases ht with z | z | z | z | z
    · rw [z]; exact vt0 (show (0 : Int64).toInt32.toInt64 = 0 by decide)
    · rw [z]; exact vt1
    · rw [z]; exact vt2n
    · rw [z]; exact vt3n
    · exact absurd z e2
  rw [if_neg e3] at h0 ⊢
  rcases hc with z | z | z | ⟨z, y⟩ | ⟨z, y⟩ | ⟨z, y⟩
  · exact absurd z e1
  · exact absurd z e2
  · exact absurd z e3
  · subst z
    rw [if_neg (by decide)]
    obtain ⟨k0, k1⟩ := h.1 rfl
    rcases y with y | y
    · subst y; rw [if_pos rfl]; exact vt1
    · subst y; rw [if_neg (by decide), k0]; exact vt2i k1
  · subst z; subst y
    rw [if_neg (by decide), if_neg (by decide), h.2.1 rfl]
    exact vt2l
  · subst z
    rw [if_pos rfl] at h0 ⊢
    by_cases k3 : v.1 = 3
    · rw [if_pos k3] at h0; exact absurd h0 (show ¬ (3 : Int32) = 0 by decide)
    rw [if_neg k3] at h0
    rcases y with y | y
    · subst y
      rw [if_pos rfl] at h0
      by_cases k1 : v.1 = 1
      · rw [if_pos k1] at h0; exact absurd h0 (show ¬ (2 : Int32) = 0 by decide)
      rcases h.2.2.1 rfl with ⟨a, b⟩ | a | a
      · exact vt0 b
      · exact absurd a k1
      · exact absurd (by rw [a]) k3
    · subst y; exact vt1
def RT (R : aRS) : Prop := R.2.1 ≤ 60 ∧ ∀ r, r < R.2.1 → ∃ m : Nat, m ≤ 20 ∧ R.2.2.1 r = nI m
def SO (R : aRS) (t : Int32) (x : Option aRes) : Prop := ∃ q : aRes, x = some q ∧ RT q.2.2 ∧ R.2.1 ≤ q.2.2.2.1 ∧ R.1 ≤ q.2.2.1 ∧ (q.1 = 0 → VT q.2.2.2.1 t q.2.1)
theorem so_bad {R : aRS} {t f : Int32} (hR : RT R) (hf : f ≠ 0) : SO R t (some (bad f R)) := ⟨_, rfl, hR, Nat.le_refl _, Nat.le_refl _, fun z => absurd z hf⟩
theorem so_ok {R R2 : aRS} {t : Int32} {v : aVl} (hR : RT R2) (h1 : R.2.1 ≤ R2.2.1) (h2 : R.1 ≤ R2.1) (h : VT R2.2.1 t v) : SO R t (some (0, v, R2)) := ⟨_, rfl, hR, h1, h2, fun _ => h⟩
theorem so_is {R : aRS} {t : Int32} {v : aVl} (hR : RT R) (h : VT R.2.1 t v) : SO R t (some (0, v, R)) := so_ok hR (Nat.le_refl _) (Nat.le_refl _) h
theorem so_le {R R2 : aRS} {t : Int32} {x : Option aRes} (h : SO R2 t x) (h1 : R.2.1 ≤ R2.2.1) (h2 : R.1 ≤ R2.1) : SO R t x := by
  obtain ⟨q, a, b, c, d, e⟩ := h
  exact ⟨q, a, b, Nat.le_trans h1 c, Nat.le_trans h2 d, e⟩
theorem so_bnd {R : aRS} {t t2 : Int32} {x : Option aRes} {k : aRes → Option aRes} (h : SO R t x) (hk : ∀ q : aRes, x = some q → RT q.2.2 → R.2.1 ≤ q.2.2.2.1 → R.1 ≤ q.2.2.1 → (q.1 = 0 → VT q.2.2.2.1 t q.2.1) → SO q.2.2 t2 (k q)) : SO R t2 (x.bind k) := by
  obtain ⟨q, a, b, c, d, e⟩ := h
  rw [a, o_bs]
  exact so_le (hk q a b c d e) c d
theorem so_fail {q : aRes} {t : Int32} (hR : RT q.2.2) (hf : ¬ q.1 = 0) : SO q.2.2 t (some q) := ⟨q, rfl, hR, Nat.le_refl _, Nat.le_refl _, fun z => absurd z hf⟩
theorem so_thn {R : aRS} {t t2 : Int32} {x : Option aRes} {k : aVl → aRS → Option aRes} (h : SO R t x) (hk : ∀ v R2, RT R2 → R.2.1 ≤ R2.2.1 → R.1 ≤ R2.1 → VT R2.2.1 t v → SO R2 t2 (k v R2)) : SO R t2 (thn x k) := by
  refine so_bnd h fun q _ b c d e => ?_
  by_cases hz : q.1 = 0
  · rw [if_pos hz]; exact hk _ _ b c d (e hz)
  · rw [if_neg hz]; exact so_fail b hz
theorem so_ite {R : aRS} {t : Int32} {c : Prop} [Decidable c] {x y : Option aRes} (h1 : c → SO R t x) (h2 : ¬ c → SO R t y) : SO R t (if c then x else y) := by
  by_cases h : c
  · rw [if_pos h]; exact h1 h
  · rw [if_neg h]; exact h2 h
