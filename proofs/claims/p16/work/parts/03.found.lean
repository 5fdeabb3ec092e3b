/-! the abstract machine: values, locals, heap, judgement. My own rows. -/
abbrev aV : Type := Int32 ⊕ Int64 ⊕ Option Nat
def tv (v : aV) : Value := match v with
  | .inl x => .int x
  | .inr (.inl x) => .long x
  | .inr (.inr r) => va_rf r
def aw (v : aV) : Nat := match v with
  | .inr (.inl _) => 2
  | _ => 1
theorem tv_cat (v : aV) : (tv v).category = aw v := by
  rcases v with x | x | r
  · rfl
  · rfl
  · cases r <;> rfl
theorem aw_le (v : aV) : aw v ≤ 2 := by
  rcases v with x | x | r <;> simp [aw]
theorem tv_sum (st : List aV) : ((st.map tv).map fun v => v.category).sum = (st.map aw).sum := by
  congr 1
  rw [List.map_map]
  apply List.map_congr_left
  intro v _
  exact tv_cat v
/-! locals -/
abbrev aL : Type := List (Option aV)
def lh (ls : Array Slot) (nL : Nat) (lv : aL) : Prop := ls.size = nL ∧ lv_wf ls ∧ ∀ (i : Nat) (v : aV), lv[i]? = some (some v) → ls[i]? = some (.val (tv v))
def kn1 (lv : aL) (i : Nat) : Option (Nat × Value) := match lv[i]? with
  | some (some v) => some (i, tv v)
  | _ => none
def kn (lv : aL) : List (Nat × Value) := (List.range lv.length).filterMap (kn1 lv)
theorem kn_mem {lv : aL} {q : Nat × Value} : q ∈ kn lv ↔ ∃ v, lv[q.1]? = some (some v) ∧ q.2 = tv v := by
  unfold kn
  rw [List.mem_filterMap]
  constructor
  · rintro ⟨i, hi, hq⟩
    unfold kn1 at hq
    split at hq
    · next v hv => cases hq; exact ⟨v, hv, rfl⟩
    · cases hq
  · rintro ⟨v, hv, he⟩
    refine ⟨q.1, List.mem_range.mpr (List.getElem?_eq_some_iff.mp hv).1, ?_⟩
    unfold kn1
    rw [hv]
    show some (q.1, tv v) = some q
    rw [← he]
theorem lh.kn {ls : Array Slot} {nL : Nat} {lv : aL} (h : lh ls nL lv) : lv_has ls nL (kn lv) := ⟨h.1, h.2.1, fun q hq => by
  obtain ⟨v, hv, he⟩ := kn_mem.mp hq
  rw [he]
  exact h.2.2 q.1 v hv⟩
def clr (lv : aL) (i : Nat) : aL := match i with
  | 0 => lv
  | j + 1 => match lv[j]? with
    | some (some (.inr (.inl _))) => lv.set j none
    | _ => lv
theorem clr_get {lv : aL} {i j : Nat} {v : aV} (h : (clr lv i)[j]? = some (some v)) : lv[j]? = some (some v) ∧ ¬ (j + 1 = i ∧ aw v = 2) := by
  unfold clr at h
  split at h
  · exact ⟨h, fun q => by omega⟩
  · next k =>
    split at h
    · next x hx =>
      by_cases hjk : j = k
      · subst hjk
        have hl := (List.getElem?_eq_some_iff.mp hx).1
        simp [hl] at h
      · rw [List.getElem?_set_ne (Ne.symm hjk)] at h
        exact ⟨h, fun q => hjk (by omega)⟩
    · next hx =>
      refine ⟨h, fun q => ?_⟩
      have hjk : j = k := by omega
      subst hjk
      rcases v with x | x | x
      · simp [aw] at q
      · exact hx x h
      · simp [aw] at q
def st1 (lv : aL) (i : Nat) (v : aV) : aL := (clr lv i).set i (some v)
def st2 (lv : aL) (i : Nat) (v : aV) : aL := ((clr lv i).set i (some v)).set (i + 1) none
theorem set_get {lv : aL} {i j : Nat} {v w : aV} (h : (lv.set i (some v))[j]? = some (some w)) : (j = i ∧ w = v) ∨ (j ≠ i ∧ lv[j]? = some (some w)) := by
  by_cases hj : j = i
  · subst hj
    left
    refine ⟨rfl, ?_⟩
    have hl : j < lv.length := by
      have := (List.getElem?_eq_some_iff.mp h).1
      simpa using this
    simp [hl] at h
    exact h.symm
  · right
    rw [List.getElem?_set_ne (Ne.symm hj)] at h
    exact ⟨hj, h⟩
theorem st1_ok {ls : Array Slot} {nL : Nat} {lv : aL} {i : Nat} {v : aV} (h : lv_has ls nL ((i, tv v) :: (kn lv).filter (fun q => !(q.1 == i) && !(q.1 + 1 == i && q.2.category == 2)))) : lh ls nL (st1 lv i v) := by
  refine ⟨h.1, h.2.1, fun j w hw => ?_⟩
  unfold st1 at hw
  rcases set_get hw with ⟨rfl, rfl⟩ | ⟨hj, hg⟩
  · exact h.2.2 (j, tv w) List.mem_cons_self
  · obtain ⟨h1, h2⟩ := clr_get hg
    refine h.2.2 (j, tv w) (List.mem_cons_of_mem _ (List.mem_filter.mpr ⟨kn_mem.mpr ⟨w, h1, rfl⟩, ?_⟩))
    have e1 : (j == i) = false := by simp [hj]
    have e2 : (j + 1 == i && (tv w).category == 2) = false := by
      rw [tv_cat]
      by_cases ha : j + 1 = i
      · have : ¬ aw w = 2 := fun q => h2 ⟨ha, q⟩
        simp [this]
      · simp [ha]
    simp only [e1, e2]
    rfl
theorem st2_ok {ls : Array Slot} {nL : Nat} {lv : aL} {i : Nat} {v : aV} (h : lv_has ls nL ((i, tv v) :: (kn lv).filter (fun q => !(q.1 == i) && (!(q.1 == i + 1) && !(q.1 + 1 == i && q.2.category == 2))))) : lh ls nL (st2 lv i v) := by
  refine ⟨h.1, h.2.1, fun j w hw => ?_⟩
  unfold st2 at hw
  have hj1 : j ≠ i + 1 := by
    intro q
    subst q
    by_cases hl : i + 1 < ((clr lv i).set i (some v)).length
    · rw [List.getElem?_set_self hl] at hw; cases hw
    · rw [List.getElem?_eq_none (by simpa using hl)] at hw; cases hw
  rw [List.getElem?_set_ne (Ne.symm hj1)] at hw
  rcases set_get hw with ⟨rfl, rfl⟩ | ⟨hj, hg⟩
  · exact h.2.2 (j, tv w) List.mem_cons_self
  · obtain ⟨h1, h2⟩ := clr_get hg
    refine h.2.2 (j, tv w) (List.mem_cons_of_mem _ (List.mem_filter.mpr ⟨kn_mem.mpr ⟨w, h1, rfl⟩, ?_⟩))
    have e1 : (j == i) = false := by simp [hj]
    have e3 : (j == i + 1) = false := by simp [hj1]
    have e2 : (j + 1 == i && (tv w).category == 2) = false := by
      rw [tv_cat]
      by_cases ha : j + 1 = i
      · have : ¬ aw w = 2 := fun q => h2 ⟨ha, q⟩
        simp [this]
      · simp [ha]
    simp only [e1, e2, e3]
    rfl
/-- the locals at a method's entry -/
def enL : List aV → aL
  | [] => []
  | .inr (.inl x) :: vs => some (.inr (.inl x)) :: none :: enL vs
  | v :: vs => some v :: enL vs
theorem enL_get (vs : List aV) : ∀ (b i : Nat) (v : aV), (enL vs)[i]? = some (some v) → (b + i, tv v) ∈ lv_args b (vs.map tv) := by
  induction vs with
  | nil => intro b i v h; simp [enL] at h
  | cons w vs ih =>
    intro b i v h
    rcases w with x | x | x
    · simp only [enL] at h
      cases i with
      | zero => simp at h; subst h; simp [lv_args]
      | succ i =>
        simp at h
        have := ih (b + 1) i v h
        simp only [List.map_cons, lv_args]
        rw [if_neg (by rw [tv_cat]; simp [aw])]
        exact List.mem_cons_of_mem _ (by rw [show b + (i + 1) = b + 1 + i by omega]; exact this)
    · simp only [enL] at h
      match i, h with
      | 0, h => simp at h; subst h; simp [lv_args]
      | 1, h => simp at h
      | i + 2, h =>
        simp at h
        have := ih (b + 2) i v h
        simp only [List.map_cons, lv_args]
        rw [if_pos (by rw [tv_cat]; simp [aw])]
        exact List.mem_cons_of_mem _ (by rw [show b + (i + 2) = b + 2 + i by omega]; exact this)
    · simp only [enL] at h
      cases i with
      | zero => simp at h; subst h; simp [lv_args]
      | succ i =>
        simp at h
        have := ih (b + 1) i v h
        simp only [List.map_cons, lv_args]
        rw [if_neg (by rw [tv_cat]; simp [aw])]
        exact List.mem_cons_of_mem _ (by rw [show b + (i + 1) = b + 1 + i by omega]; exact this)
def enW (vs : List aV) (n : Nat) : aL := enL vs ++ List.replicate (n - (enL vs).length) none
theorem enW_get {vs : List aV} {n i : Nat} {v : aV} (h : (enW vs n)[i]? = some (some v)) : (i, tv v) ∈ lv_args 0 (vs.map tv) := by
  unfold enW at h
  by_cases hi : i < (enL vs).length
  · rw [List.getElem?_append_left hi] at h
    have := enL_get vs 0 i v h
    rwa [Nat.zero_add] at this
  · rw [List.getElem?_append_right (by omega)] at h
    rw [List.getElem?_replicate] at h
    split at h <;> simp at h
theorem enL_len (vs : List aV) : (lg_sl (vs.map tv)).length = (enL vs).length := by
  induction vs with
  | nil => rfl
  | cons w vs ih =>
    have e : lg_sl ((w :: vs).map tv) = (if (tv w).category = 2 then [.val (tv w), .second] else [.val (tv w)]) ++ lg_sl (vs.map tv) := by simp [lg_sl]
    rw [e, List.length_append, ih, tv_cat]
    rcases w with x | x | x <;> simp [aw, enL] <;> omega
