/-! rules of arrays, of what is made, of statics and of classes asked for. My own rows. -/
theorem ix_not {i : Int32} {n : Nat} (h : ¬ i < 0 ∧ i.toNatClampNeg < n) : ¬ (i < 0 ∨ n ≤ i.toNatClampNeg) := fun q => by
  rcases q with q | q
  · exact h.1 q
  · omega
theorem slot_set {cell : Cell} {j i : Nat} {v : Value} (hi : i < cell.slots.size) : (cell.setSlot i v).slots[j]? = if j = i then some v else cell.slots[j]? := by
  simp only [Cell.setSlot]
  by_cases h : j = i
  · subst h; simp [hi]
  · rw [if_neg h, Array.getElem?_setIfInBounds_ne (Ne.symm h)]
theorem arI_spec {h : aH} {a : Nat} {i x : Int32} (e : arI h a i = some x) : ∃ t n f, h.2.2 a = some (.inl (t, n, .inl f)) ∧ (¬ i < 0 ∧ i.toNatClampNeg < n) ∧ x = f i.toNatClampNeg := by
  unfold arI at e
  split at e
  · next t n f he =>
    split at e
    · next hi => cases e; exact ⟨t, n, f, he, hi, rfl⟩
    · cases e
  · cases e
theorem arJ_spec {h : aH} {a : Nat} {i : Int32} {x : Int64} (e : arJ h a i = some x) : ∃ t n f, h.2.2 a = some (.inl (t, n, .inr (.inl f))) ∧ (¬ i < 0 ∧ i.toNatClampNeg < n) ∧ x = f i.toNatClampNeg := by
  unfold arJ at e
  split at e
  · next t n f he =>
    split at e
    · next hi => cases e; exact ⟨t, n, f, he, hi, rfl⟩
    · cases e
  · cases e
theorem arR_spec {h : aH} {a : Nat} {i : Int32} {x : Option Nat} (e : arR h a i = some x) : ∃ t n f, h.2.2 a = some (.inl (t, n, .inr (.inr f))) ∧ (¬ i < 0 ∧ i.toNatClampNeg < n) ∧ x = f i.toNatClampNeg := by
  unfold arR at e
  split at e
  · next t n f he =>
    split at e
    · next hi => cases e; exact ⟨t, n, f, he, hi, rfl⟩
    · cases e
  · cases e
theorem arN_spec {h : aH} {a : Nat} {x : Int32} (e : arN h a = some x) : ∃ t n f, h.2.2 a = some (.inl (t, n, f)) ∧ x = Int32.ofNat n := by
  unfold arN at e
  split at e
  · next t n f he => cases e; exact ⟨t, n, f, he, rfl⟩
  · cases e
theorem awI_spec {h h1 : aH} {a : Nat} {i x : Int32} (e : awI h a i x = some h1) : ∃ t n f, h.2.2 a = some (.inl (t, n, .inl f)) ∧ t ≠ 9 ∧ (¬ i < 0 ∧ i.toNatClampNeg < n) ∧ h1 = hup h a (.inl (t, n, .inl (va_up f i.toNatClampNeg x))) := by
  unfold awI at e
  split at e
  · next t n f he =>
    split at e
    · next hi => cases e; exact ⟨t, n, f, he, hi.1, hi.2, rfl⟩
    · cases e
  · cases e
theorem awJ_spec {h h1 : aH} {a : Nat} {i : Int32} {x : Int64} (e : awJ h a i x = some h1) : ∃ t n f, h.2.2 a = some (.inl (t, n, .inr (.inl f))) ∧ t ≠ 9 ∧ (¬ i < 0 ∧ i.toNatClampNeg < n) ∧ h1 = hup h a (.inl (t, n, .inr (.inl (va_up f i.toNatClampNeg x)))) := by
  unfold awJ at e
  split at e
  · next t n f he =>
    split at e
    · next hi => cases e; exact ⟨t, n, f, he, hi.1, hi.2, rfl⟩
    · cases e
  · cases e
theorem awR_spec {h h1 : aH} {a b t : Nat} {cs : List Nat} {i : Int32} (e : awR h a i t cs b = some h1) : ∃ n f c fs, h.2.2 a = some (.inl (t, n, .inr (.inr f))) ∧ h.2.2 b = some (.inr (c, fs)) ∧ c ∈ cs ∧ t ≠ 9 ∧ (¬ i < 0 ∧ i.toNatClampNeg < n) ∧ h1 = hup h a (.inl (t, n, .inr (.inr (va_up f i.toNatClampNeg (some b))))) := by
  unfold awR at e
  split at e
  · next t' n f c fs he hb =>
    split at e
    · next hi => cases e; obtain ⟨rfl, q1, q2, q3⟩ := hi; exact ⟨n, f, c, fs, he, hb, q2, q1, q3, rfl⟩
    · cases e
  · cases e
section YA
variable {l : Launch} {g : aG} {mi : aM} {d pc : Nat} {lv : aL} {st : List aV} {h : aH} {r : aO}
theorem y_iaload {a : Nat} {i x : Int32} (hr : arI h a i = some x) (hd : decode mi.2.1 pc = .ok (.iaload, 1)) (kk : Y l g mi d (pc + 1) lv (.inl x :: st) h r) : Y l g mi d pc lv (.inl i :: .inr (.inr (some a)) :: st) h r := by
  obtain ⟨t, n, f, ho, hi, rfl⟩ := arI_spec hr
  refine kk.pure (fun p e R s m args below meth c H locs cells slots Z ls C hl hR w => ?_)
  obtain ⟨⟨cell, g1, g2, g3, g4, -, g5⟩, -⟩ := hR.2.2.1 a _ ho
  exact W.iald C.1 C.2.1 g1 g2 g3 (ix_not ⟨hi.1, Nat.lt_of_lt_of_le hi.2 g4⟩) (g5 _ hi.2) rfl rfl hd w
theorem y_laload {a : Nat} {i : Int32} {x : Int64} (hr : arJ h a i = some x) (hd : decode mi.2.1 pc = .ok (.laload, 1)) (kk : Y l g mi d (pc + 1) lv (.inr (.inl x) :: st) h r) : Y l g mi d pc lv (.inl i :: .inr (.inr (some a)) :: st) h r := by
  obtain ⟨t, n, f, ho, hi, rfl⟩ := arJ_spec hr
  refine kk.pure (fun p e R s m args below meth c H locs cells slots Z ls C hl hR w => ?_)
  obtain ⟨⟨cell, g1, g2, g3, g4, g5⟩, -⟩ := hR.2.2.1 a _ ho
  exact W.lald C.1 C.2.1 g1 g2 g3 (by rw [g4]; exact ix_not hi) (g5 _ hi.2) rfl rfl hd w
theorem y_aaload {a : Nat} {i : Int32} {x : Option Nat} (hr : arR h a i = some x) (hd : decode mi.2.1 pc = .ok (.aaload, 1)) (kk : Y l g mi d (pc + 1) lv (.inr (.inr x) :: st) h r) : Y l g mi d pc lv (.inl i :: .inr (.inr (some a)) :: st) h r := by
  obtain ⟨t, n, f, ho, hi, rfl⟩ := arR_spec hr
  refine kk.pure (fun p e R s m args below meth c H locs cells slots Z ls C hl hR w => ?_)
  obtain ⟨⟨cell, g1, g2, g3, ⟨k, comp, k1, k2, k3⟩, g4, g5⟩, -⟩ := hR.2.2.1 a _ ho
  exact W.aald (ty := .object (arC t)) C.1 C.2.1 g1 ⟨g2, k, k1, comp, k2⟩ rfl g3 (by rw [g4]; exact ix_not hi) (g5 _ hi.2) rfl rfl hd w
theorem y_alen {a : Nat} {x : Int32} (hr : arN h a = some x) (hd : decode mi.2.1 pc = .ok (.arraylength, 1)) (kk : Y l g mi d (pc + 1) lv (.inl x :: st) h r) : Y l g mi d pc lv (.inr (.inr (some a)) :: st) h r := by
  obtain ⟨t, n, f, ho, rfl⟩ := arN_spec hr
  refine kk.pure (fun p e R s m args below meth c H locs cells slots Z ls C hl hR w => ?_)
  rcases f with f | f | f
  · obtain ⟨⟨cell, g1, g2, g3, g4, g6, g5⟩, -⟩ := hR.2.2.1 a _ ho
    exact W.alen (n := Int32.ofNat n) C.1 C.2.1 g1 g2 g6 rfl rfl hd w
  · obtain ⟨⟨cell, g1, g2, g3, g4, g5⟩, -⟩ := hR.2.2.1 a _ ho
    exact W.alen (n := Int32.ofNat n) C.1 C.2.1 g1 g2 (by rw [g4] <;> rfl) rfl rfl hd w
  · obtain ⟨⟨cell, g1, g2, g3, ⟨k, comp, k1, k2, k3⟩, g4, g5⟩, -⟩ := hR.2.2.1 a _ ho
    exact W.alen (ty := .object (arC t)) (n := Int32.ofNat n) C.1 C.2.1 g1 ⟨g2, k, k1, comp, k2⟩ (by rw [g4] <;> rfl) rfl rfl hd w
theorem locs_app {b a i : Nat} {locs : List Loc} (hL : ∀ q ∈ locs, b ≤ q.base) (ha : b ≤ a) : ∀ q ∈ locs ++ [(⟨a, i⟩ : Loc)], b ≤ q.base := fun z hz => by
  rcases List.mem_append.mp hz with hz | hz
  · exact hL z hz
  · rw [List.mem_singleton.mp hz]; exact ha
theorem y_iastore {a : Nat} {i x : Int32} {h1 : aH} (hr : awI h a i x = some h1) (hd : decode mi.2.1 pc = .ok (.iastore, 1)) (kk : Y l g mi d (pc + 1) lv st h1 r) : Y l g mi d pc lv (.inl x :: .inl i :: .inr (.inr (some a)) :: st) h r := by
  obtain ⟨t, n, f, ho, ht, hi, rfl⟩ := awI_spec hr
  refine ⟨kk.1, fun p e R s m args below meth c C H locs ls n0 s0 Z hl hR hL h1 h2 h3 h4 hZ => ?_⟩
  obtain ⟨⟨cell, g1, g2, g3, g4, g6, g5⟩, hb⟩ := hR.2.2.1 a _ ho
  have hb := hb (by simp [roE, ht])
  refine W.iast C.1 C.2.1 g1 g2 g3 (ix_not ⟨hi.1, Nat.lt_of_lt_of_le hi.2 g4⟩) rfl rfl hd fun H1 e1 z oq => ?_
  have hRn : aRep g s (hup h a (.inl (t, n, .inl (va_up f i.toNatClampNeg x)))) H1 := by
    refine hR.put z oq hb ⟨_, e1, g2, g3, by rw [k2_slotsz]; exact g4, by rw [k2_slotsz]; exact g6, fun j hj => ?_⟩
    rw [slot_set (Nat.lt_of_lt_of_le hi.2 g4)]
    by_cases hji : j = i.toNatClampNeg
    · rw [if_pos hji, va_up, if_pos hji]
    · rw [if_neg hji, va_up, if_neg hji]; exact g5 j hj
  exact kk.2 p e R s m args below meth c C H1 _ ls n0 s0 Z hl hRn (locs_app hL hb) h1 h2 h3 h4 hZ
theorem y_lastore {a : Nat} {i : Int32} {x : Int64} {h1 : aH} (hr : awJ h a i x = some h1) (hd : decode mi.2.1 pc = .ok (.lastore, 1)) (kk : Y l g mi d (pc + 1) lv st h1 r) : Y l g mi d pc lv (.inr (.inl x) :: .inl i :: .inr (.inr (some a)) :: st) h r := by
  obtain ⟨t, n, f, ho, ht, hi, rfl⟩ := awJ_spec hr
  refine ⟨kk.1, fun p e R s m args below meth c C H locs ls n0 s0 Z hl hR hL h1 h2 h3 h4 hZ => ?_⟩
  obtain ⟨⟨cell, g1, g2, g3, g4, g5⟩, hb⟩ := hR.2.2.1 a _ ho
  have hb := hb (by simp [roE, ht])
  refine W.last C.1 C.2.1 g1 g2 g3 (by rw [g4]; exact ix_not hi) rfl rfl hd fun H1 e1 z oq => ?_
  have hRn : aRep g s (hup h a (.inl (t, n, .inr (.inl (va_up f i.toNatClampNeg x))))) H1 := by
    refine hR.put z oq hb ⟨_, e1, g2, g3, by rw [k2_slotsz]; exact g4, fun j hj => ?_⟩
    rw [slot_set (by rw [g4]; exact hi.2)]
    by_cases hji : j = i.toNatClampNeg
    · rw [if_pos hji, va_up, if_pos hji]
    · rw [if_neg hji, va_up, if_neg hji]; exact g5 j hj
  exact kk.2 p e R s m args below meth c C H1 _ ls n0 s0 Z hl hRn (locs_app hL hb) h1 h2 h3 h4 hZ
/-- objects of class c may stand in arrays of kind t -/
def AC (c t : Nat) : Prop := ∃ q : vw_C, vwCl[c]? = some q ∧ (q.1 = arC t ∨ Cond.castable q.1 (arC t) ∈ nWs)
theorem y_aastore {a b t : Nat} {cs : List Nat} {i : Int32} {h1 : aH} (hr : awR h a i t cs b = some h1) (hac : ∀ c ∈ cs, AC c t) (hd : decode mi.2.1 pc = .ok (.aastore, 1)) (kk : Y l g mi d (pc + 1) lv st h1 r) : Y l g mi d pc lv (.inr (.inr (some b)) :: .inl i :: .inr (.inr (some a)) :: st) h r := by
  obtain ⟨n, f, cb, fs, ho, hob, hcb, ht, hi, rfl⟩ := awR_spec hr
  obtain ⟨q, hq, hcast⟩ := hac cb hcb
  refine ⟨kk.1, fun p e R s m args below meth c C H locs ls n0 s0 Z hl hR hL h1 h2 h3 h4 hZ => ?_⟩
  obtain ⟨⟨cell, g1, g2, g3, ⟨k, comp, k1, k2, k3⟩, g4, g5⟩, hb⟩ := hR.2.2.1 a _ ho
  obtain ⟨⟨q', hq', hlen, cellV, v1, v2, v3, v4⟩, -⟩ := hR.2.2.1 b _ hob
  cases hq.symm.trans hq'
  have hb := hb (by simp [roE, ht])
  have hKn := C.2.2.2.2.2.2.2.2.1.1 cb q hq
  obtain ⟨hfc, kV, hkV, hkind⟩ := hKn.2
  obtain ⟨kcomp, hkcomp, -⟩ := Vm.findClass_spec k3
  have hasg : s.vm.assignable cellV.cls comp = true := by
    rw [v2]
    rcases hcast with hc | hc
    · rw [hc] at hfc
      have e1 : comp = g.1.1 cb := Option.some.inj (k3.symm.trans hfc)
      rw [e1]
      exact va_assign hKn.2
    · obtain ⟨c0, t0, f1, f2, f3⟩ := Cond.castable_spec (va_Nw.use (A := args) rfl (C.2.2.2.2.2.2.2.2.1.2.1 _ hc))
      cases hfc.symm.trans f1
      cases k3.symm.trans f2
      exact f3
  refine W.aast C.1 C.2.1 g1 g2 g3 k1 k2 rfl hkcomp ⟨hi.1, by rw [g4]; exact hi.2⟩ v1 (fun z hz => by rw [v3] at hz; cases hz) (by rw [v2]; exact hkV) hasg rfl rfl hd fun H1 e1 z oq => ?_
  have hRn : aRep g s (hup h a (.inl (t, n, .inr (.inr (va_up f i.toNatClampNeg (some b)))))) H1 := by
    refine hR.put z oq hb ⟨_, e1, g2, g3, ⟨k, comp, k1, k2, k3⟩, by rw [k2_slotsz]; exact g4, fun j hj => ?_⟩
    rw [slot_set (by rw [g4]; exact hi.2)]
    by_cases hji : j = i.toNatClampNeg
    · rw [if_pos hji, va_up, if_pos hji]; rfl
    · rw [if_neg hji, va_up, if_neg hji]; exact g5 j hj
  exact kk.2 p e R s m args below meth c C H1 _ ls n0 s0 Z hl hRn (locs_app hL hb) h1 h2 h3 h4 hZ
/-- a new object -/
theorem y_new {idx c : Nat} {q : vw_C} {fs : List aV} (hq : vwCl[c]? = some q) (ty : Nat → FieldType) (hty : ∀ k, k < q.2.2 → parseFieldDescriptor (q.2.1 k).2.2.1 = some (ty k)) (hlen : fs.length = q.2.2) (hfs : ∀ j, j < q.2.2 → defaultValue (ty j) = vp_V (fs.map tv) j)
    (h1 : Cond.classLink mi.1.cls idx q.1 ∈ Gd) (h2 : Cond.instantiable q.1 q.2.2 ∈ Gd) (h3 : Cond.initialized q.1 ∈ Gd) (hd : decode mi.2.1 pc = .ok (.new idx, 3)) (kk : Y l g mi d (pc + 3) lv (.inr (.inr (some h.1)) :: st) (hnew h q.2.2 (.inr (c, fs))) r) : Y l g mi d pc lv st h r := by
  refine ⟨⟨Nat.le_trans (Nat.le_succ _) kk.1.1, Nat.le_trans (Nat.le_add_right _ _) kk.1.2⟩, fun p e R s m args below meth cd C H locs ls n0 s0 Z hl hR hL g1 g2 g3 g4 hZ => ?_⟩
  have hts := C.2.2.2.2.1
  have hKn := C.2.2.2.2.2.2.2.2.1.1 c q hq
  have b1 : h.1 + 1 ≤ r.2.1 := kk.1.1
  have b2 : h.2.1 + q.2.2 ≤ r.2.2.1 := kk.1.2
  refine W.newcK C.1 C.2.1 C.2.2.2.1 (hts _ (gd_in h1)) (hts _ (gd_in h2)) (hts _ (gd_in h3)) rfl hd (by omega) (by omega) hKn.2.1 rfl fun H1 kC hkC e1 z1 o1 => ?_
  have hRn : aRep g s (hnew h q.2.2 (.inr (c, fs))) H1 := hR.new z1 o1 ⟨q, hq, hlen, (u_born ty hts (fun z hz => gd_in ((cls_ok hq).1 z hz)) hKn hkC e1 hty).to hfs⟩
  refine W.cs (cells' := h.1 + 1 - n0) (slots' := h.2.1 + q.2.2 - s0) (by omega) (by omega) ?_
  rw [hR.1]
  exact kk.2 p e R s m args below meth cd C H1 locs ls n0 s0 Z hl hRn hL (Nat.le_trans g1 (Nat.le_succ _)) (Nat.le_trans g2 (Nat.le_add_right _ _)) g3 g4 hZ
/-- a new array of ints, of longs, of references -/
def nwI (h : aH) (n : Int32) : Option aH := if ¬ n < 0 ∧ n.toNatClampNeg ≤ 10000 then some (hnew h n.toNatClampNeg (.inl (0, n.toNatClampNeg, .inl (fun _ => 0)))) else none
def nwJ (h : aH) (n : Int32) : Option aH := if ¬ n < 0 ∧ n.toNatClampNeg ≤ 10000 then some (hnew h n.toNatClampNeg (.inl (0, n.toNatClampNeg, .inr (.inl (fun _ => 0))))) else none
def nwR (h : aH) (t : Nat) (n : Int32) : Option aH := if ¬ n < 0 ∧ n.toNatClampNeg ≤ 10000 then some (hnew h n.toNatClampNeg (.inl (t, n.toNatClampNeg, .inr (.inr (fun _ => none))))) else none
theorem y_newI {n : Int32} {h1 : aH} (hr : nwI h n = some h1) (ha : Cond.arrayClass .int ∈ Gd) (hd : decode mi.2.1 pc = .ok (.newarray .int, 2)) (kk : Y l g mi d (pc + 2) lv (.inr (.inr (some h.1)) :: st) h1 r) : Y l g mi d pc lv (.inl n :: st) h r := by
  unfold nwI at hr
  split at hr
  · next hn =>
    cases hr
    refine ⟨⟨Nat.le_trans (Nat.le_succ _) kk.1.1, Nat.le_trans (Nat.le_add_right _ _) kk.1.2⟩, fun p e R s m args below meth c C H locs ls n0 s0 Z hl hR hL g1 g2 g3 g4 hZ => ?_⟩
    have b1 : h.1 + 1 ≤ r.2.1 := kk.1.1
    have b2 : h.2.1 + n.toNatClampNeg ≤ r.2.2.1 := kk.1.2
    refine W.newaK (atype := .int) C.1 C.2.1 (C.2.2.2.2.1 _ (gd_in ha)) rfl hd rfl hn.1 rfl (by show n.toNatClampNeg * 4 ≤ _; omega) (by omega) (by omega) rfl fun H1 cA e1 z1 o1 hAr => ?_
    have hRn : aRep g s (hnew h n.toNatClampNeg (.inl (0, n.toNatClampNeg, .inl (fun _ => 0)))) H1 := by
      refine hR.new z1 o1 ⟨_, e1, hAr _ _, (fun z => by cases z), Nat.le_of_eq (arrV_size _ _ _).symm, by rw [arrV_size] <;> rfl, fun j hj => ?_⟩
      rw [arrV_read _ _ hj]; rfl
    refine W.cs (cells' := h.1 + 1 - n0) (slots' := h.2.1 + n.toNatClampNeg - s0) (by omega) (by omega) ?_
    rw [hR.1]
    exact kk.2 p e R s m args below meth c C H1 locs ls n0 s0 Z hl hRn hL (Nat.le_trans g1 (Nat.le_succ _)) (Nat.le_trans g2 (Nat.le_add_right _ _)) g3 g4 hZ
  · cases hr
theorem y_newJ {n : Int32} {h1 : aH} (hr : nwJ h n = some h1) (ha : Cond.arrayClass .long ∈ Gd) (hd : decode mi.2.1 pc = .ok (.newarray .long, 2)) (kk : Y l g mi d (pc + 2) lv (.inr (.inr (some h.1)) :: st) h1 r) : Y l g mi d pc lv (.inl n :: st) h r := by
  unfold nwJ at hr
  split at hr
  · next hn =>
    cases hr
    refine ⟨⟨Nat.le_trans (Nat.le_succ _) kk.1.1, Nat.le_trans (Nat.le_add_right _ _) kk.1.2⟩, fun p e R s m args below meth c C H locs ls n0 s0 Z hl hR hL g1 g2 g3 g4 hZ => ?_⟩
    have b1 : h.1 + 1 ≤ r.2.1 := kk.1.1
    have b2 : h.2.1 + n.toNatClampNeg ≤ r.2.2.1 := kk.1.2
    refine W.newaK (atype := .long) C.1 C.2.1 (C.2.2.2.2.1 _ (gd_in ha)) rfl hd rfl hn.1 rfl (by show n.toNatClampNeg * 8 ≤ _; omega) (by omega) (by omega) rfl fun H1 cA e1 z1 o1 hAr => ?_
    have hRn : aRep g s (hnew h n.toNatClampNeg (.inl (0, n.toNatClampNeg, .inr (.inl (fun _ => 0))))) H1 := by
      refine hR.new z1 o1 ⟨_, e1, hAr _ _, (fun z => by cases z), arrV_size _ _ _, fun j hj => ?_⟩
      rw [arrV_read _ _ hj]; rfl
    refine W.cs (cells' := h.1 + 1 - n0) (slots' := h.2.1 + n.toNatClampNeg - s0) (by omega) (by omega) ?_
    rw [hR.1]
    exact kk.2 p e R s m args below meth c C H1 locs ls n0 s0 Z hl hRn hL (Nat.le_trans g1 (Nat.le_succ _)) (Nat.le_trans g2 (Nat.le_add_right _ _)) g3 g4 hZ
  · cases hr
theorem y_newR {idx t : Nat} {n : Int32} {h1 : aH} (hr : nwR h t n = some h1) (hcl : Cond.classLink mi.1.cls idx (arC t) ∈ Gd) (hao : arC t ∈ aoCs) (hd : decode mi.2.1 pc = .ok (.anewarray idx, 3)) (kk : Y l g mi d (pc + 3) lv (.inr (.inr (some h.1)) :: st) h1 r) : Y l g mi d pc lv (.inl n :: st) h r := by
  unfold nwR at hr
  split at hr
  · next hn =>
    cases hr
    refine ⟨⟨Nat.le_trans (Nat.le_succ _) kk.1.1, Nat.le_trans (Nat.le_add_right _ _) kk.1.2⟩, fun p e R s m args below meth c C H locs ls n0 s0 Z hl hR hL g1 g2 g3 g4 hZ => ?_⟩
    have b1 : h.1 + 1 ≤ r.2.1 := kk.1.1
    have b2 : h.2.1 + n.toNatClampNeg ≤ r.2.2.1 := kk.1.2
    refine W.anew C.1 C.2.1 C.2.2.2.1 (C.2.2.2.2.1 _ (gd_in hcl)) (va_AO.use (C.2.2.2.2.2.2.2.2.1.2.2.1 _ hao)) rfl hd rfl hn.1 (by omega) (by omega) (by omega) fun cA kA comp f1 f2 f3 f4 => ?_
    generalize hH1 : H.push ({ cls := cA, slots := Array.replicate n.toNatClampNeg .null, vm := .none } : Cell) = H1
    have z1 : H1.size = H.size + 1 := by rw [← hH1, Array.size_push]
    have e1 : H1[H.size]? = some ({ cls := cA, slots := Array.replicate n.toNatClampNeg .null, vm := .none } : Cell) := by rw [← hH1, Array.getElem?_push_size]
    have o1 : ∀ q : Nat, q < H.size → H1[q]? = H[q]? := fun q hq => by rw [← hH1, Array.getElem?_push, if_neg (Nat.ne_of_lt hq)]
    have hRn : aRep g s (hnew h n.toNatClampNeg (.inl (t, n.toNatClampNeg, .inr (.inr (fun _ => none))))) H1 := by
      refine hR.new z1 o1 ⟨_, e1, (fun z q => by cases q), (fun z => by cases z), ⟨kA, comp, f2, f3, f4⟩, by simp, fun j hj => ?_⟩
      simp [hj, va_rf]
    refine W.cs (cells' := h.1 + 1 - n0) (slots' := h.2.1 + n.toNatClampNeg - s0) (by omega) (by omega) ?_
    rw [hR.1]
    exact kk.2 p e R s m args below meth c C H1 locs ls n0 s0 Z hl hRn hL (Nat.le_trans g1 (Nat.le_succ _)) (Nat.le_trans g2 (Nat.le_add_right _ _)) g3 g4 hZ
  · cases hr
/-- a static that nobody writes -/
theorem y_gets {idx i : Nat} {q : String × String × String} (hq : stL[i]? = some q) (hlk : Cond.fieldLink mi.1.cls idx q.1 q.2.1 q.2.2 ∈ Gd ∨ ∃ ho, Cond.fieldLinkNest mi.1.cls idx q.1 q.2.1 q.2.2 ho ∈ nWs) (hd : decode mi.2.1 pc = .ok (.getstatic idx, 3)) (kk : Y l g mi d (pc + 3) lv (.inr (.inr (some (g.2.2 i))) :: st) h r) : Y l g mi d pc lv st h r := by
  refine kk.pure (fun p e R s m args below meth c H locs cells slots Z ls C hl hR w => ?_)
  obtain ⟨cf, kf, fi, f, a, cell, h1, h2, h3, h4, h5, h6, h7, h8⟩ := hR.2.2.2 i q hq
  rcases hlk with hlk | ⟨ho, hlk⟩
  · exact W.gets C.1 C.2.1 C.2.2.2.1 (C.2.2.2.2.1 _ (gd_in hlk)) h1 h2 h3 h4 h5 (fun z => by rw [z] at h6; cases h6) h7 rfl hd w
  · exact va_WgetsN C.1 C.2.1 C.2.2.2.1 (va_Nw.use rfl (C.2.2.2.2.2.2.2.2.1.2.1 _ hlk)) h1 h2 h3 h4 h5 (fun z => by rw [z] at h6; cases h6) h7 rfl hd w
/-- instanceof, checkcast -/
theorem clO_spec {a c : Nat} (e : clO h a = some c) : ∃ fs, h.2.2 a = some (.inr (c, fs)) := by
  unfold clO at e
  split at e
  · next c' fs he => cases e; exact ⟨fs, he⟩
  · cases e
theorem rcv {g : aG} {s : State} {h : aH} {H : Heap} {a c : Nat} {q : vw_C} {fs : List aV} (hK : aKK g s) (hR : aRep g s h H) (hq : vwCl[c]? = some q) (ho : h.2.2 a = some (.inr (c, fs))) : ∃ cell : Cell, H[a]? = some cell ∧ cell.vm.isStatics = false ∧ s.vm.findClass q.1 = some cell.cls := by
  obtain ⟨⟨q', hq', -, cell, g1, g2, g3, -⟩, -⟩ := hR.2.2.1 a _ ho
  cases hq.symm.trans hq'
  exact ⟨cell, g1, by rw [g3]; rfl, by rw [g2]; exact (hK.1 c q hq).2.1⟩
theorem y_instT {a c idx : Nat} {nm : String} {q : vw_C} (e : clO h a = some c) (hq : vwCl[c]? = some q) (hc : Cond.castable q.1 nm ∈ nWs) (hlk : Cond.classLink mi.1.cls idx nm ∈ Gd) (hd : decode mi.2.1 pc = .ok (.instanceof idx, 3)) (kk : Y l g mi d (pc + 3) lv (.inl 1 :: st) h r) : Y l g mi d pc lv (.inr (.inr (some a)) :: st) h r := by
  obtain ⟨fs, ho⟩ := clO_spec e
  exact kk.pure (fun p e R s m args below meth c H locs cells slots Z ls C hl hR w => va_instY C.1 C.2.1 C.2.2.2.1 (C.2.2.2.2.1 _ (gd_in hlk)) (C.2.2.2.2.2.2.2.2.1.2.1 _ hc) (rcv C.2.2.2.2.2.2.2.2.1 hR hq ho) hd w)
theorem y_instF {a c idx : Nat} {nm : String} {q : vw_C} (e : clO h a = some c) (hq : vwCl[c]? = some q) (hc : (q.1, nm) ∈ ncCs) (hlk : Cond.classLink mi.1.cls idx nm ∈ Gd) (hd : decode mi.2.1 pc = .ok (.instanceof idx, 3)) (kk : Y l g mi d (pc + 3) lv (.inl 0 :: st) h r) : Y l g mi d pc lv (.inr (.inr (some a)) :: st) h r := by
  obtain ⟨fs, ho⟩ := clO_spec e
  exact kk.pure (fun p e R s m args below meth c H locs cells slots Z ls C hl hR w => va_instNo C.1 C.2.1 C.2.2.2.1 (C.2.2.2.2.1 _ (gd_in hlk)) (C.2.2.2.2.2.2.2.2.1.2.2.2 _ hc) (rcv C.2.2.2.2.2.2.2.2.1 hR hq ho) hd w)
theorem y_cast {a c idx : Nat} {nm : String} {q : vw_C} (e : clO h a = some c) (hq : vwCl[c]? = some q) (hc : Cond.castable q.1 nm ∈ nWs) (hlk : Cond.classLink mi.1.cls idx nm ∈ Gd) (hd : decode mi.2.1 pc = .ok (.checkcast idx, 3)) (kk : Y l g mi d (pc + 3) lv (.inr (.inr (some a)) :: st) h r) : Y l g mi d pc lv (.inr (.inr (some a)) :: st) h r := by
  obtain ⟨fs, ho⟩ := clO_spec e
  exact kk.pure (fun p e R s m args below meth c H locs cells slots Z ls C hl hR w => va_castY C.1 C.2.1 C.2.2.2.1 (C.2.2.2.2.1 _ (gd_in hlk)) (C.2.2.2.2.2.2.2.2.1.2.1 _ hc) (rcv C.2.2.2.2.2.2.2.2.1 hR hq ho) hd w)
end YA
