/-! arraycopy of ints. My own rows. -/
theorem sp_slots (at_ : Nat) : ∀ (xs : List Value) (i : Nat) (cq : Cell), at_ + i + xs.length ≤ cq.slots.size → (cq.storePairs at_ (xs.zipIdx i)).cls = cq.cls ∧ (cq.storePairs at_ (xs.zipIdx i)).vm = cq.vm ∧ (cq.storePairs at_ (xs.zipIdx i)).slots.size = cq.slots.size ∧ ∀ j : Nat, (cq.storePairs at_ (xs.zipIdx i)).slots[j]? = if at_ + i ≤ j ∧ j < at_ + i + xs.length then xs[j - (at_ + i)]? else cq.slots[j]?
  | [], i, cq => fun _ => ⟨rfl, rfl, rfl, fun j => by
    rw [if_neg (by simp only [List.length_nil]; omega)]
    rfl⟩
  | x :: xs, i, cq => fun hs => by
    rw [List.zipIdx_cons]
    simp only [List.length_cons] at hs
    obtain ⟨h1, h2, h3, h4⟩ := sp_slots at_ xs (i + 1) (cq.setSlot (at_ + i) x) (by rw [k2_slotsz]; omega)
    refine ⟨h1.trans rfl, h2.trans rfl, h3.trans (k2_slotsz _ _ _), fun j => ?_⟩
    show ((cq.setSlot (at_ + i) x).storePairs at_ (xs.zipIdx (i + 1))).slots[j]? = _
    rw [h4 j, slot_set (by omega)]
    by_cases hj : j = at_ + i
    · subst hj
      rw [if_neg (by omega), if_pos rfl, if_pos (by simp only [List.length_cons]; omega)]
      simp
    · by_cases hk : at_ + (i + 1) ≤ j ∧ j < at_ + (i + 1) + xs.length
      · rw [if_pos hk, if_pos (by simp only [List.length_cons]; omega)]
        have e : j - (at_ + i) = (j - (at_ + (i + 1))) + 1 := by omega
        rw [e, List.getElem?_cons_succ]
      · rw [if_neg hk, if_neg hj, if_neg (by simp only [List.length_cons]; omega)]
def cpI (h : aH) (s : Nat) (sp : Int32) (t : Nat) (tp : Int32) (n : Int32) : Option aH := match h.2.2 s, h.2.2 t with
  | some (.inl (_, n0, .inl f)), some (.inl (k, n1, .inl f2)) => if k ≠ 9 ∧ ¬ sp < 0 ∧ ¬ tp < 0 ∧ ¬ n < 0 ∧ sp.toNatClampNeg + n.toNatClampNeg ≤ n0 ∧ tp.toNatClampNeg + n.toNatClampNeg ≤ n1 then some (hup h t (.inl (k, n1, .inl (va_cpy f f2 sp.toNatClampNeg tp.toNatClampNeg n.toNatClampNeg)))) else none
  | _, _ => none
theorem cpI_spec {h h1 : aH} {s t : Nat} {sp tp n : Int32} (e : cpI h s sp t tp n = some h1) : ∃ k0 n0 f k n1 f2, h.2.2 s = some (.inl (k0, n0, .inl f)) ∧ h.2.2 t = some (.inl (k, n1, .inl f2)) ∧ (k ≠ 9 ∧ ¬ sp < 0 ∧ ¬ tp < 0 ∧ ¬ n < 0 ∧ sp.toNatClampNeg + n.toNatClampNeg ≤ n0 ∧ tp.toNatClampNeg + n.toNatClampNeg ≤ n1) ∧ h1 = hup h t (.inl (k, n1, .inl (va_cpy f f2 sp.toNatClampNeg tp.toNatClampNeg n.toNatClampNeg))) := by
  unfold cpI at e
  split at e
  · next k0 n0 f k n1 f2 he hb =>
    split at e
    · next hi => cases e; exact ⟨k0, n0, f, k, n1, f2, he, hb, hi, rfl⟩
    · cases e
  · cases e
theorem i32_nn {z : Int32} (hz : ¬ z < 0) : z.toInt = (z.toNatClampNeg : Int) := by
  have hz0 : (0 : Int) ≤ z.toInt := by
    have := Int32.not_lt.mp hz
    simpa using Int32.le_iff_toInt_le.mp this
  show z.toInt = ((z.toInt.toNat : Nat) : Int)
  omega
theorem nfw : nativeFrameWords "java/lang/System" "arraycopy" 5 ≤ 40 := by decide +kernel
theorem y_copy {l : Launch} {g : aG} {mi : aM} {d pc : Nat} {lv : aL} {st : List aV} {h h1 : aH} {r : aO} {idx s0 t0 : Nat} {sp tp n : Int32} (hr : cpI h s0 sp t0 tp n = some h1) (hd : decode mi.2.1 pc = .ok (.invokestatic idx, 3)) (hlk : Cond.methodLink mi.1.cls idx arraycopyName ∈ Gd) (hna : Cond.native arraycopyName ∈ Gd) (hst : Cond.static arraycopyName ∈ Gd) (hin : Cond.initialized "java/lang/System" ∈ Gd) (hs : (st.map aw).sum ≤ 8)
    (kk : Y l g mi (d + 1) (pc + 3) lv st h1 r) : Y l g mi (d + 1) pc lv (.inl n :: .inl tp :: .inr (.inr (some t0)) :: .inl sp :: .inr (.inr (some s0)) :: st) h r := by
  obtain ⟨k0, n0, f, k, n1, f2, ho, hot, ⟨hk9, c1, c2, c3, c4, c5⟩, rfl⟩ := cpI_spec hr
  refine ⟨kk.1, fun p e R s m args below meth c C H locs ls m0 s1 Z hl hR hL h1 h2 h3 h4 hZ => ?_⟩
  obtain ⟨⟨cs, a1, ⟨a2, ka, a3, ca, a4⟩, a5, a6, -, a7⟩, -⟩ := hR.2.2.1 s0 _ ho
  obtain ⟨⟨cd, b1, ⟨b2, kb, b3, cb, b4⟩, b5, b6, b8, b7⟩, hb⟩ := hR.2.2.1 t0 _ hot
  have hb := hb (by simp [roE, hk9])
  have hts := C.2.2.2.2.1
  have f1 := C.2.2.2.2.2.2.2.2.2.1
  have f3 := C.2.2.2.2.2.2.2.2.2.2
  have hval : ∀ i : Nat, i < n.toNatClampNeg → cs.slots.getD (sp.toNatClampNeg + i) .null = .int (f (sp.toNatClampNeg + i)) := fun i hi => by
    rw [Array.getD_eq_getD_getElem?, a7 _ (by omega)]
    rfl
  intro T hT X
  obtain ⟨vm', X', step⟩ := X.arraycopy C.1 C.2.2.2.1 (hts _ (gd_in hlk)) (hts _ (gd_in hna)) (hts _ (gd_in hst)) (hts _ (gd_in hin)) (src := s0) (dst := t0) (cs := cs) (cd := cd) (srcPos := sp) (destPos := tp) (n := n) (by rw [hT]; exact a1) (by rw [hT]; exact b1)
    a2 b2 a5 b5 a3 b3 a4 b4 (by decide) c1 c2 c3
    (by rw [i32_nn c1, i32_nn c3]; omega) (by rw [i32_nn c2, i32_nn c3]; omega)
    (fun vm₁ _ i hi => by
      rw [hval i hi]
      exact ⟨rfl, trivial⟩)
    (g := F0 m pc ls (List.map tv (.inl n :: .inl tp :: .inr (.inr (some t0)) :: .inl sp :: .inr (.inr (some s0)) :: st))) rfl (hl.1.trans C.2.2.1.symm) (rest := st.map tv) rfl (by rw [C.2.1]; exact hd) (by omega) (by show 2 * 0 + _ + _ ≤ _; rw [tv_sum]; have := nfw; omega)
  have hstr : cs.stretch sp.toNatClampNeg n.toNatClampNeg = (List.range n.toNatClampNeg).map (fun i => Value.int (f (sp.toNatClampNeg + i))) := by
    unfold Cell.stretch
    apply List.map_congr_left
    intro i hi
    exact hval i (List.mem_range.mp hi)
  have hlt : t0 < T.heap.size := by rw [hT]; exact (Array.getElem?_eq_some_iff.mp b1).1
  have hz : ((T.setVm vm').setCell t0 (copied cs cd sp tp n)).heap.size = H.size := by rw [size_setCell, ← hT]; rfl
  have oq : ∀ q : Nat, q ≠ t0 → ((T.setVm vm').setCell t0 (copied cs cd sp tp n)).heap[q]? = H[q]? := fun q hq => by rw [heapAt_setCell_ne _ (Ne.symm hq), ← hT]; rfl
  have hself : ((T.setVm vm').setCell t0 (copied cs cd sp tp n)).heap[t0]? = some (copied cs cd sp tp n) := heapAt_setCell_self _ (show t0 < (T.setVm vm').heap.size from hlt)
  obtain ⟨g1, g2, g3, g4⟩ := sp_slots tp.toNatClampNeg (cs.stretch sp.toNatClampNeg n.toNatClampNeg) 0 cd (by rw [hstr, List.length_map, List.length_range]; omega)
  have hRn : aRep g s (hup h t0 (.inl (k, n1, .inl (va_cpy f f2 sp.toNatClampNeg tp.toNatClampNeg n.toNatClampNeg)))) ((T.setVm vm').setCell t0 (copied cs cd sp tp n)).heap := by
    refine hR.put hz oq hb ⟨_, hself, ⟨fun z hz => b2 z (g2.symm.trans hz), kb, by show s.vm.classes[(cd.storePairs _ _).cls]? = _; rw [g1]; exact b3, cb, b4⟩, fun z => b5 (g2.symm.trans z), Nat.le_trans b6 (Nat.le_of_eq g3.symm), (congrArg Nat.toInt32 g3).trans b8, fun j hj => ?_⟩
    refine (g4 j).trans ?_
    rw [hstr, List.length_map, List.length_range, Nat.add_zero]
    by_cases hjj : tp.toNatClampNeg ≤ j ∧ j < tp.toNatClampNeg + n.toNatClampNeg
    · rw [if_pos hjj, va_cpy, if_pos hjj, List.getElem?_map, List.getElem?_range (by omega)]
      rfl
    · rw [if_neg hjj, va_cpy, if_neg hjj]
      exact b7 j hj
  obtain ⟨t, z1, z2⟩ := kk.2 p e R s m args below meth c C _ (locs ++ (cs.stretch sp.toNatClampNeg n.toNatClampNeg).zipIdx.map fun q => ⟨t0, tp.toNatClampNeg + q.2⟩) ls m0 s1 Z hl hRn (fun z hz => by
    rcases List.mem_append.mp hz with hz | hz
    · exact hL z hz
    · obtain ⟨y, -, hy⟩ := List.mem_map.mp hz
      rw [← hy]; exact hb) h1 h2 h3 h4 hZ _ rfl X'
  exact ⟨t, step t z1, z2⟩
theorem y_min {l : Launch} {g : aG} {mi : aM} {d pc : Nat} {lv : aL} {st : List aV} {h : aH} {r : aO} {idx : Nat} {x y : Int32} (hd : decode mi.2.1 pc = .ok (.invokestatic idx, 3)) (hlk : Cond.methodLink mi.1.cls idx Lib.Math.min.name ∈ Gd) (hst : Cond.static Lib.Math.min.name ∈ Gd) (hin : Cond.initialized "java/lang/Math" ∈ Gd) (hco : Cond.code Lib.Math.min.name Lib.Math.min.code 2 (some .int) ∈ Gd) (hs : (st.map aw).sum ≤ 8)
    (k : Y l g mi (d + 1) (pc + 3) lv (.inl (if y < x then y else x) :: st) h r) : Y l g mi (d + 1) pc lv (.inl y :: .inl x :: st) h r :=
  ⟨k.1, fun p e R s m args below meth c C H locs ls n0 s0 Z hl hR hL h1 h2 h3 h4 hZ => by
    have hts := C.2.2.2.2.1
    have f1 := C.2.2.2.2.2.2.2.2.2.1
    have f2 := C.2.2.2.2.2.2.2.2.2.2
    have b1 := k.1.1
    have b2 := k.1.2
    exact va_mmin C.1 C.2.1 (C.2.2.1.trans hl.1.symm) C.2.2.2.1 (hts _ (gd_in hlk)) (hts _ (gd_in hst)) (hts _ (gd_in hin)) (hts _ (gd_in hco)) (by omega) (by rw [tv_sum]; omega) (by omega) (by omega) hd (k.2 p e R s m args below meth c C H locs ls n0 s0 Z hl hR hL h1 h2 h3 h4 hZ)⟩
