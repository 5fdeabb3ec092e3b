/-! rules of the heap. My own rows. -/
def rdF (h : aH) (a : Nat) (cs : List Nat) (k : Nat) : Option aV := match h.2.2 a with
  | some (.inr (c, fs)) => if c ∈ cs then fs[k]? else none
  | _ => none
def rdI (h : aH) (a : Nat) (cs : List Nat) (k : Nat) : Option Int32 := match rdF h a cs k with
  | some (.inl x) => some x
  | _ => none
def rdJ (h : aH) (a : Nat) (cs : List Nat) (k : Nat) : Option Int64 := match rdF h a cs k with
  | some (.inr (.inl x)) => some x
  | _ => none
def rdR (h : aH) (a : Nat) (cs : List Nat) (k : Nat) : Option (Option Nat) := match rdF h a cs k with
  | some (.inr (.inr x)) => some x
  | _ => none
def wrF (h : aH) (a : Nat) (cs : List Nat) (k : Nat) (v : aV) : Option aH := match h.2.2 a with
  | some (.inr (c, fs)) => if c ∈ cs then some (hup h a (.inr (c, fs.set k v))) else none
  | _ => none
def ixo (i : Int32) (n : Nat) : Prop := ¬ i < 0 ∧ i.toNatClampNeg < n
def arI (h : aH) (a : Nat) (i : Int32) : Option Int32 := match h.2.2 a with
  | some (.inl (_, n, .inl f)) => if ¬ i < 0 ∧ i.toNatClampNeg < n then some (f i.toNatClampNeg) else none
  | _ => none
def arJ (h : aH) (a : Nat) (i : Int32) : Option Int64 := match h.2.2 a with
  | some (.inl (_, n, .inr (.inl f))) => if ¬ i < 0 ∧ i.toNatClampNeg < n then some (f i.toNatClampNeg) else none
  | _ => none
def arR (h : aH) (a : Nat) (i : Int32) : Option (Option Nat) := match h.2.2 a with
  | some (.inl (_, n, .inr (.inr f))) => if ¬ i < 0 ∧ i.toNatClampNeg < n then some (f i.toNatClampNeg) else none
  | _ => none
def arN (h : aH) (a : Nat) : Option Int32 := match h.2.2 a with
  | some (.inl (_, n, _)) => some (Int32.ofNat n)
  | _ => none
def awI (h : aH) (a : Nat) (i : Int32) (x : Int32) : Option aH := match h.2.2 a with
  | some (.inl (t, n, .inl f)) => if t ≠ 9 ∧ ¬ i < 0 ∧ i.toNatClampNeg < n then some (hup h a (.inl (t, n, .inl (va_up f i.toNatClampNeg x)))) else none
  | _ => none
def awJ (h : aH) (a : Nat) (i : Int32) (x : Int64) : Option aH := match h.2.2 a with
  | some (.inl (t, n, .inr (.inl f))) => if t ≠ 9 ∧ ¬ i < 0 ∧ i.toNatClampNeg < n then some (hup h a (.inl (t, n, .inr (.inl (va_up f i.toNatClampNeg x))))) else none
  | _ => none
/-- storing an object of one of the classes cs into an array of kind t -/
def awR (h : aH) (a : Nat) (i : Int32) (t : Nat) (cs : List Nat) (b : Nat) : Option aH := match h.2.2 a, h.2.2 b with
  | some (.inl (t', n, .inr (.inr f))), some (.inr (c, _)) => if t' = t ∧ t ≠ 9 ∧ c ∈ cs ∧ ¬ i < 0 ∧ i.toNatClampNeg < n then some (hup h a (.inl (t, n, .inr (.inr (va_up f i.toNatClampNeg (some b)))))) else none
  | _, _ => none
def clO (h : aH) (a : Nat) : Option Nat := match h.2.2 a with
  | some (.inr (c, _)) => some c
  | _ => none
def FL (own : String) (idx c k : Nat) : Prop := ∃ (q : vw_C) (ref : String), vwCl[c]? = some q ∧ k < q.2.2 ∧ Cond.fieldLink own idx ref (q.2.1 k).2.1 (q.2.1 k).2.2.1 ∈ Gd ∧ (ref = (q.2.1 k).1 ∨ Cond.sameField ref (q.2.1 k).1 (q.2.1 k).2.1 (q.2.1 k).2.2.1 ∈ Gd)
theorem rdF_spec {h : aH} {a : Nat} {cs : List Nat} {k : Nat} {v : aV} (e : rdF h a cs k = some v) : ∃ c fs, h.2.2 a = some (.inr (c, fs)) ∧ c ∈ cs ∧ fs[k]? = some v := by
  unfold rdF at e
  split at e
  · next c fs he =>
    split at e
    · next hc => exact ⟨c, fs, he, hc, e⟩
    · cases e
  · cases e
theorem rdI_spec {h : aH} {a : Nat} {cs : List Nat} {k : Nat} {x : Int32} (e : rdI h a cs k = some x) : rdF h a cs k = some (.inl x) := by
  unfold rdI at e
  split at e
  · next y he => cases e; exact he
  · cases e
theorem rdJ_spec {h : aH} {a : Nat} {cs : List Nat} {k : Nat} {x : Int64} (e : rdJ h a cs k = some x) : rdF h a cs k = some (.inr (.inl x)) := by
  unfold rdJ at e
  split at e
  · next y he => cases e; exact he
  · cases e
theorem rdR_spec {h : aH} {a : Nat} {cs : List Nat} {k : Nat} {x : Option Nat} (e : rdR h a cs k = some x) : rdF h a cs k = some (.inr (.inr x)) := by
  unfold rdR at e
  split at e
  · next y he => cases e; exact he
  · cases e
section YH
variable {l : Launch} {g : aG} {mi : aM} {d pc : Nat} {lv : aL} {st : List aV} {h : aH} {r : aO}
theorem y_getF {a idx k : Nat} {cs : List Nat} {v : aV} (hr : rdF h a cs k = some v) (hfl : ∀ c ∈ cs, FL mi.1.cls idx c k) (hd : decode mi.2.1 pc = .ok (.getfield idx, 3)) (kk : Y l g mi d (pc + 3) lv (v :: st) h r) : Y l g mi d pc lv (.inr (.inr (some a)) :: st) h r := by
  obtain ⟨c, fs, ho, hc, hv⟩ := rdF_spec hr
  obtain ⟨q, ref, hq, hk, hlk, hsm⟩ := hfl c hc
  refine kk.pure (fun p e R s m args below meth cd H locs cells slots Z ls C hl hR w => ?_)
  obtain ⟨⟨q', hq', hlen, hob⟩, -⟩ := hR.2.2.1 a _ ho
  cases hq.symm.trans hq'
  have hts := C.2.2.2.2.1
  have hP : va_P g.1 vwCl [(a, .inr (c, fs.map tv))] H := fun i z hz => by
    have hi := (List.getElem?_eq_some_iff.mp hz).1
    have e0 : i = 0 := by simpa using hi
    subst e0
    cases hz
    exact ⟨q, hq, hob⟩
  have hK : va_K g.1 vwCl [] s := ⟨C.2.2.2.2.2.2.2.2.1.1, fun i z hz => by simp at hz⟩
  exact va_get (D := g.1) (cl := vwCl) (tys := []) (C := q.1) (T := q.2.1) (N := q.2.2) (ci := c) C.1 C.2.1 hts (fun z hz => gd_in ((cls_ok hq).1 z hz)) C.2.2.2.1 hK hP 0 rfl hq k hk (hts _ (gd_in hlk))
    (fun x hx => by
      rcases hsm with rfl | hsm
      · exact hx
      · exact u_same (hts _ (gd_in hsm)) x hx) (v := tv v) (by rw [List.getElem?_map, hv]; rfl) hd w
theorem y_getI {a idx k : Nat} {cs : List Nat} {x : Int32} (hr : rdI h a cs k = some x) (hfl : ∀ c ∈ cs, FL mi.1.cls idx c k) (hd : decode mi.2.1 pc = .ok (.getfield idx, 3)) (kk : Y l g mi d (pc + 3) lv (.inl x :: st) h r) : Y l g mi d pc lv (.inr (.inr (some a)) :: st) h r := y_getF (rdI_spec hr) hfl hd kk
theorem y_getJ {a idx k : Nat} {cs : List Nat} {x : Int64} (hr : rdJ h a cs k = some x) (hfl : ∀ c ∈ cs, FL mi.1.cls idx c k) (hd : decode mi.2.1 pc = .ok (.getfield idx, 3)) (kk : Y l g mi d (pc + 3) lv (.inr (.inl x) :: st) h r) : Y l g mi d pc lv (.inr (.inr (some a)) :: st) h r := y_getF (rdJ_spec hr) hfl hd kk
theorem y_getR {a idx k : Nat} {cs : List Nat} {x : Option Nat} (hr : rdR h a cs k = some x) (hfl : ∀ c ∈ cs, FL mi.1.cls idx c k) (hd : decode mi.2.1 pc = .ok (.getfield idx, 3)) (kk : Y l g mi d (pc + 3) lv (.inr (.inr x) :: st) h r) : Y l g mi d pc lv (.inr (.inr (some a)) :: st) h r := y_getF (rdR_spec hr) hfl hd kk
/-- the type of field k suits the value: as a row of the field's descriptor -/
def FT (c k : Nat) (v : aV) : Prop := ∃ (q : vw_C) (ty : FieldType), vwCl[c]? = some q ∧ parseFieldDescriptor (q.2.1 k).2.2.1 = some ty ∧ narrow ty (tv v) = tv v ∧ fits ty (tv v) = true
theorem ft_int {c k : Nat} {q : vw_C} {x : Int32} (hq : vwCl[c]? = some q) (hd : parseFieldDescriptor (q.2.1 k).2.2.1 = some .int) : FT c k (.inl x) := ⟨q, .int, hq, hd, rfl, rfl⟩
theorem ft_long {c k : Nat} {q : vw_C} {x : Int64} (hq : vwCl[c]? = some q) (hd : parseFieldDescriptor (q.2.1 k).2.2.1 = some .long) : FT c k (.inr (.inl x)) := ⟨q, .long, hq, hd, rfl, rfl⟩
theorem ft_obj {c k : Nat} {q : vw_C} {n : String} {x : Option Nat} (hq : vwCl[c]? = some q) (hd : parseFieldDescriptor (q.2.1 k).2.2.1 = some (.object n)) : FT c k (.inr (.inr x)) := ⟨q, .object n, hq, hd, by cases x <;> rfl, by cases x <;> rfl⟩
theorem ft_arr {c k : Nat} {q : vw_C} {n : FieldType} {x : Option Nat} (hq : vwCl[c]? = some q) (hd : parseFieldDescriptor (q.2.1 k).2.2.1 = some (.array n)) : FT c k (.inr (.inr x)) := ⟨q, .array n, hq, hd, by cases x <;> rfl, by cases x <;> rfl⟩
theorem ft_bool {c k : Nat} {q : vw_C} {x : Int32} (hq : vwCl[c]? = some q) (hx : x = 0 ∨ x = 1) (hd : parseFieldDescriptor (q.2.1 k).2.2.1 = some .boolean) : FT c k (.inl x) := ⟨q, .boolean, hq, hd, by rcases hx with rfl | rfl <;> rfl, by rcases hx with rfl | rfl <;> rfl⟩
theorem wrF_spec {h h1 : aH} {a : Nat} {cs : List Nat} {k : Nat} {v : aV} (e : wrF h a cs k v = some h1) : ∃ c fs, h.2.2 a = some (.inr (c, fs)) ∧ c ∈ cs ∧ h1 = hup h a (.inr (c, fs.set k v)) := by
  unfold wrF at e
  split at e
  · next c fs he =>
    split at e
    · next hc => cases e; exact ⟨c, fs, he, hc, rfl⟩
    · cases e
  · cases e
/-- a field that is final is written in its class's own constructor -/
def FW (mi : aM) (c k : Nat) : Prop := ∃ q : vw_C, vwCl[c]? = some q ∧ ((q.2.1 k).2.2.2 = false ∨ ((q.2.1 k).2.2.2 = true ∧ mi.1.name = "<init>" ∧ (q.2.1 k).1 = mi.1.cls))
theorem y_put {a idx k : Nat} {cs : List Nat} {v : aV} {h1 : aH} (hr : wrF h a cs k v = some h1) (hfl : ∀ c ∈ cs, FL mi.1.cls idx c k ∧ FT c k v ∧ FW mi c k) (hd : decode mi.2.1 pc = .ok (.putfield idx, 3)) (kk : Y l g mi d (pc + 3) lv st h1 r) : Y l g mi d pc lv (v :: .inr (.inr (some a)) :: st) h r := by
  obtain ⟨c, fs, ho, hc, rfl⟩ := wrF_spec hr
  obtain ⟨⟨q, ref, hq, hk, hlk, hsm⟩, ⟨q2, ty, hq2, hty, hnar, hfit⟩, ⟨q3, hq3, hfin⟩⟩ := hfl c hc
  cases hq.symm.trans hq2
  cases hq.symm.trans hq3
  refine ⟨kk.1, fun p e R s m args below meth cd C H locs ls n0 s0 Z hl hR hL h1 h2 h3 h4 hZ => ?_⟩
  obtain ⟨⟨q', hq', hlen, cell, g1, g2, g3, g4⟩, hbase⟩ := hR.2.2.1 a _ ho
  cases hq.symm.trans hq'
  have hts := C.2.2.2.2.1
  obtain ⟨hin, ⟨ty0, hty0⟩, hnm⟩ := cls_ok hq
  have hin2 : ∀ z ∈ u_ws q.1 q.2.1 q.2.2, z ∈ Gd := fun z hz => gd_in (hin z hz)
  have hK : va_K g.1 vwCl [] s := ⟨C.2.2.2.2.2.2.2.2.1.1, fun i z hz => by simp at hz⟩
  have hap := va_apart (own := mi.1.cls) (C := q.1) (T := q.2.1) (N := q.2.2) hts hin2 ty0 hty0 hnm hK hq
  obtain ⟨hS, hfc, kC, hkC, hkind⟩ := hK.1 c _ hq
  obtain ⟨cf, kf, fi, f, hi, hsl⟩ := hS k hk
  have hi2 : s.fieldFound? ref (q.2.1 k).2.1 (q.2.1 k).2.2.1 = some (cf, kf, fi, f) := by
    rcases hsm with rfl | hsm
    · exact hi
    · exact u_same (hts _ (gd_in hsm)) _ hi
  have hst := (u_facts hfc hkC (u_lays hts hin2 hk) hi).1
  have fin : ∀ H' : Heap, H'[a]? = some (cell.setSlot f.slot (tv v)) → H'.size = H.size → (∀ q : Nat, q ≠ a → H'[q]? = H[q]?) → W p l e R s m args below meth cd H' (locs ++ [⟨a, f.slot⟩]) (h.1 - n0) (h.2.1 - s0) Z (F0 m (pc + 3) ls (st.map tv)) := by
    intro H' e1 e2 e3
    have hRn : aRep g s (hup h a (.inr (c, fs.set k v))) H' := by
      refine hR.put e2 e3 (hbase rfl) ⟨q, hq, by rw [List.length_set]; exact hlen, ?_⟩
      have hkl : k < (fs.map tv).length := by rw [List.length_map, hlen]; exact hk
      rw [hsl] at e1
      refine t_OB.to (V := updV (vp_V (fs.map tv)) k (tv v)) ⟨_, e1, g2, g3, t_set g4 hap hk (tv v)⟩ (fun j _ => ?_)
      rw [vp_updV_set hkl (tv v) j, List.map_set]
    exact kk.2 p e R s m args below meth cd C H' _ ls n0 s0 Z hl hRn (fun z hz => by
      rcases List.mem_append.mp hz with hz | hz
      · exact hL z hz
      · rw [List.mem_singleton.mp hz]; exact hbase rfl) h1 h2 h3 h4 hZ
  rcases hfin with hfin | ⟨hfin, hini, hdecl⟩
  · have hlay := hts _ (hin2 _ (u_in_lay hk))
    unfold u_lay at hlay
    rw [if_neg (by rw [hfin]; decide)] at hlay
    have h6 := u_store hfc hkC hkind hlay hi hty hnar hfit
    exact W.putK C.1 C.2.1 (f := f) ⟨C.2.2.2.1, hts _ (gd_in hlk), ⟨_, _, _, hi2⟩, hst⟩ (by rw [g2]; exact h6) g1 g3 (by rw [hsl]; exact k2_hasslot (g4 k hk)) rfl rfl hd fin
  · have hlay := hts _ (hin2 _ (u_in_lay hk))
    unfold u_lay at hlay
    rw [if_pos hfin] at hlay
    have hcf : m.cls = cf := by
      obtain ⟨_, _, c', _, _, _, -, -, hf', -, -, -, hown2, -⟩ := Cond.laysFinal_spec hlay
      have e1 : c' = cf := by have := hi.symm.trans hf'; simp at this; exact this.1.symm
      rw [hdecl] at hown2
      rw [← e1]; exact Option.some.inj (C.2.2.2.1.symm.trans hown2)
    have h6 := u_fits hfc hkC hkind (Or.inr hlay) hi hty hnar hfit
    exact W.putFinK C.1 C.2.1 C.2.2.2.1 (hts _ (gd_in hlk)) hi2 hst hcf (C.2.2.2.2.2.2.2.1 hini) (by rw [g2]; exact h6) g1 g3 (by rw [hsl]; exact k2_hasslot (g4 k hk)) rfl rfl hd fin
end YH
