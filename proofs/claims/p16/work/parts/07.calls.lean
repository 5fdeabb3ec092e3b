/-! contracts out of the judgement, and the rules of calls. My own rows. -/
def rOk (ret : Option FieldType) (v : Option aV) : Prop := match v with
  | none => ret = none
  | some (.inl x) => ret = some .int ∨ (ret = some .boolean ∧ (x = 0 ∨ x = 1))
  | some (.inr (.inl _)) => ret = some .long
  | some (.inr (.inr _)) => (∃ n, ret = some (.object n)) ∨ ∃ t, ret = some (.array t)
def Ev (l : Launch) (g : aG) (mi : aM) (d : Nat) (args : List aV) (h : aH) (r : aO) : Prop :=
  Y l g mi d 0 (enW args mi.2.2.1) [] h r ∧ rOk mi.2.2.2 r.1 ∧ (enL args).length ≤ mi.2.2.1
def aPc (g : aG) (args : List aV) (h : aH) : Array Value → State → Prop := va_Pc (args.map tv) (fun U => aKK g U ∧ aRep g U h U.heap)
def aQ (g : aG) (r : aO) : Array Value → State → Outcome → State → Prop := fun _ _ o t => o = .returned (r.1.map tv) ∧ aRep g t r.2 t.heap
def aRm (d : Nat) (h : aH) (r : aO) : Room := { frames := d, cells := r.2.1 - h.1, slots := r.2.2.1 - h.2.1, locals := 64 * d }
theorem aPc_blind (g : aG) (args : List aV) (h : aH) : FrameBlind (aPc g args h) := by
  intro a U gf mk q
  obtain ⟨q1, q2, q3⟩ := q
  exact ⟨q1, aKK.same (s := U) (U := U.calling gf mk a) rfl q2, aRep.moved (u := U) (U := U.calling gf mk a) (Vm.Alike.refl U.vm) q3⟩
set_option maxHeartbeats 1000000 in
theorem Ev.met {l : Launch} {g : aG} {mi : aM} {d : Nat} {args : List aV} {h : aH} {r : aO} (hy : plainName mi.1.cls = true) (E : Ev l g mi d args h r) :
    Met l mi.1 (wsm mi) (aRm d h r) (aPc g args h) (aQ g r) (r.2.1 - h.1) (r.2.2.1 - h.2.1) (fun q => g.2.1 ≤ q) := by
  obtain ⟨hY, hrk, hlen⟩ := E
  refine Met.ofW (cc := mi.2.1) (maxL := mi.2.2.1) (ret := mi.2.2.2) hy rfl ?_
  intro p e s m av below meth c s₁ B hml hv
  obtain ⟨rfl, hKK, hRep⟩ := hv
  have hr := B.returns
  have C : aCx g mi d p (headSpec (wsm mi) (aRm d h r)).room s m (args.map tv).toArray meth c :=
    ⟨B.exec, B.bytes, hml, findClass_of_methodNamed B.named, fun w hw => atoms_spec (ws := wsm mi) B.pre w (List.mem_cons_of_mem _ hw), hr, B.notSynchronized, (fun h => (name_of_methodNamed B.named B.method).1.trans h), hKK, Nat.le_refl _, Nat.le_refl _⟩
  rw [lg_entry_eq]
  have hl0 := lv_entry (args.map tv) (n := mi.2.2.1) (by rw [enL_len]; exact hlen)
  generalize (lg_sl (args.map tv) ++ List.replicate (mi.2.2.1 - (lg_sl (args.map tv)).length) Slot.unset).toArray = ls at hl0 ⊢
  have hl : lh ls mi.2.2.1 (enW args mi.2.2.1) := ⟨hl0.1, hl0.2.1, fun i v hi => hl0.2.2 (i, tv v) (enW_get hi)⟩
  have hlocks := B.notSynchronized
  have hRet : aRet l g mi r p e (headSpec (wsm mi) (aRm d h r)).room s m (args.map tv).toArray below meth c h.1 h.2.1 (MQ below (aQ g r) (args.map tv).toArray s (r.2.1 - h.1) (r.2.2.1 - h.2.1) (fun q => g.2.1 ≤ q)) := by
    intro H locs pc ls2 hR hL hri
    obtain ⟨rv, rh⟩ := r
    have hq : ∀ t : State, t.heap = H → s.WarmedH t.vm → aQ g (rv, rh) (args.map tv).toArray s (.returned (rv.map tv)) t := fun t ht hW => ⟨rfl, by rw [ht]; exact hR.moved hW.alike⟩
    rcases rv with _ | x | x | x
    · exact W.vret B.exec B.bytes (hr.trans hrk) hq hL hri
    · rcases hrk with hk | ⟨hk, hx⟩
      · exact W.iret B.exec B.bytes (hr.trans hk) hq hL hri
      · exact W.zret (ty := .boolean) B.exec B.bytes (hr.trans hk) (by rcases hx with rfl | rfl <;> rfl) hq hL hri
    · exact W.lret B.exec B.bytes (hr.trans hrk) hq hL hri
    · rcases hrk with ⟨n, hk⟩ | ⟨t, hk⟩
      · exact W.aret (rt := .object n) B.exec B.bytes (hr.trans hk) (Or.inl ⟨n, rfl⟩) (by cases x with | none => exact Or.inl rfl | some a => exact Or.inr ⟨a, rfl⟩) hq hL hri
      · exact W.aret (rt := .array t) B.exec B.bytes (hr.trans hk) (Or.inr ⟨t, rfl⟩) (by cases x with | none => exact Or.inl rfl | some a => exact Or.inr ⟨a, rfl⟩) hq hL hri
  have w := hY.2 p e (headSpec (wsm mi) (aRm d h r)).room s m (args.map tv).toArray below meth c C s.heap [] ls h.1 h.2.1 _ hl hRep (fun q hq => by cases hq) (Nat.le_refl _) (Nat.le_refl _) (Nat.le_refl _) (Nat.le_refl _) hRet
  exact W.cs (Nat.sub_self _).symm (Nat.sub_self _).symm w
/-- what the tables say of a callee -/
def mOk (mj : aM) (n : Nat) : Prop := Cond.code mj.1 mj.2.1 mj.2.2.1 mj.2.2.2 ∈ Gd ∧ Cond.initialized mj.1.cls ∈ Gd ∧ plainName mj.1.cls = true ∧ (mj.1.cls ≠ "java/lang/invoke/MethodHandle" ∧ mj.1.cls ≠ "java/lang/invoke/VarHandle" ∧ (parseMethodDescriptor mj.1.desc).map (fun d => d.parameters.length) = some n) ∧ mj.2.2.1 ≤ 40
section YC
variable {l : Launch} {g : aG} {mi mj : aM} {d pc : Nat} {lv : aL} {st : List aV} {h : aH} {r r1 : aO}
/-- behind a call -/
theorem y_back {stk : List aV} {av : List Value} (hb : h.1 ≤ r1.2.1 ∧ h.2.1 ≤ r1.2.2.1) (k : Y l g mi d (pc + 3) lv (r1.1.toList ++ st) r1.2 r)
    (f : ∀ (p : Program) (e : Env) (R : Room) (s : State) (m : MethodId) (args : Array Value) (below : List Frame) (meth : Method) (c : Code) (H : Heap) (locs : List Loc) (cells slots : Nat) (ls : Array Slot), aCx g mi d p R s m args meth c → lh ls mi.2.2.1 lv → aRep g s h H → cells + (r1.2.1 - h.1) ≤ R.cells → slots + (r1.2.2.1 - h.2.1) ≤ R.slots →
      va_Run p l e R s m args below meth c H locs cells slots (r1.2.1 - h.1) (r1.2.2.1 - h.2.1) (F0 m pc ls (stk.map tv)) (st.map tv) (aQ g r1 av.toArray) (fun q => g.2.1 ≤ q)) : Y l g mi d pc lv stk h r := by
  refine ⟨⟨Nat.le_trans hb.1 k.1.1, Nat.le_trans hb.2 k.1.2⟩, fun p e R s m args below meth c C H locs ls n0 s0 Z hl hR hL h1 h2 h3 h4 hZ => ?_⟩
  have b1 := k.1.1
  have b2 := k.1.2
  intro T hT X
  obtain ⟨v, st₀, t, T', L, h0, X', hLf, e1, e2, ⟨hv, hRt⟩, stp⟩ := f p e R s m args below meth c H locs (h.1 - n0) (h.2.1 - s0) ls C hl hR (by omega) (by omega) T hT X
  cases hv
  have ec : h.1 - n0 + (r1.2.1 - h.1) = r1.2.1 - n0 := by omega
  have es : h.2.1 - s0 + (r1.2.2.1 - h.2.1) = r1.2.2.1 - s0 := by omega
  rw [ec, es] at X'
  have hal : s.vm.Alike t.vm := by rw [← e2]; exact X'.warmed.alike
  have hRs : aRep g s r1.2 T'.heap := by rw [e1]; exact hRt.moved hal.symm
  obtain ⟨t2, a1, b3⟩ := k.2 p e R s m args below meth c C T'.heap (locs ++ L) ls n0 s0 Z hl hRs (fun q hq => by
    rcases List.mem_append.mp hq with hq | hq
    · exact hL q hq
    · exact hLf q hq) (Nat.le_trans h1 hb.1) (Nat.le_trans h2 hb.2) h3 h4 hZ T' rfl X'
  refine ⟨t2, stp t2 ?_, b3⟩
  have ev : (r1.1.toList ++ st).map tv = (r1.1.map tv).toList ++ st.map tv := by
    rw [List.map_append]
    cases r1.1 <;> rfl
  rw [ev] at a1
  exact a1
theorem stk_eq {stk st args : List aV} (h : stk = args.reverse ++ st) : stk.map tv = (args.map tv).reverse ++ st.map tv := by
  rw [h, List.map_append, List.map_reverse]
theorem rm_of {R : Room} {maxL : Nat} (h1 : d + 1 ≤ R.frames) (h2 : 64 * (d + 1) ≤ R.locals) (h3 : maxL ≤ 40) : (aRm d h r1).frames + 1 ≤ R.frames ∧ 8 + (maxL + 11) + (aRm d h r1).locals ≤ R.locals := ⟨h1, by show 8 + (maxL + 11) + 64 * d ≤ R.locals; omega⟩
theorem y_callS {idx : Nat} {args stk : List aV} (hd : decode mi.2.1 pc = .ok (.invokestatic idx, 3)) (hlk : Cond.methodLink mi.1.cls idx mj.1 ∈ Gd) (hst : Cond.static mj.1 ∈ Gd) (hm : mOk mj args.length) (E : Ev l g mj d args h r1) (hs : (st.map aw).sum ≤ 8) (hk : stk = args.reverse ++ st) (k : Y l g mi (d + 1) (pc + 3) lv (r1.1.toList ++ st) r1.2 r) : Y l g mi (d + 1) pc lv stk h r := by
  refine y_back (av := args.map tv) E.1.1 k (fun p e R s m ar below meth c H locs cells slots ls C hl hR b1 b2 => ?_)
  have hts := C.2.2.2.2.1
  have cb := callB_of (R := R) (mc := r1.2.1 - h.1) (ms := r1.2.2.1 - h.2.1) (rm := aRm d h r1) args.length hts (wsm_good hm.1) (ws' := Gd) rfl rfl rfl (hts _ (gd_in hm.2.1)) (hts _ (gd_in hlk)) hm.2.2.2.1 (rm_of C.2.2.2.2.2.2.2.2.2.1 C.2.2.2.2.2.2.2.2.2.2 hm.2.2.2.2)
  exact va_runS (As := args.map tv) (rest := st.map tv) ⟨C.1, C.2.1, C.2.2.1, C.2.2.2.1, hts⟩ (E.met hm.2.2.1) ⟨cb, hts _ (gd_in hst)⟩
    ⟨aPc_blind g args h, fun U hU hW => ⟨rfl, C.2.2.2.2.2.2.2.2.1.warm hW, by rw [hU]; exact hR.moved hW.alike⟩⟩ rfl (by rw [List.length_map]) hl.1 (stk_eq hk) (by show 2 * 0 + _ ≤ 8; rw [tv_sum]; omega) hd ⟨b1, b2⟩
theorem y_callV {idx a cx : Nat} {fs : List aV} {q : vw_C} {args stk : List aV} (hd : decode mi.2.1 pc = .ok (.invokevirtual idx, 3)) (hlk : Cond.methodLink mi.1.cls idx mj.1 ∈ Gd) (hin : Cond.instanceMethod mj.1 ∈ Gd) (hse : Cond.selects mj.1.cls mj.1 mj.1 ∈ Gd) (hm : mOk mj args.length) (ho : h.2.2 a = some (.inr (cx, fs))) (hq : vwCl[cx]? = some q) (hqc : q.1 = mj.1.cls) (E : Ev l g mj d (.inr (.inr (some a)) :: args) h r1) (hs : (st.map aw).sum ≤ 8) (hk : stk = args.reverse ++ .inr (.inr (some a)) :: st) (k : Y l g mi (d + 1) (pc + 3) lv (r1.1.toList ++ st) r1.2 r) : Y l g mi (d + 1) pc lv stk h r := by
  refine y_back (av := .ref a :: args.map tv) E.1.1 k (fun p e R s m ar below meth c H locs cells slots ls C hl hR b1 b2 => ?_)
  have hts := C.2.2.2.2.1
  have cb := callB_of (R := R) (mc := r1.2.1 - h.1) (ms := r1.2.2.1 - h.2.1) (rm := aRm d h r1) args.length hts (wsm_good hm.1) (ws' := Gd) rfl rfl rfl (hts _ (gd_in hm.2.1)) (hts _ (gd_in hlk)) hm.2.2.2.1 (rm_of C.2.2.2.2.2.2.2.2.2.1 C.2.2.2.2.2.2.2.2.2.2 hm.2.2.2.2)
  have hrc := rcv C.2.2.2.2.2.2.2.2.1 hR hq ho
  rw [hqc] at hrc
  exact va_runV (C := mj.1.cls) (As := args.map tv) (rest := st.map tv) ⟨C.1, C.2.1, C.2.2.1, C.2.2.2.1, hts⟩ (E.met hm.2.2.1) ⟨cb, hts _ (gd_in hin), hts _ (gd_in hse)⟩
    ⟨aPc_blind g _ h, hrc, fun U hU hW => ⟨rfl, C.2.2.2.2.2.2.2.2.1.warm hW, by rw [hU]; exact hR.moved hW.alike⟩⟩ rfl (by rw [List.length_map]) hl.1 (by show List.map tv stk = _; rw [hk, List.map_append, List.map_reverse]; rfl) (by show 2 * 0 + _ ≤ 8; rw [tv_sum]; omega) hd ⟨b1, b2⟩
theorem y_callI {idx a : Nat} {args stk : List aV} (hd : decode mi.2.1 pc = .ok (.invokespecial idx, 3)) (hlk : Cond.methodLink mi.1.cls idx mj.1 ∈ Gd ∨ ∃ ho, Cond.methodLinkNest mi.1.cls idx mj.1 ho ∈ nWs) (hin : Cond.instanceMethod mj.1 ∈ Gd) (hnm : mj.1.name = "<init>") (hrt : mj.2.2.2 = none) (hm : mOk mj args.length) (E : Ev l g mj d (.inr (.inr (some a)) :: args) h r1) (hs : (st.map aw).sum ≤ 8) (hk : stk = args.reverse ++ .inr (.inr (some a)) :: st) (k : Y l g mi (d + 1) (pc + 3) lv (r1.1.toList ++ st) r1.2 r) : Y l g mi (d + 1) pc lv stk h r := by
  refine y_back (av := .ref a :: args.map tv) E.1.1 k (fun p e R s m ar below meth c H locs cells slots ls C hl hR b1 b2 => ?_)
  have hts := C.2.2.2.2.1
  obtain ⟨my, mc, ml, mr⟩ := mj
  simp only at hrt
  subst hrt
  have hroom := rm_of (h := h) (r1 := r1) C.2.2.2.2.2.2.2.2.2.1 C.2.2.2.2.2.2.2.2.2.2 hm.2.2.2.2
  have hpre : PreS s H (aPc g (.inr (.inr (some a)) :: args) h) (.ref a :: args.map tv) := ⟨aPc_blind g _ h, fun U hU hW => ⟨rfl, C.2.2.2.2.2.2.2.2.1.warm hW, by rw [hU]; exact hR.moved hW.alike⟩⟩
  have hstk : stk.map tv = (args.map tv).reverse ++ .ref a :: st.map tv := by rw [hk, List.map_append, List.map_reverse]; rfl
  rcases hlk with hlk | ⟨ho, hlk⟩
  · have cb := callB_of (R := R) (mc := r1.2.1 - h.1) (ms := r1.2.2.1 - h.2.1) (rm := aRm d h r1) args.length hts (wsm_good (mj := (my, mc, ml, none)) hm.1) (ws' := Gd) rfl rfl rfl (hts _ (gd_in hm.2.1)) (hts _ (gd_in hlk)) hm.2.2.2.1 hroom
    exact va_runI (As := args.map tv) (rest := st.map tv) ⟨C.1, C.2.1, C.2.2.1, C.2.2.2.1, hts⟩ (E.met hm.2.2.1) ⟨cb, hnm, hts _ (gd_in hin)⟩ hpre rfl (by rw [List.length_map]) hl.1 hstk (by show 2 * 0 + _ ≤ 8; rw [tv_sum]; omega) hd ⟨b1, b2⟩
  · have cb := va_cnB (R := R) (mc := r1.2.1 - h.1) (ms := r1.2.2.1 - h.2.1) (rm := aRm d h r1) args.length hts (wsm_good (mj := (my, mc, ml, none)) hm.1) (ws' := Gd) rfl rfl rfl (C.2.2.2.2.2.2.2.2.1.2.1 _ hlk) (hts _ (gd_in hm.2.1)) hm.2.2.2.1 hroom
    exact va_runIN (As := args.map tv) (rest := st.map tv) ⟨C.1, C.2.1, C.2.2.1, C.2.2.2.1, hts⟩ (E.met hm.2.2.1) ⟨cb, hnm, hts _ (gd_in hin)⟩ hpre rfl (by rw [List.length_map]) hl.1 hstk (by show 2 * 0 + _ ≤ 8; rw [tv_sum]; omega) hd ⟨b1, b2⟩
theorem y_obj {idx : Nat} {a : Option Nat} (hd : decode mi.2.1 pc = .ok (.invokespecial idx, 3)) (hlk : Cond.methodLink mi.1.cls idx Lib.objectInit ∈ Gd) (hin : Cond.instanceMethod Lib.objectInit ∈ Gd) (hco : Cond.code Lib.objectInit ⟨#[0xb1]⟩ 1 none ∈ Gd) (ha : a ≠ none) (hs : (st.map aw).sum ≤ 8) (k : Y l g mi (d + 1) (pc + 3) lv st h r) : Y l g mi (d + 1) pc lv (.inr (.inr a) :: st) h r := by
  cases a with
  | none => exact absurd rfl ha
  | some a =>
    refine k.pure (fun p e R s m args below meth c H locs cells slots Z ls C hl hR w => ?_)
    have hts := C.2.2.2.2.1
    have f1 := C.2.2.2.2.2.2.2.2.2.1
    have f2 := C.2.2.2.2.2.2.2.2.2.2
    exact W.objInit C.1 C.2.1 C.2.2.2.1 (hts _ (gd_in hlk)) (hts _ (gd_in hin)) (hts _ (gd_in hco)) rfl (hl.1.trans C.2.2.1.symm) rfl hd (by omega) (by show 2 * 0 + _ + 12 ≤ _; rw [tv_sum]; omega) w
/-- returns -/
theorem y_ret {v : Option aV} (hri : aRi mi.2.1 pc v) (hst : st = v.toList) : Y l g mi d pc lv st h (v, h) := by
  subst hst
  refine ⟨⟨Nat.le_refl _, Nat.le_refl _⟩, fun p e R s m args below meth c C H locs ls n0 s0 Z hl hR hL h1 h2 h3 h4 hZ => ?_⟩
  have w := hZ H locs pc ls hR hL hri
  have e1 : (v.map tv).toList = v.toList.map tv := by cases v <;> rfl
  rw [e1] at w
  exact w
end YC
def obO (h : aH) (a c : Nat) : Option (List aV) := match h.2.2 a with
  | some (.inr (c', fs)) => if c' = c then some fs else none
  | _ => none
theorem obO_spec {h : aH} {a c : Nat} {fs : List aV} (e : obO h a c = some fs) : h.2.2 a = some (.inr (c, fs)) := by
  unfold obO at e
  split at e
  · next c' fs' he =>
    split at e
    · next hc => cases e; rw [← hc]; exact he
    · cases e
  · cases e
/-- the answer of a method that answers true or false -/
def chkB (x : Option (Int32 × aH)) : Option (Int32 × aH) := x.bind fun q => if q.1 = 0 ∨ q.1 = 1 then some q else none
theorem chkB_spec {x : Option (Int32 × aH)} {q : Int32 × aH} (e : chkB x = some q) : x = some q ∧ (q.1 = 0 ∨ q.1 = 1) := by
  unfold chkB at e
  obtain ⟨q', h1, h2⟩ := Option.bind_eq_some_iff.mp e
  split at h2
  · next h3 => cases h2; exact ⟨h1, h3⟩
  · cases h2
theorem bnd {α β : Type} {x : Option α} {f : α → Option β} {q : β} (h : x.bind f = some q) : ∃ a, x = some a ∧ f a = some q := Option.bind_eq_some_iff.mp h
