
/-! heap -/
abbrev aE : Type := (Nat × Nat × ((Nat → Int32) ⊕ (Nat → Int64) ⊕ (Nat → Option Nat))) ⊕ (Nat × List aV)
abbrev aH : Type := Nat × Nat × (Nat → Option aE)
abbrev aG : Type := va_G × Nat × (Nat → Nat)
abbrev aM : Type := MethodName × ByteArray × Nat × Option FieldType
def hup (h : aH) (a : Nat) (e : aE) : aH := (h.1, h.2.1, fun x => if x = a then some e else h.2.2 x)
def hnew (h : aH) (n : Nat) (e : aE) : aH := (h.1 + 1, h.2.1 + n, fun x => if x = h.1 then some e else h.2.2 x)
def aR (g : aG) (U : State) (e : aE) (a : Nat) (H : Heap) : Prop := match e with
  | .inl (_, n, .inl f) => ∃ cell : Cell, H[a]? = some cell ∧ U.isArrayOf cell .int ∧ cell.vm ≠ .unknown ∧ n ≤ cell.slots.size ∧ cell.slots.size.toInt32 = Int32.ofNat n ∧ ∀ j : Nat, j < n → cell.slots[j]? = some (.int (f j))
  | .inl (_, n, .inr (.inl f)) => ∃ cell : Cell, H[a]? = some cell ∧ U.isArrayOf cell .long ∧ cell.vm ≠ .unknown ∧ cell.slots.size = n ∧ ∀ j : Nat, j < n → cell.slots[j]? = some (.long (f j))
  | .inl (t, n, .inr (.inr f)) => ∃ cell : Cell, H[a]? = some cell ∧ (∀ q, cell.vm ≠ .statics q) ∧ cell.vm ≠ .unknown ∧ (∃ (k : Class) (comp : ClassId), U.vm.classes[cell.cls]? = some k ∧ k.kind = .array comp (.object (arC t)) ∧ U.vm.findClass (arC t) = some comp) ∧ cell.slots.size = n ∧ ∀ j : Nat, j < n → cell.slots[j]? = some (va_rf (f j))
  | .inr (c, fs) => ∃ q : vw_C, vwCl[c]? = some q ∧ fs.length = q.2.2 ∧ t_OB a (g.1.1 c) q.2.2 (g.1.2 c) H (vp_V (fs.map tv))
theorem aR.kept {g : aG} {U : State} {e : aE} {a : Nat} {H H1 : Heap} (h : aR g U e a H) (hq : H1[a]? = H[a]?) : aR g U e a H1 := by
  rcases e with ⟨t, n, f | f | f⟩ | ⟨c, fs⟩
  · obtain ⟨cell, h1, h2⟩ := h; exact ⟨cell, hq.trans h1, h2⟩
  · obtain ⟨cell, h1, h2⟩ := h; exact ⟨cell, hq.trans h1, h2⟩
  · obtain ⟨cell, h1, h2⟩ := h; exact ⟨cell, hq.trans h1, h2⟩
  · obtain ⟨q, h1, h2, h3⟩ := h; exact ⟨q, h1, h2, h3.kept hq⟩
theorem aR.moved {g : aG} {u U : State} {e : aE} {a : Nat} {H : Heap} (hvm : u.vm.Alike U.vm) (h : aR g u e a H) : aR g U e a H := by
  rcases e with ⟨t, n, f | f | f⟩ | ⟨c, fs⟩
  · obtain ⟨cell, h1, h2, h3⟩ := h; exact ⟨cell, h1, State.isArrayOf_alike hvm h2, h3⟩
  · obtain ⟨cell, h1, h2, h3⟩ := h; exact ⟨cell, h1, State.isArrayOf_alike hvm h2, h3⟩
  · obtain ⟨cell, h1, h2, h3, ⟨k, comp, h4, h5, h6⟩, h7⟩ := h
    obtain ⟨k', hk', he⟩ := hvm.2.2 _ _ h4
    exact ⟨cell, h1, h2, h3, ⟨k', comp, hk', by rw [he]; exact h5, by rw [hvm.findClass]; exact h6⟩, h7⟩
  · exact h
theorem aR.lt {g : aG} {U : State} {e : aE} {a : Nat} {H : Heap} (h : aR g U e a H) : a < H.size := by
  rcases e with ⟨t, n, f | f | f⟩ | ⟨c, fs⟩
  · obtain ⟨cell, h1, h2⟩ := h; exact (Array.getElem?_eq_some_iff.mp h1).1
  · obtain ⟨cell, h1, h2⟩ := h; exact (Array.getElem?_eq_some_iff.mp h1).1
  · obtain ⟨cell, h1, h2⟩ := h; exact (Array.getElem?_eq_some_iff.mp h1).1
  · obtain ⟨q, h1, h2, cell, h3, -⟩ := h; exact (Array.getElem?_eq_some_iff.mp h3).1
/-- the statics, below the base -/
def aZ (g : aG) (U : State) (H : Heap) : Prop := ∀ (i : Nat) (q : String × String × String), stL[i]? = some q → va_Z q.1 q.2.1 q.2.2 (.ref (g.2.2 i)) (fun x => g.2.1 ≤ x) U H
def roE (e : aE) : Bool := match e with
  | .inl (t, _) => t == 9
  | _ => false
def aRep (g : aG) (U : State) (h : aH) (H : Heap) : Prop := H.size = h.1 ∧ g.2.1 ≤ h.1 ∧ (∀ (a : Nat) (e : aE), h.2.2 a = some e → aR g U e a H ∧ (roE e = false → g.2.1 ≤ a)) ∧ aZ g U H
theorem aRep.moved {g : aG} {u U : State} {h : aH} {H : Heap} (hvm : u.vm.Alike U.vm) (k : aRep g u h H) : aRep g U h H :=
  ⟨k.1, k.2.1, fun a e he => ⟨(k.2.2.1 a e he).1.moved hvm, (k.2.2.1 a e he).2⟩, fun i q hq => (k.2.2.2 i q hq).moved hvm⟩
theorem aRep.put {g : aG} {U : State} {h : aH} {H H1 : Heap} {a : Nat} {e : aE} (k : aRep g U h H) (hz : H1.size = H.size) (ho : ∀ q : Nat, q ≠ a → H1[q]? = H[q]?) (hb : g.2.1 ≤ a) (he : aR g U e a H1) : aRep g U (hup h a e) H1 := by
  refine ⟨hz.trans k.1, k.2.1, fun b e2 h2 => ?_, fun i q hq => (k.2.2.2 i q hq).kept (fun x _ hx => ho x (fun z => hx (by rw [z]; exact hb)))⟩
  by_cases hba : b = a
  · subst hba
    simp [hup] at h2
    subst h2
    exact ⟨he, fun _ => hb⟩
  · simp [hup, hba] at h2
    exact ⟨(k.2.2.1 b e2 h2).1.kept (ho b hba), (k.2.2.1 b e2 h2).2⟩
theorem aRep.new {g : aG} {U : State} {h : aH} {H H1 : Heap} {n : Nat} {e : aE} (k : aRep g U h H) (hz : H1.size = H.size + 1) (ho : ∀ q : Nat, q < H.size → H1[q]? = H[q]?) (he : aR g U e H.size H1) : aRep g U (hnew h n e) H1 := by
  refine ⟨by rw [hz, k.1]; rfl, Nat.le_trans k.2.1 (Nat.le_succ _), fun b e2 h2 => ?_, fun i q hq => (k.2.2.2 i q hq).kept (fun x hx _ => ho x hx)⟩
  by_cases hba : b = h.1
  · subst hba
    simp [hnew] at h2
    subst h2
    exact ⟨by rw [← k.1]; exact he, fun _ => k.2.1⟩
  · simp [hnew, hba] at h2
    have h3 := k.2.2.1 b e2 h2
    exact ⟨h3.1.kept (ho b h3.1.lt), h3.2⟩
/-- what the tables say -/
def aKK (g : aG) (U : State) : Prop := (∀ (c : Nat) (q : vw_C), vwCl[c]? = some q → u_Kn U q.1 q.2.1 q.2.2 (g.1.1 c) (g.1.2 c)) ∧ (∀ w ∈ nWs, va_Nw w U) ∧ (∀ C ∈ aoCs, va_AO C U) ∧ ∀ q ∈ ncCs, va_Nc q.1 q.2 U
theorem nWs_ok : ∀ w ∈ nWs, w.onTables = true := by decide +kernel
theorem nWs_kind : ∀ w ∈ nWs, (∃ a i b n d h, w = .fieldLinkNest a i b n d h) ∨ (∃ a i x h, w = .methodLinkNest a i x h) ∨ ∃ C T, w = .castable C T := by
  intro w hw
  simp only [nWs, List.mem_cons, List.not_mem_nil, or_false] at hw
  rcases hw with rfl | rfl | rfl | rfl | rfl | rfl <;> first | exact Or.inl ⟨_, _, _, _, _, _, rfl⟩ | exact Or.inr (Or.inl ⟨_, _, _, _, rfl⟩) | exact Or.inr (Or.inr ⟨_, _, rfl⟩)
theorem aKK.warm {g : aG} {s U : State} (hW : s.WarmedH U.vm) (h : aKK g s) : aKK g U := by
  refine ⟨fun c q hq => u_Kn_moved hW.alike (h.1 c q hq), fun w hw => ?_, fun C hC => (h.2.2.1 C hC).moved hW.alike, fun q hq => (h.2.2.2 q hq).moved hW.alike⟩
  have h1 := h.2.1 w hw
  rcases nWs_kind w hw with ⟨a, i, b, n, d, k, rfl⟩ | ⟨a, i, x, k, rfl⟩ | ⟨C, T, rfl⟩
  · exact va_Nw.warmF hW h1
  · exact va_Nw.warmM hW h1
  · exact va_Nw.warmC hW h1
theorem aKK.same {g : aG} {s U : State} (hv : s.vm = U.vm) (h : aKK g s) : aKK g U := by
  have ha : s.vm.Alike U.vm := by rw [hv]; exact Vm.Alike.refl _
  exact ⟨fun c q hq => u_Kn_moved ha (h.1 c q hq), fun w hw => va_Nw.same (nWs_ok w hw) hv (h.2.1 w hw), fun C hC => (h.2.2.1 C hC).moved ha, fun q hq => (h.2.2.2 q hq).moved ha⟩
/-! the judgement -/
def wsm (mi : aM) : List Cond := .code mi.1 mi.2.1 mi.2.2.1 mi.2.2.2 :: Gd
theorem gd_in {w : Cond} (h : w ∈ Gd) : w ∈ Gd := h
theorem wsm_good {mj : aM} (h : Cond.code mj.1 mj.2.1 mj.2.2.1 mj.2.2.2 ∈ Gd) : GoodIn Gd (wsm mj) := by
  intro w hw
  have h1 : w ∈ Gd := by
    rcases List.mem_cons.mp hw with rfl | h2
    · exact h
    · exact h2
  exact ⟨gd_in h1, good_of_word (List.mem_filter.mp h1).2⟩
def aCx (g : aG) (mi : aM) (d : Nat) (p : Program) (R : Room) (s : State) (m : MethodId) (args : Array Value) (meth : Method) (c : Code) : Prop :=
  p.tables.exec = Jvm.exec ∧ c.code = mi.2.1 ∧ c.maxLocals = mi.2.2.1 ∧ s.vm.findClass mi.1.cls = some m.cls ∧ (∀ w ∈ Gd, w.before args s = true) ∧ meth.sig.returnType = mi.2.2.2 ∧ meth.locks = false ∧ (mi.1.name = "<init>" → meth.name = "<init>") ∧ aKK g s ∧ d ≤ R.frames ∧ 64 * d ≤ R.locals
abbrev aO : Type := Option aV × aH
def aRi (cc : ByteArray) (pc : Nat) (v : Option aV) : Prop := match v with
  | none => decode cc pc = .ok (.return_, 1)
  | some (.inl _) => decode cc pc = .ok (.ireturn, 1)
  | some (.inr (.inl _)) => decode cc pc = .ok (.lreturn, 1)
  | some (.inr (.inr _)) => decode cc pc = .ok (.areturn, 1)
def aRet (l : Launch) (g : aG) (mi : aM) (r : aO) (p : Program) (e : Env) (R : Room) (s : State) (m : MethodId) (args : Array Value) (below : List Frame) (meth : Method) (c : Code) (n0 s0 : Nat) (Z : State → Prop) : Prop :=
  ∀ (H : Heap) (locs : List Loc) (pc : Nat) (ls : Array Slot), aRep g s r.2 H → (∀ q ∈ locs, g.2.1 ≤ q.base) → aRi mi.2.1 pc r.1 → W p l e R s m args below meth c H locs (r.2.1 - n0) (r.2.2.1 - s0) Z (F0 m pc ls (r.1.map tv).toList)
def Y (l : Launch) (g : aG) (mi : aM) (d : Nat) (pc : Nat) (lv : aL) (st : List aV) (h : aH) (r : aO) : Prop :=
  (h.1 ≤ r.2.1 ∧ h.2.1 ≤ r.2.2.1) ∧ ∀ (p : Program) (e : Env) (R : Room) (s : State) (m : MethodId) (args : Array Value) (below : List Frame) (meth : Method) (c : Code), aCx g mi d p R s m args meth c →
    ∀ (H : Heap) (locs : List Loc) (ls : Array Slot) (n0 s0 : Nat) (Z : State → Prop), lh ls mi.2.2.1 lv → aRep g s h H → (∀ q ∈ locs, g.2.1 ≤ q.base) → n0 ≤ h.1 → s0 ≤ h.2.1 → r.2.1 - n0 ≤ R.cells → r.2.2.1 - s0 ≤ R.slots →
      aRet l g mi r p e R s m args below meth c n0 s0 Z → W p l e R s m args below meth c H locs (h.1 - n0) (h.2.1 - s0) Z (F0 m pc ls (st.map tv))
section YR
variable {l : Launch} {g : aG} {mi : aM} {d pc : Nat} {lv : aL} {st : List aV} {h : aH} {r : aO}
/-- a step that touches neither locals nor heap -/
theorem Y.pure {pc2 : Nat} {st2 : List aV} (k : Y l g mi d pc2 lv st2 h r) (f : ∀ (p : Program) (e : Env) (R : Room) (s : State) (m : MethodId) (args : Array Value) (below : List Frame) (meth : Method) (c : Code) (H : Heap) (locs : List Loc) (cells slots : Nat) (Z : State → Prop) (ls : Array Slot), aCx g mi d p R s m args meth c → lh ls mi.2.2.1 lv → aRep g s h H → W p l e R s m args below meth c H locs cells slots Z (F0 m pc2 ls (st2.map tv)) → W p l e R s m args below meth c H locs cells slots Z (F0 m pc ls (st.map tv))) : Y l g mi d pc lv st h r :=
  ⟨k.1, fun p e R s m args below meth c C H locs ls n0 s0 Z hl hR hL h1 h2 h3 h4 hZ => f p e R s m args below meth c H locs _ _ Z ls C hl hR (k.2 p e R s m args below meth c C H locs ls n0 s0 Z hl hR hL h1 h2 h3 h4 hZ)⟩
/-- two ways -/
theorem Y.fork {P : Prop} {pt pf : Nat} {st2 : List aV} (kt : P → Y l g mi d pt lv st2 h r) (kf : ¬ P → Y l g mi d pf lv st2 h r) (f : ∀ (p : Program) (e : Env) (R : Room) (s : State) (m : MethodId) (args : Array Value) (below : List Frame) (meth : Method) (c : Code) (H : Heap) (locs : List Loc) (cells slots : Nat) (Z : State → Prop) (ls : Array Slot), aCx g mi d p R s m args meth c → (P → W p l e R s m args below meth c H locs cells slots Z (F0 m pt ls (st2.map tv))) → (¬ P → W p l e R s m args below meth c H locs cells slots Z (F0 m pf ls (st2.map tv))) → W p l e R s m args below meth c H locs cells slots Z (F0 m pc ls (st.map tv))) : Y l g mi d pc lv st h r := by
  by_cases hP : P
  · exact (kt hP).pure fun p e R s m args below meth c H locs cells slots Z ls C _ _ w => f p e R s m args below meth c H locs cells slots Z ls C (fun _ => w) (fun q => absurd hP q)
  · exact (kf hP).pure fun p e R s m args below meth c H locs cells slots Z ls C _ _ w => f p e R s m args below meth c H locs cells slots Z ls C (fun q => absurd q hP) (fun _ => w)
/-- a step that changes the locals -/
theorem Y.loc {pc2 : Nat} {lv2 : aL} {st2 : List aV} (k : Y l g mi d pc2 lv2 st2 h r) (f : ∀ (p : Program) (e : Env) (R : Room) (s : State) (m : MethodId) (args : Array Value) (below : List Frame) (meth : Method) (c : Code) (H : Heap) (locs : List Loc) (cells slots : Nat) (Z : State → Prop) (ls : Array Slot), aCx g mi d p R s m args meth c → lh ls mi.2.2.1 lv → (∀ ls2 : Array Slot, lh ls2 mi.2.2.1 lv2 → W p l e R s m args below meth c H locs cells slots Z (F0 m pc2 ls2 (st2.map tv))) → W p l e R s m args below meth c H locs cells slots Z (F0 m pc ls (st.map tv))) : Y l g mi d pc lv st h r :=
  ⟨k.1, fun p e R s m args below meth c C H locs ls n0 s0 Z hl hR hL h1 h2 h3 h4 hZ => f p e R s m args below meth c H locs _ _ Z ls C hl (fun ls2 hl2 => k.2 p e R s m args below meth c C H locs ls2 n0 s0 Z hl2 hR hL h1 h2 h3 h4 hZ)⟩
theorem y_iconst {n : Int} {v : Int32} (hd : decode mi.2.1 pc = .ok (.iconst n, 1)) (hv : Int32.ofInt n = v) (k : Y l g mi d (pc + 1) lv (.inl v :: st) h r) : Y l g mi d pc lv (st) h r := k.pure (fun p e R s m args below meth c H locs cells slots Z ls C hl hR w => lv_iconst C.1 C.2.1 hd hv w)
theorem y_bipush {n : Int} {v : Int32} (hd : decode mi.2.1 pc = .ok (.bipush n, 2)) (hv : (Int8.ofInt n).toInt32 = v) (k : Y l g mi d (pc + 2) lv (.inl v :: st) h r) : Y l g mi d pc lv (st) h r := k.pure (fun p e R s m args below meth c H locs cells slots Z ls C hl hR w => lv_bipush C.1 C.2.1 hd hv w)
theorem y_sipush {n : Int} {v : Int32} (hd : decode mi.2.1 pc = .ok (.sipush n, 3)) (hv : (Int16.ofInt n).toInt32 = v) (k : Y l g mi d (pc + 3) lv (.inl v :: st) h r) : Y l g mi d pc lv (st) h r := k.pure (fun p e R s m args below meth c H locs cells slots Z ls C hl hR w => lv_sipush C.1 C.2.1 hd hv w)
theorem y_lconst {n : Fin 2} {v : Int64} (hd : decode mi.2.1 pc = .ok (.lconst n, 1)) (hv : Int64.ofNat (n : Nat) = v) (k : Y l g mi d (pc + 1) lv (.inr (.inl v) :: st) h r) : Y l g mi d pc lv (st) h r := k.pure (fun p e R s m args below meth c H locs cells slots Z ls C hl hR w => lv_lconst C.1 C.2.1 hd hv w)
theorem y_null (hd : decode mi.2.1 pc = .ok (.aconst_null, 1)) (k : Y l g mi d (pc + 1) lv (.inr (.inr none) :: st) h r) : Y l g mi d pc lv (st) h r := k.pure (fun p e R s m args below meth c H locs cells slots Z ls C hl hR w => lv_null C.1 C.2.1 hd w)
theorem y_ldc2 {i : Nat} {v : Int64} (hd : decode mi.2.1 pc = .ok (.ldc2_w i, 3)) (hc : Cond.constantLong mi.1.cls i v ∈ Gd) (k : Y l g mi d (pc + 3) lv (.inr (.inl v) :: st) h r) : Y l g mi d pc lv (st) h r := k.pure (fun p e R s m args below meth c H locs cells slots Z ls C hl hR w => lv_ldc2 C.1 C.2.1 C.2.2.2.1 (C.2.2.2.2.1 _ (gd_in hc)) hd w)
theorem y_iload_n {j : Fin 4} {i : Nat} {x : Int32} (hd : decode mi.2.1 pc = .ok (.iload_n j, 1)) (hi : (j : Nat) = i) (hk : lv[i]? = some (some (.inl x))) (k : Y l g mi d (pc + 1) lv (.inl x :: st) h r) : Y l g mi d pc lv (st) h r := k.pure (fun p e R s m args below meth c H locs cells slots Z ls C hl hR w => lv_iload_n C.1 C.2.1 hd hi (hl.2.2 i _ hk) w)
theorem y_iload {i : Nat} {x : Int32} (hd : decode mi.2.1 pc = .ok (.iload i, 2)) (hk : lv[i]? = some (some (.inl x))) (k : Y l g mi d (pc + 2) lv (.inl x :: st) h r) : Y l g mi d pc lv (st) h r := k.pure (fun p e R s m args below meth c H locs cells slots Z ls C hl hR w => lv_iload C.1 C.2.1 hd (hl.2.2 i _ hk) w)
theorem y_lload_n {j : Fin 4} {i : Nat} {x : Int64} (hd : decode mi.2.1 pc = .ok (.lload_n j, 1)) (hi : (j : Nat) = i) (hk : lv[i]? = some (some (.inr (.inl x)))) (k : Y l g mi d (pc + 1) lv (.inr (.inl x) :: st) h r) : Y l g mi d pc lv (st) h r := k.pure (fun p e R s m args below meth c H locs cells slots Z ls C hl hR w => lv_lload_n C.1 C.2.1 hd hi (hl.2.2 i _ hk) w)
theorem y_lload {i : Nat} {x : Int64} (hd : decode mi.2.1 pc = .ok (.lload i, 2)) (hk : lv[i]? = some (some (.inr (.inl x)))) (k : Y l g mi d (pc + 2) lv (.inr (.inl x) :: st) h r) : Y l g mi d pc lv (st) h r := k.pure (fun p e R s m args below meth c H locs cells slots Z ls C hl hR w => lv_lload C.1 C.2.1 hd (hl.2.2 i _ hk) w)
theorem y_aload_n {j : Fin 4} {i : Nat} {x : Option Nat} (hd : decode mi.2.1 pc = .ok (.aload_n j, 1)) (hi : (j : Nat) = i) (hk : lv[i]? = some (some (.inr (.inr x)))) (k : Y l g mi d (pc + 1) lv (.inr (.inr x) :: st) h r) : Y l g mi d pc lv st h r := k.pure (fun p e R s m args below meth c H locs cells slots Z ls C hl hR w =>  by
  have h1 := hl.2.2 i _ hk
  cases x with
  | none => exact lv_aload_nN C.1 C.2.1 hd hi h1 w
  | some a => exact lv_aload_n C.1 C.2.1 hd hi h1 w)
theorem y_aload {i : Nat} {x : Option Nat} (hd : decode mi.2.1 pc = .ok (.aload i, 2)) (hk : lv[i]? = some (some (.inr (.inr x)))) (k : Y l g mi d (pc + 2) lv (.inr (.inr x) :: st) h r) : Y l g mi d pc lv st h r := k.pure (fun p e R s m args below meth c H locs cells slots Z ls C hl hR w =>  by
  have h1 := hl.2.2 i _ hk
  cases x with
  | none => exact lv_aloadN C.1 C.2.1 hd h1 w
  | some a => exact lv_aload C.1 C.2.1 hd h1 w)
theorem y_istore_n {lv2 : aL} {j : Fin 4} {i : Nat} {x : Int32} (hd : decode mi.2.1 pc = .ok (.istore_n j, 1)) (hi : (j : Nat) = i) (hn : i < mi.2.2.1) (he : st1 lv i (.inl x) = lv2) (k : Y l g mi d (pc + 1) lv2 st h r) : Y l g mi d pc lv (.inl x :: st) h r := k.loc (fun p e R s m args below meth c H locs cells slots Z ls C hl w => lv_istore_n C.1 C.2.1 hd hi hl.kn hn rfl fun ls2 h2 => w ls2 (he ▸ st1_ok h2))
theorem y_istore {lv2 : aL} {i : Nat} {x : Int32} (hd : decode mi.2.1 pc = .ok (.istore i, 2)) (hn : i < mi.2.2.1) (he : st1 lv i (.inl x) = lv2) (k : Y l g mi d (pc + 2) lv2 st h r) : Y l g mi d pc lv (.inl x :: st) h r := k.loc (fun p e R s m args below meth c H locs cells slots Z ls C hl w => lv_istore C.1 C.2.1 hd hl.kn hn rfl fun ls2 h2 => w ls2 (he ▸ st1_ok h2))
theorem y_lstore_n {lv2 : aL} {j : Fin 4} {i : Nat} {x : Int64} (hd : decode mi.2.1 pc = .ok (.lstore_n j, 1)) (hi : (j : Nat) = i) (hn : i + 1 < mi.2.2.1) (he : st2 lv i (.inr (.inl x)) = lv2) (k : Y l g mi d (pc + 1) lv2 st h r) : Y l g mi d pc lv (.inr (.inl x) :: st) h r := k.loc (fun p e R s m args below meth c H locs cells slots Z ls C hl w => lv_lstore_n C.1 C.2.1 hd hi hl.kn hn rfl fun ls2 h2 => w ls2 (he ▸ st2_ok h2))
theorem y_lstore {lv2 : aL} {i : Nat} {x : Int64} (hd : decode mi.2.1 pc = .ok (.lstore i, 2)) (hn : i + 1 < mi.2.2.1) (he : st2 lv i (.inr (.inl x)) = lv2) (k : Y l g mi d (pc + 2) lv2 st h r) : Y l g mi d pc lv (.inr (.inl x) :: st) h r := k.loc (fun p e R s m args below meth c H locs cells slots Z ls C hl w => lv_lstore C.1 C.2.1 hd hl.kn hn rfl fun ls2 h2 => w ls2 (he ▸ st2_ok h2))
theorem y_astore_n {lv2 : aL} {j : Fin 4} {i : Nat} {x : Option Nat} (hd : decode mi.2.1 pc = .ok (.astore_n j, 1)) (hi : (j : Nat) = i) (hn : i < mi.2.2.1) (he : st1 lv i (.inr (.inr x)) = lv2) (k : Y l g mi d (pc + 1) lv2 st h r) : Y l g mi d pc lv (.inr (.inr x) :: st) h r := k.loc (fun p e R s m args below meth c H locs cells slots Z ls C hl w => by
  cases x with
  | none => exact lv_astore_nN C.1 C.2.1 hd hi hl.kn hn rfl fun ls2 h2 => w ls2 (he ▸ st1_ok (v := .inr (.inr none)) h2)
  | some a => exact lv_astore_n C.1 C.2.1 hd hi hl.kn hn rfl fun ls2 h2 => w ls2 (he ▸ st1_ok (v := .inr (.inr (some a))) h2))
theorem y_astore {lv2 : aL} {i : Nat} {x : Option Nat} (hd : decode mi.2.1 pc = .ok (.astore i, 2)) (hn : i < mi.2.2.1) (he : st1 lv i (.inr (.inr x)) = lv2) (k : Y l g mi d (pc + 2) lv2 st h r) : Y l g mi d pc lv (.inr (.inr x) :: st) h r := k.loc (fun p e R s m args below meth c H locs cells slots Z ls C hl w => by
  cases x with
  | none => exact lv_astoreN C.1 C.2.1 hd hl.kn hn rfl fun ls2 h2 => w ls2 (he ▸ st1_ok (v := .inr (.inr none)) h2)
  | some a => exact lv_astore C.1 C.2.1 hd hl.kn hn rfl fun ls2 h2 => w ls2 (he ▸ st1_ok (v := .inr (.inr (some a))) h2))
theorem y_iinc {lv2 : aL} {i : Nat} {n : Int} {x y : Int32} (hd : decode mi.2.1 pc = .ok (.iinc i n, 3)) (hk : lv[i]? = some (some (.inl x))) (hn : i < mi.2.2.1) (hy : Int32.ofInt n = y) (he : st1 lv i (.inl (x + y)) = lv2) (k : Y l g mi d (pc + 3) lv2 st h r) : Y l g mi d pc lv st h r := k.loc (fun p e R s m args below meth c H locs cells slots Z ls C hl w => by
  obtain ⟨q, hq⟩ := List.getElem?_of_mem (kn_mem.mpr ⟨_, hk, rfl⟩ : (i, tv (.inl x)) ∈ kn lv)
  subst hy
  exact lv_iinc C.1 C.2.1 hd hl.kn hq rfl hn rfl fun ls2 h2 => w ls2 (he ▸ st1_ok (v := .inl (x + Int32.ofInt n)) h2))
theorem y_iadd {x y : Int32} (hd : decode mi.2.1 pc = .ok (.iadd, 1)) (k : Y l g mi d (pc + 1) lv (.inl (x + y) :: st) h r) : Y l g mi d pc lv (.inl y :: .inl x :: st) h r := k.pure (fun p e R s m args below meth c H locs cells slots Z ls C hl hR w => lv_iadd C.1 C.2.1 hd w)
theorem y_isub {x y : Int32} (hd : decode mi.2.1 pc = .ok (.isub, 1)) (k : Y l g mi d (pc + 1) lv (.inl (x - y) :: st) h r) : Y l g mi d pc lv (.inl y :: .inl x :: st) h r := k.pure (fun p e R s m args below meth c H locs cells slots Z ls C hl hR w => lv_isub C.1 C.2.1 hd w)
theorem y_imul {x y : Int32} (hd : decode mi.2.1 pc = .ok (.imul, 1)) (k : Y l g mi d (pc + 1) lv (.inl (x * y) :: st) h r) : Y l g mi d pc lv (.inl y :: .inl x :: st) h r := k.pure (fun p e R s m args below meth c H locs cells slots Z ls C hl hR w => lv_imul C.1 C.2.1 hd w)
theorem y_iand {x y : Int32} (hd : decode mi.2.1 pc = .ok (.iand, 1)) (k : Y l g mi d (pc + 1) lv (.inl (x &&& y) :: st) h r) : Y l g mi d pc lv (.inl y :: .inl x :: st) h r := k.pure (fun p e R s m args below meth c H locs cells slots Z ls C hl hR w => lv_iand C.1 C.2.1 hd w)
theorem y_ior {x y : Int32} (hd : decode mi.2.1 pc = .ok (.ior, 1)) (k : Y l g mi d (pc + 1) lv (.inl (x ||| y) :: st) h r) : Y l g mi d pc lv (.inl y :: .inl x :: st) h r := k.pure (fun p e R s m args below meth c H locs cells slots Z ls C hl hR w => lv_ior C.1 C.2.1 hd w)
theorem y_ishl {x y : Int32} (hd : decode mi.2.1 pc = .ok (.ishl, 1)) (k : Y l g mi d (pc + 1) lv (.inl (x <<< (y &&& 31)) :: st) h r) : Y l g mi d pc lv (.inl y :: .inl x :: st) h r := k.pure (fun p e R s m args below meth c H locs cells slots Z ls C hl hR w => lv_ishl C.1 C.2.1 hd w)
theorem y_ishr {x y : Int32} (hd : decode mi.2.1 pc = .ok (.ishr, 1)) (k : Y l g mi d (pc + 1) lv (.inl (x >>> (y &&& 31)) :: st) h r) : Y l g mi d pc lv (.inl y :: .inl x :: st) h r := k.pure (fun p e R s m args below meth c H locs cells slots Z ls C hl hR w => lv_ishr C.1 C.2.1 hd w)
theorem y_idiv {x y : Int32} (hd : decode mi.2.1 pc = .ok (.idiv, 1)) (hne : ¬ y = 0) (k : Y l g mi d (pc + 1) lv (.inl (x / y) :: st) h r) : Y l g mi d pc lv (.inl y :: .inl x :: st) h r := k.pure (fun p e R s m args below meth c H locs cells slots Z ls C hl hR w => lv_idiv C.1 C.2.1 hd hne w)
theorem y_irem {x y : Int32} (hd : decode mi.2.1 pc = .ok (.irem, 1)) (hne : ¬ y = 0) (k : Y l g mi d (pc + 1) lv (.inl (x - x / y * y) :: st) h r) : Y l g mi d pc lv (.inl y :: .inl x :: st) h r := k.pure (fun p e R s m args below meth c H locs cells slots Z ls C hl hR w => lv_irem C.1 C.2.1 hd hne w)
theorem y_ladd {x y : Int64} (hd : decode mi.2.1 pc = .ok (.ladd, 1)) (k : Y l g mi d (pc + 1) lv (.inr (.inl (x + y)) :: st) h r) : Y l g mi d pc lv (.inr (.inl y) :: .inr (.inl x) :: st) h r := k.pure (fun p e R s m args below meth c H locs cells slots Z ls C hl hR w => lv_ladd C.1 C.2.1 hd w)
theorem y_lsub {x y : Int64} (hd : decode mi.2.1 pc = .ok (.lsub, 1)) (k : Y l g mi d (pc + 1) lv (.inr (.inl (x - y)) :: st) h r) : Y l g mi d pc lv (.inr (.inl y) :: .inr (.inl x) :: st) h r := k.pure (fun p e R s m args below meth c H locs cells slots Z ls C hl hR w => lv_lsub C.1 C.2.1 hd w)
theorem y_lmul {x y : Int64} (hd : decode mi.2.1 pc = .ok (.lmul, 1)) (k : Y l g mi d (pc + 1) lv (.inr (.inl (x * y)) :: st) h r) : Y l g mi d pc lv (.inr (.inl y) :: .inr (.inl x) :: st) h r := k.pure (fun p e R s m args below meth c H locs cells slots Z ls C hl hR w => lv_lmul C.1 C.2.1 hd w)
theorem y_land {x y : Int64} (hd : decode mi.2.1 pc = .ok (.land, 1)) (k : Y l g mi d (pc + 1) lv (.inr (.inl (x &&& y)) :: st) h r) : Y l g mi d pc lv (.inr (.inl y) :: .inr (.inl x) :: st) h r := k.pure (fun p e R s m args below meth c H locs cells slots Z ls C hl hR w => lv_land C.1 C.2.1 hd w)
theorem y_lor {x y : Int64} (hd : decode mi.2.1 pc = .ok (.lor, 1)) (k : Y l g mi d (pc + 1) lv (.inr (.inl (x ||| y)) :: st) h r) : Y l g mi d pc lv (.inr (.inl y) :: .inr (.inl x) :: st) h r := k.pure (fun p e R s m args below meth c H locs cells slots Z ls C hl hR w => lv_lor C.1 C.2.1 hd w)
theorem y_ldiv {x y : Int64} (hd : decode mi.2.1 pc = .ok (.ldiv, 1)) (hne : ¬ y = 0) (k : Y l g mi d (pc + 1) lv (.inr (.inl (x / y)) :: st) h r) : Y l g mi d pc lv (.inr (.inl y) :: .inr (.inl x) :: st) h r := k.pure (fun p e R s m args below meth c H locs cells slots Z ls C hl hR w => lv_ldiv C.1 C.2.1 hd hne w)
theorem y_lshl {x : Int64} {y : Int32} (hd : decode mi.2.1 pc = .ok (.lshl, 1)) (k : Y l g mi d (pc + 1) lv (.inr (.inl (x <<< (y.toInt64 &&& 63))) :: st) h r) : Y l g mi d pc lv (.inl y :: .inr (.inl x) :: st) h r := k.pure (fun p e R s m args below meth c H locs cells slots Z ls C hl hR w => lv_lshl C.1 C.2.1 hd rfl w)
theorem y_i2l {x : Int32} (hd : decode mi.2.1 pc = .ok (.i2l, 1)) (k : Y l g mi d (pc + 1) lv (.inr (.inl x.toInt64) :: st) h r) : Y l g mi d pc lv (.inl x :: st) h r := k.pure (fun p e R s m args below meth c H locs cells slots Z ls C hl hR w => lv_i2l C.1 C.2.1 hd rfl w)
theorem y_l2i {x : Int64} (hd : decode mi.2.1 pc = .ok (.l2i, 1)) (k : Y l g mi d (pc + 1) lv (.inl x.toInt32 :: st) h r) : Y l g mi d pc lv (.inr (.inl x) :: st) h r := k.pure (fun p e R s m args below meth c H locs cells slots Z ls C hl hR w => lv_l2i C.1 C.2.1 hd rfl w)
theorem y_lcmp {x y : Int64} (hd : decode mi.2.1 pc = .ok (.lcmp, 1)) (k : Y l g mi d (pc + 1) lv (.inl (lg_cmp x y) :: st) h r) : Y l g mi d pc lv (.inr (.inl y) :: .inr (.inl x) :: st) h r := k.pure (fun p e R s m args below meth c H locs cells slots Z ls C hl hR w => W.lcmp C.1 C.2.1 hd w)
theorem y_dup {v : aV} (hd : decode mi.2.1 pc = .ok (.dup, 1)) (hv : aw v = 1) (k : Y l g mi d (pc + 1) lv (v :: v :: st) h r) : Y l g mi d pc lv (v :: st) h r := k.pure (fun p e R s m args below meth c H locs cells slots Z ls C hl hR w => lv_dup C.1 C.2.1 hd (by rw [tv_cat]; exact hv) w)
theorem y_pop {v : aV} (hd : decode mi.2.1 pc = .ok (.pop, 1)) (hv : aw v = 1) (k : Y l g mi d (pc + 1) lv st h r) : Y l g mi d pc lv (v :: st) h r := k.pure (fun p e R s m args below meth c H locs cells slots Z ls C hl hR w => lv_pop C.1 C.2.1 hd (by rw [tv_cat]; exact hv) w)
theorem y_pop2 {v : aV} (hd : decode mi.2.1 pc = .ok (.pop2, 1)) (hv : aw v = 2) (k : Y l g mi d (pc + 1) lv st h r) : Y l g mi d pc lv (v :: st) h r := k.pure (fun p e R s m args below meth c H locs cells slots Z ls C hl hR w => lv_pop2_2 C.1 C.2.1 hd (by rw [tv_cat]; exact hv) w)
theorem y_dup2 {v u : aV} (hd : decode mi.2.1 pc = .ok (.dup2, 1)) (hv : aw v = 1) (hw : aw u = 1) (k : Y l g mi d (pc + 1) lv (v :: u :: v :: u :: st) h r) : Y l g mi d pc lv (v :: u :: st) h r := k.pure (fun p e R s m args below meth c H locs cells slots Z ls C hl hR w => lv_dup2_11 C.1 C.2.1 hd (by rw [tv_cat]; exact hv) (by rw [tv_cat]; exact hw) w)
theorem y_goto {off : Int} {tgt : Nat} (hd : decode mi.2.1 pc = .ok (.goto off, 3)) (ht : (pc : Int) + off = (tgt : Int)) (k : Y l g mi d tgt lv st h r) : Y l g mi d pc lv (st) h r := k.pure (fun p e R s m args below meth c H locs cells slots Z ls C hl hR w => lv_goto C.1 C.2.1 hd ht w)
theorem y_if_eq {x : Int32} {off : Int} {tgt : Nat} (hd : decode mi.2.1 pc = .ok (.ifCond .eq off, 3)) (ht : (pc : Int) + off = (tgt : Int)) (kt : x = 0 → Y l g mi d tgt lv st h r) (kf : ¬ x = 0 → Y l g mi d (pc + 3) lv st h r) : Y l g mi d pc lv (.inl x :: st) h r := Y.fork (P := x = 0) kt kf (fun p e R s m args below meth c H locs cells slots Z ls C wt wf => lv_if_eq C.1 C.2.1 hd ht wt wf)
theorem y_if_ne {x : Int32} {off : Int} {tgt : Nat} (hd : decode mi.2.1 pc = .ok (.ifCond .ne off, 3)) (ht : (pc : Int) + off = (tgt : Int)) (kt : ¬ x = 0 → Y l g mi d tgt lv st h r) (kf : x = 0 → Y l g mi d (pc + 3) lv st h r) : Y l g mi d pc lv (.inl x :: st) h r := Y.fork (P := x = 0) kf kt (fun p e R s m args below meth c H locs cells slots Z ls C wt wf => lv_if_ne C.1 C.2.1 hd ht wf wt)
theorem y_if_lt {x : Int32} {off : Int} {tgt : Nat} (hd : decode mi.2.1 pc = .ok (.ifCond .lt off, 3)) (ht : (pc : Int) + off = (tgt : Int)) (kt : x < 0 → Y l g mi d tgt lv st h r) (kf : ¬ x < 0 → Y l g mi d (pc + 3) lv st h r) : Y l g mi d pc lv (.inl x :: st) h r := Y.fork (P := x < 0) kt kf (fun p e R s m args below meth c H locs cells slots Z ls C wt wf => lv_if_lt C.1 C.2.1 hd ht wt wf)
theorem y_if_ge {x : Int32} {off : Int} {tgt : Nat} (hd : decode mi.2.1 pc = .ok (.ifCond .ge off, 3)) (ht : (pc : Int) + off = (tgt : Int)) (kt : 0 ≤ x → Y l g mi d tgt lv st h r) (kf : ¬ 0 ≤ x → Y l g mi d (pc + 3) lv st h r) : Y l g mi d pc lv (.inl x :: st) h r := Y.fork (P := 0 ≤ x) kt kf (fun p e R s m args below meth c H locs cells slots Z ls C wt wf => lv_if_ge C.1 C.2.1 hd ht wt wf)
theorem y_if_gt {x : Int32} {off : Int} {tgt : Nat} (hd : decode mi.2.1 pc = .ok (.ifCond .gt off, 3)) (ht : (pc : Int) + off = (tgt : Int)) (kt : 0 < x → Y l g mi d tgt lv st h r) (kf : ¬ 0 < x → Y l g mi d (pc + 3) lv st h r) : Y l g mi d pc lv (.inl x :: st) h r := Y.fork (P := 0 < x) kt kf (fun p e R s m args below meth c H locs cells slots Z ls C wt wf => lv_if_gt C.1 C.2.1 hd ht wt wf)
theorem y_if_le {x : Int32} {off : Int} {tgt : Nat} (hd : decode mi.2.1 pc = .ok (.ifCond .le off, 3)) (ht : (pc : Int) + off = (tgt : Int)) (kt : x ≤ 0 → Y l g mi d tgt lv st h r) (kf : ¬ x ≤ 0 → Y l g mi d (pc + 3) lv st h r) : Y l g mi d pc lv (.inl x :: st) h r := Y.fork (P := x ≤ 0) kt kf (fun p e R s m args below meth c H locs cells slots Z ls C wt wf => lv_if_le C.1 C.2.1 hd ht wt wf)
theorem y_icmp_eq {x y : Int32} {off : Int} {tgt : Nat} (hd : decode mi.2.1 pc = .ok (.if_icmp .eq off, 3)) (ht : (pc : Int) + off = (tgt : Int)) (kt : x = y → Y l g mi d tgt lv st h r) (kf : ¬ x = y → Y l g mi d (pc + 3) lv st h r) : Y l g mi d pc lv (.inl y :: .inl x :: st) h r := Y.fork (P := x = y) kt kf (fun p e R s m args below meth c H locs cells slots Z ls C wt wf => lv_icmp_eq C.1 C.2.1 hd ht wt wf)
theorem y_icmp_ne {x y : Int32} {off : Int} {tgt : Nat} (hd : decode mi.2.1 pc = .ok (.if_icmp .ne off, 3)) (ht : (pc : Int) + off = (tgt : Int)) (kt : ¬ x = y → Y l g mi d tgt lv st h r) (kf : x = y → Y l g mi d (pc + 3) lv st h r) : Y l g mi d pc lv (.inl y :: .inl x :: st) h r := Y.fork (P := x = y) kf kt (fun p e R s m args below meth c H locs cells slots Z ls C wt wf => lv_icmp_ne C.1 C.2.1 hd ht wf wt)
theorem y_icmp_lt {x y : Int32} {off : Int} {tgt : Nat} (hd : decode mi.2.1 pc = .ok (.if_icmp .lt off, 3)) (ht : (pc : Int) + off = (tgt : Int)) (kt : x < y → Y l g mi d tgt lv st h r) (kf : ¬ x < y → Y l g mi d (pc + 3) lv st h r) : Y l g mi d pc lv (.inl y :: .inl x :: st) h r := Y.fork (P := x < y) kt kf (fun p e R s m args below meth c H locs cells slots Z ls C wt wf => lv_icmp_lt C.1 C.2.1 hd ht wt wf)
theorem y_icmp_ge {x y : Int32} {off : Int} {tgt : Nat} (hd : decode mi.2.1 pc = .ok (.if_icmp .ge off, 3)) (ht : (pc : Int) + off = (tgt : Int)) (kt : y ≤ x → Y l g mi d tgt lv st h r) (kf : ¬ y ≤ x → Y l g mi d (pc + 3) lv st h r) : Y l g mi d pc lv (.inl y :: .inl x :: st) h r := Y.fork (P := y ≤ x) kt kf (fun p e R s m args below meth c H locs cells slots Z ls C wt wf => lv_icmp_ge C.1 C.2.1 hd ht wt wf)
theorem y_icmp_gt {x y : Int32} {off : Int} {tgt : Nat} (hd : decode mi.2.1 pc = .ok (.if_icmp .gt off, 3)) (ht : (pc : Int) + off = (tgt : Int)) (kt : y < x → Y l g mi d tgt lv st h r) (kf : ¬ y < x → Y l g mi d (pc + 3) lv st h r) : Y l g mi d pc lv (.inl y :: .inl x :: st) h r := Y.fork (P := y < x) kt kf (fun p e R s m args below meth c H locs cells slots Z ls C wt wf => lv_icmp_gt C.1 C.2.1 hd ht wt wf)
theorem y_icmp_le {x y : Int32} {off : Int} {tgt : Nat} (hd : decode mi.2.1 pc = .ok (.if_icmp .le off, 3)) (ht : (pc : Int) + off = (tgt : Int)) (kt : x ≤ y → Y l g mi d tgt lv st h r) (kf : ¬ x ≤ y → Y l g mi d (pc + 3) lv st h r) : Y l g mi d pc lv (.inl y :: .inl x :: st) h r := Y.fork (P := x ≤ y) kt kf (fun p e R s m args below meth c H locs cells slots Z ls C wt wf => lv_icmp_le C.1 C.2.1 hd ht wt wf)
theorem y_ifnull {x : Option Nat} {off : Int} {tgt : Nat} (hd : decode mi.2.1 pc = .ok (.ifnull off, 3)) (ht : (pc : Int) + off = (tgt : Int)) (kt : x = none → Y l g mi d (tgt) lv st h r) (kf : ∀ a, x = some a → Y l g mi d (pc + 3) lv st h r) : Y l g mi d pc lv (.inr (.inr x) :: st) h r := by
  cases x with
  | none => exact (kt rfl).pure (fun p e R s m args below meth c H locs cells slots Z ls C hl hR w => lv_ifnullN C.1 C.2.1 hd ht w)
  | some a => exact (kf a rfl).pure (fun p e R s m args below meth c H locs cells slots Z ls C hl hR w => lv_ifnull C.1 C.2.1 hd w)
theorem y_ifnonnull {x : Option Nat} {off : Int} {tgt : Nat} (hd : decode mi.2.1 pc = .ok (.ifnonnull off, 3)) (ht : (pc : Int) + off = (tgt : Int)) (kt : x = none → Y l g mi d (pc + 3) lv st h r) (kf : ∀ a, x = some a → Y l g mi d (tgt) lv st h r) : Y l g mi d pc lv (.inr (.inr x) :: st) h r := by
  cases x with
  | none => exact (kt rfl).pure (fun p e R s m args below meth c H locs cells slots Z ls C hl hR w => lv_ifnonnullN C.1 C.2.1 hd w)
  | some a => exact (kf a rfl).pure (fun p e R s m args below meth c H locs cells slots Z ls C hl hR w => lv_ifnonnull C.1 C.2.1 hd ht w)

/-- a switch: the first of the pairs that has the number -/
def swi (x : Int32) : List (Int32 × Nat) → Nat → Nat
  | [], dn => dn
  | (v, t) :: q, dn => if x = v then t else swi x q dn
theorem swi_spec (x : Int32) (dn : Nat) : ∀ tb : List (Int32 × Nat), (swi x tb dn = dn ∧ ∀ q ∈ tb, x ≠ q.1) ∨ ∃ (i : Nat) (q : Int32 × Nat), tb[i]? = some q ∧ x = q.1 ∧ swi x tb dn = q.2 := by
  intro tb
  induction tb with
  | nil => left; exact ⟨rfl, fun q hq => by cases hq⟩
  | cons z tb ih =>
    obtain ⟨v, t⟩ := z
    by_cases hx : x = v
    · right
      exact ⟨0, (v, t), rfl, hx, by simp only [swi]; rw [if_pos hx]⟩
    · have es : swi x ((v, t) :: tb) dn = swi x tb dn := by simp only [swi]; rw [if_neg hx]
      rcases ih with ⟨h1, h2⟩ | ⟨i, q, h1, h2, h3⟩
      · left
        refine ⟨es.trans h1, fun q hq => ?_⟩
        rcases List.mem_cons.mp hq with rfl | hq
        · exact hx
        · exact h2 q hq
      · right
        exact ⟨i + 1, q, h1, h2, es.trans h3⟩
theorem y_table {dflt lo hi : Int} {offs : Array Int} {len : Nat} {x : Int32} (hd : decode mi.2.1 pc = .ok (.tableswitch dflt lo hi offs, len)) (tb : List (Int32 × Nat)) (dn : Nat)
    (hdn : (pc : Int) + dflt = (dn : Int)) (hlen : lo + (tb.length : Int) = hi + 1) (htb : tb.map (fun q => q.1.toInt) = (List.range tb.length).map (fun (i : Nat) => lo + (i : Int))) (htg : tb.map (fun q => (q.2 : Int)) = offs.toList.map (fun o => (pc : Int) + o))
    (k : Y l g mi d (swi x tb dn) lv st h r) : Y l g mi d pc lv (.inl x :: st) h r := by
  have hat : ∀ (i : Nat) (q : Int32 × Nat), tb[i]? = some q → q.1.toInt = lo + (i : Int) ∧ ∃ o : Int, offs[i]? = some o ∧ (pc : Int) + o = (q.2 : Int) := by
    intro i q hq
    have hi := (List.getElem?_eq_some_iff.mp hq).1
    constructor
    · have e : (tb.map (fun q => q.1.toInt))[i]? = some q.1.toInt := by rw [List.getElem?_map, hq]; rfl
      rw [htb, List.getElem?_map, List.getElem?_range hi] at e
      exact (Option.some.inj e).symm
    · have e : (tb.map (fun q => (q.2 : Int)))[i]? = some (q.2 : Int) := by rw [List.getElem?_map, hq]; rfl
      rw [htg, List.getElem?_map, Array.getElem?_toList] at e
      cases ho : offs[i]? with
      | none => rw [ho] at e; cases e
      | some o => rw [ho] at e; exact ⟨o, rfl, Option.some.inj e⟩
  rcases swi_spec x dn tb with ⟨h1, h2⟩ | ⟨i, q, hq, hx, h2⟩
  · rw [h1] at k
    refine k.pure (fun p e R s m args below meth c H locs cells slots Z ls C hl hR w => lv_tableOut C.1 C.2.1 hd ?_ hdn w)
    by_cases hA : x.toInt < lo
    · exact Or.inl hA
    · by_cases hB : hi < x.toInt
      · exact Or.inr hB
      · have hlt : (x.toInt - lo).toNat < tb.length := by omega
        have hq := List.getElem?_eq_getElem hlt
        have h3 := (hat _ _ hq).1
        exact absurd (Int32.toInt_inj.mp (by rw [h3]; omega)) (h2 _ (List.mem_of_getElem? hq))
  · rw [h2] at k
    have hi' := (List.getElem?_eq_some_iff.mp hq).1
    obtain ⟨e1, off, ho, hpt⟩ := hat i q hq
    rw [← hx] at e1
    exact k.pure (fun p e R s m args below meth c H locs cells slots Z ls C hl hR w => lv_tableIn C.1 C.2.1 hd (by omega) (by omega) (by rw [show (x.toInt - lo).toNat = i by omega]; exact ho) hpt w)
theorem y_lookup {dflt : Int} {ps : Array (Int × Int)} {len : Nat} {x : Int32} (hd : decode mi.2.1 pc = .ok (.lookupswitch dflt ps, len)) (hp : (ps.toList.zip (ps.toList.drop 1)).all (fun (a, next) => a.1 < next.1) = true) (tb : List (Int32 × Nat)) (dn : Nat)
    (hdn : (pc : Int) + dflt = (dn : Int)) (htb : tb.map (fun q => q.1.toInt) = ps.toList.map (fun q => q.1)) (htg : tb.map (fun q => (q.2 : Int)) = ps.toList.map (fun q => (pc : Int) + q.2))
    (k : Y l g mi d (swi x tb dn) lv st h r) : Y l g mi d pc lv (.inl x :: st) h r := by
  have key : ∀ (tb : List (Int32 × Nat)) (pl : List (Int × Int)), tb.map (fun q => q.1.toInt) = pl.map (fun q => q.1) → tb.map (fun q => (q.2 : Int)) = pl.map (fun q => (pc : Int) + q.2) → (pc : Int) + Op.lookupswitch.offset pl dflt x.toInt = (swi x tb dn : Int) := by
    intro tb
    induction tb with
    | nil =>
      intro pl h1 h2
      cases pl with
      | nil => exact hdn
      | cons q pl => simp at h1
    | cons q tb ih =>
      intro pl h1 h2
      cases pl with
      | nil => simp at h1
      | cons z pl =>
        simp only [List.map_cons, List.cons.injEq] at h1 h2
        obtain ⟨za, zb⟩ := z
        obtain ⟨qa, qb⟩ := q
        simp only at h1 h2
        rw [Op.lookupswitch.offset_cons]
        by_cases hx : x = qa
        · rw [if_pos (by rw [← h1.1, hx])]
          simp only [swi, if_pos hx]
          exact h2.1.symm
        · rw [if_neg (fun z => hx (Int32.toInt_inj.mp (by rw [h1.1]; exact z.symm)))]
          simp only [swi, if_neg hx]
          exact ih pl h1.2 h2.2
  exact k.pure (fun p e R s m args below meth c H locs cells slots Z ls C hl hR w => lv_lookup C.1 C.2.1 hd hp rfl (key tb ps.toList htb htg) w)

theorem y_swc {x v : Int32} {t dn : Nat} {tb : List (Int32 × Nat)} (kt : x = v → Y l g mi d t lv st h r) (kf : ¬ x = v → Y l g mi d (swi x tb dn) lv st h r) : Y l g mi d (swi x ((v, t) :: tb) dn) lv st h r := by
  simp only [swi]
  by_cases hc : x = v
  · rw [if_pos hc]; exact kt hc
  · rw [if_neg hc]; exact kf hc
theorem y_swn {x : Int32} {dn : Nat} (k : Y l g mi d dn lv st h r) : Y l g mi d (swi x [] dn) lv st h r := k
/-- fewer locals known -/
def mask : List Bool → aL → aL
  | true :: ks, v :: lv => v :: mask ks lv
  | false :: ks, _ :: lv => none :: mask ks lv
  | _, _ => []
theorem mask_get : ∀ (ks : List Bool) (lv : aL) (i : Nat) (v : aV), (mask ks lv)[i]? = some (some v) → lv[i]? = some (some v)
  | [], lv, i, v => fun h => by cases lv <;> simp [mask] at h
  | k :: ks, [], i, v => fun h => by cases k <;> simp [mask] at h
  | true :: ks, w :: lv, 0, v => fun h => by simpa [mask] using h
  | true :: ks, w :: lv, i + 1, v => fun h => by
    simp only [mask, List.getElem?_cons_succ] at h ⊢
    exact mask_get ks lv i v h
  | false :: ks, w :: lv, 0, v => fun h => by simp [mask] at h
  | false :: ks, w :: lv, i + 1, v => fun h => by
    simp only [mask, List.getElem?_cons_succ] at h ⊢
    exact mask_get ks lv i v h
theorem Y.weak {lv2 : aL} (ks : List Bool) (he : mask ks lv = lv2) (k : Y l g mi d pc lv2 st h r) : Y l g mi d pc lv st h r :=
  ⟨k.1, fun p e R s m args below meth c C H locs ls n0 s0 Z hl hR hL h1 h2 h3 h4 hZ => k.2 p e R s m args below meth c C H locs ls n0 s0 Z ⟨hl.1, hl.2.1, fun i v hi => hl.2.2 i v (mask_get ks lv i v (by rw [he]; exact hi))⟩ hR hL h1 h2 h3 h4 hZ⟩
end YR
