/-! CLASS AND REFERENCE: other, behind its looks. My own rows. -/
section
variable {z : Nat → Nat} {ac : Nat} {T S : mS} {r : aH} {ha sa : Nat → Nat} {nh ns : Nat} {vs : List aVl} {R : aRS} {C : cS}
theorem CX.gx {n m : Nat} {r2 : aH} (X : CX ac T r ha sa nh ns vs R S C) (G : GX ac n m r r2) : CX ac T r2 ha sa nh ns vs R S C := by
  obtain ⟨⟨h0, h1⟩, ⟨h2, h3, h4⟩, h5⟩ := X
  refine ⟨⟨h0, fun c hc => ⟨(h1 c hc).1, (h1 c hc).2.ex G.ex⟩⟩, ⟨h2, fun s hs => ⟨(h3 s hs).1, ?_⟩, h4⟩, h5⟩
  obtain ⟨s0, ty, hh, st, s1, s2, s3, s4, s5, s6⟩ := (h3 s hs).2
  exact ⟨s0, ty, hh, st, s1, s2, s3, s4, s5.ex G.ex, G.2.1 _ _ s6⟩
/-- a refusal behind which objects were made -/
theorem j_grow {n m : Nat} {r2 : aH} {S2 : mS} {a : Int32} {y : Option (Int32 × aH)} {g : Option (Int32 × mS)} (X : CX ac T r ha sa nh ns vs R S C) (hlow : ∀ s, s < ns → ac ≤ sa s) (hF : FRS r) (hr : ac + 228 ≤ r.1) (G : GX ac n m (mo (ac + 197) S r) r2) (hn : n ≤ 10) (hm : m ≤ 100) (hy : y = some (a, co ac C r2)) (hg : g = some (a, S2)) (M2 : MI T S2 nh ns vs R) (q : sqS S S2) : JS ac S r y g := by
  obtain ⟨r3, er, G3⟩ := G.om hr hF
  subst er
  exact ⟨a, C, S2, T, r3, ha, sa, nh, ns, vs, R, hy, hg, M2, (X.gx G3).sq q, ⟨fun _ => G3.1, G3.2.2.1, by have := G3.2.2.2.1; omega, by have := G3.2.2.2.2.1; omega, G3.2.2.2.2.2⟩, hlow⟩
def f027 (k : Nat) : Bool := k == 0 || (decide (27 ≤ k ∧ k ≤ 31))
theorem q027 {S S2 : mS} (q : eqB f27 (sI S 0 0) S2) : eqB f027 S S2 := (eqB.I rfl).tr (q.mono fun k hk => by unfold f027 at hk; unfold f27; simp at hk ⊢; omega)
theorem MI.s27 {S2 : mS} (M : MI T S nh ns vs R) (q : eqB f027 S S2) : MI T S2 nh ns vs R := M.to q (fun k h1 h2 h3 h4 h5 => by unfold f027; simp; omega) (M.2.2.1.2.eq q rfl rfl rfl rfl rfl) M.2.2.1.1 (Nat.le_refl _)
theorem sq27 {S2 : mS} (q : eqB f027 S S2) : sqS S S2 := sq_e q rfl rfl rfl rfl rfl rfl
end
section
variable {z : Nat → Nat} {ac : Nat} {T S : mS} {r : aH} {ha sa : Nat → Nat} {nh ns tg : Nat} {vs : List aVl} {R : aRS} {C : cS} {f0 : Nat → Int32}
theorem sB_ne {S : mS} {k i n : Nat} {v : Int64} (h : n ≠ i) : (sB S k i v).2.2.2 k n = S.2.2.2 k n := by simp [sB, va_up, h]
theorem sB_eq (S : mS) (k i : Nat) (v : Int64) : (sB S k i v).2.2.2 k i = v := by simp [sB, va_up]
/-- the new handle in the reference -/
theorem g_newO {S2 : mS} {ts : List Int32} {j h : Nat} {X Y A b g : Int32} (hn60 : nh < 60) (q : eqB f027 S S2) (hT : TB T S) (hn1 : S2.1 1 = nI nh) (w : TW S2 ts) (h6 : ts.length ≤ 6) : ∃ S3, ((gX11_newHandle (20 + nI j) g (nI h) X Y A b S2).bind fun q103 => (mwA q103.2 11 q103.1 (q103.2.1 30)).bind fun S104 => (mwB S104 12 q103.1 (S104.2.1 31)).bind fun S105 => some (q103.1, S105)) = some (nI nh, S3) ∧ tE T S3 nh ∧ S3.1 1 = nI (nh + 1) ∧ tI S3 2 nh = nI (20 + j) ∧ tI S3 3 nh = nI ts.length ∧ (∀ k, k < ts.length → tI S3 4 (6 * nh + k) = ts.getD k 0) ∧ (tI S3 5 nh = g ∧ tI S3 6 nh = nI h ∧ tI S3 7 nh = X ∧ tI S3 8 nh = Y ∧ tI S3 9 nh = A ∧ tI S3 10 nh = b) ∧ (tI S3 11 nh = S2.1 30 ∧ S3.2.2.2 12 nh = S2.2.1 31) ∧ eqB (fun k => decide (k ≤ 12) || decide (27 ≤ k ∧ k ≤ 31)) S S3 := by
  obtain ⟨S1, e, N⟩ := g_newHandle hn60 hn1 (w.tk h6) (20 + nI j) g (nI h) X Y A b
  have E := N.tE hT q
  obtain ⟨k1, k2, k3, k4, k4b, ⟨k5, k6, k7, k8, k9, k10⟩, k11, k12⟩ := id N
  refine ⟨sB (sA S1 11 nh (S1.1 30)) 12 nh ((sA S1 11 nh (S1.1 30)).2.1 31), ?_, ?_, k1, ?_, ?_, ?_, ⟨?_, ?_, ?_, ?_, ?_, ?_⟩, ⟨?_, ?_⟩, ?_⟩
  · rw [e, o_bs]
    simp only
    rw [mwA_n _ 11 nh _ (by rw [ml_11]; exact hn60) (by omega), o_bs, mwB_n _ 12 nh _ (by rw [ml_12]; exact hn60) (by omega), o_bs]
  · intro c hc
    obtain ⟨e1, e2, e3⟩ := E c hc
    refine ⟨fun k h1 h2 h3 => ?_, ?_, fun i hi => ?_⟩
    · show (sA S1 11 nh (S1.1 30)).2.2.1 k c = _
      rw [sA_ne (Or.inr (by omega))]
      exact e1 k h1 h2 h3
    · rw [sB_ne (by omega)]
      exact e2
    · show (sA S1 11 nh (S1.1 30)).2.2.1 4 _ = _
      rw [sA_ne (Or.inl (by decide))]
      exact e3 i hi
  · show (sA S1 11 nh (S1.1 30)).2.2.1 2 _ = _
    rw [sA_ne (Or.inl (by decide)), k2, show (20 : Int32) = nI 20 from rfl, nI_add]
  · show (sA S1 11 nh (S1.1 30)).2.2.1 3 _ = _
    rw [sA_ne (Or.inl (by decide))]; exact k3
  · intro k hk
    show (sA S1 11 nh (S1.1 30)).2.2.1 4 _ = _
    rw [sA_ne (Or.inl (by decide))]; exact k4 k hk
  · show (sA S1 11 nh (S1.1 30)).2.2.1 5 _ = _
    rw [sA_ne (Or.inl (by decide))]; exact k5
  · show (sA S1 11 nh (S1.1 30)).2.2.1 6 _ = _
    rw [sA_ne (Or.inl (by decide))]; exact k6
  · show (sA S1 11 nh (S1.1 30)).2.2.1 7 _ = _
    rw [sA_ne (Or.inl (by decide))]; exact k7
  · show (sA S1 11 nh (S1.1 30)).2.2.1 8 _ = _
    rw [sA_ne (Or.inl (by decide))]; exact k8
  · show (sA S1 11 nh (S1.1 30)).2.2.1 9 _ = _
    rw [sA_ne (Or.inl (by decide))]; exact k9
  · show (sA S1 11 nh (S1.1 30)).2.2.1 10 _ = _
    rw [sA_ne (Or.inl (by decide))]; exact k10
  · show (sA S1 11 nh (S1.1 30)).2.2.1 11 _ = _
    rw [sA_eq]; exact (k12 30 rfl).1.symm
  · rw [sB_eq]; exact (k12 31 rfl).2.1.symm
  · refine (q.mono fun k hk => ?_).tr ((k12.mono fun k hk => ?_).tr ((eqB.A rfl).tr (eqB.B rfl)))
    · unfold f027; simp at hk ⊢; omega
    · unfold fNH; simp at hk ⊢; omega
set_option maxHeartbeats 4000000 in
theorem j_o65 (M : MI T S nh ns vs R) (X : CX ac T r ha sa nh ns vs R S C) (hlow : ∀ s, s < ns → ac ≤ sa s) (hF : FRS r) (hr : ac + 228 ≤ r.1) (hz : out ac (z 0)) (hz0 : r.2.2 (z 0) = some (.inl (tg, 0, .inl f0))) {h x y : Nat} (hh : h < nh) (hx : x < nh) (hy : y < nh) (F XX YY A b : Int32) (qX : ∀ j, j < 13 → F = nI j → lkX j → XX = nI x) (qY : ∀ j, j < 13 → F = nI j → lkY j → YY = nI y) : JS ac S r (fX10_other_44 z ac F A b (some (ha h)) (some (ha x)) (some (ha y)) (co ac C (mo (ac + 197) S r))) (gX11_other_65 F (nI h) XX YY A b (sI S 0 0)) := by
  have X1 := cx_mo X S
  obtain ⟨⟨n0, HO⟩, -, ⟨hv, hV⟩, ⟨hrc, hzr⟩, -⟩ := id X1
  have hW := M.2.1.1
  have hA := M.2.1.2.2.2
  have h60 := hW.1
  have hK := M.2.2.2.1.2
  have M0 := M.z
  have T0 := M0.1.1
  have V0 := M0.2.2.2.1.1
  have hF1 : FRS (mo (ac + 197) S r) := frs_mo hF hr
  have hr1 : ac + 228 ≤ (mo (ac + 197) S r).1 := hr
  have eP := c_pinit (z := z) (ac := ac) (r := mo (ac + 197) S r) (C := C) F A b (ha h) (ha x) (ha y) (by omega)
  have GP := GX.new hF1 (show ac ≤ (mo (ac + 197) S r).1 by omega) 6 (.inr (2, [.inl F, rfV (ha h), rfV (ha x), rfV (ha y), .inl A, .inl b]))
  have pP : pOk ac (hnew (mo (ac + 197) S r) 6 (.inr (2, [.inl F, rfV (ha h), rfV (ha x), rfV (ha y), .inl A, .inl b]))) (mo (ac + 197) S r).1 F (ha h) (ha x) (ha y) A b := ⟨by unfold out; omega, new_at _ _ _⟩
  have HP : ∀ c, c < nh → hOk ac T (hnew (mo (ac + 197) S r) 6 (.inr (2, [.inl F, rfV (ha h), rfV (ha x), rfV (ha y), .inl A, .inl b]))) ha c := fun c hc => (HO c hc).2.ex GP.ex
  have hzP : (hnew (mo (ac + 197) S r) 6 (.inr (2, [.inl F, rfV (ha h), rfV (ha x), rfV (ha y), .inl A, .inl b]))).2.2 (z 0) = some (.inl (tg, 0, .inl f0)) := new_old hF1 _ _ (by rw [mo_out _ _ _ (out_mo hz)]; exact hz0)
  have hrP : ac + 228 ≤ (hnew (mo (ac + 197) S r) 6 (.inr (2, [.inl F, rfV (ha h), rfV (ha x), rfV (ha y), .inl A, .inl b]))).1 := by show ac + 228 ≤ r.1 + 1; omega
  have start : fX10_other_44 z ac F A b (some (ha h)) (some (ha x)) (some (ha y)) (co ac C (mo (ac + 197) S r)) = (fX6_otherFits z (some (mo (ac + 197) S r).1) (co ac C (hnew (mo (ac + 197) S r) 6 (.inr (2, [.inl F, rfV (ha h), rfV (ha x), rfV (ha y), .inl A, .inl b]))))).bind fun q105 => if q105.1 = 0 then some (-3, q105.2) else (fX6_ofOther z (some (mo (ac + 197) S r).1) q105.2).bind fun q106 => Option.elim q106.1 (some (-4, q106.2)) fun a107 => if F = 0 then (rdR q106.2 (ha h) [0, 1] 1).bind fun r108 => r108.bind fun a110 => (obO q106.2 a110 6).bind fun _ => (fX8_at z a110 A q106.2).bind fun q109 => (obO q109.2 ac 8).bind fun _ => (fX10_canBind z ac q109.1 q109.2).bind fun q112 => if q112.1 = 0 then some (-4, q112.2) else fX10_other_131 z ac F A (some (ha h)) (some (mo (ac + 197) S r).1) (some a107) q112.2 else fX10_other_131 z ac F A (some (ha h)) (some (mo (ac + 197) S r).1) (some a107) q106.2 := by
    unfold fX10_other_44
    simp only [Option.elim]
    rw [co_hnew (by omega)]
    have eP : fX3_init z (co ac C (mo (ac + 197) S r)).1 F (some (ha h)) (some (ha x)) (some (ha y)) A b (co ac C (hnew (mo (ac + 197) S r) 6 (.inr (2, dz2)))) = _ := eP
    rw [eP, o_bs]
    rfl
  rw [start]
  generalize hnew (mo (ac + 197) S r) 6 (.inr (2, [.inl F, rfV (ha h), rfV (ha x), rfV (ha y), .inl A, .inl b])) = rP at GP pP HP hzP hrP ⊢
  generalize epa : (mo (ac + 197) S r).1 = pa at pP ⊢
  unfold gX11_other_65
  by_cases hj : ∃ j, j < 13 ∧ F = nI j
  · obtain ⟨j, hj, rfl⟩ := hj
    have hx2 : lkX j → XX = nI x ∧ x < nh := fun q => ⟨qX j hj rfl q, hx⟩
    have hy2 : lkY j → YY = nI y ∧ y < nh := fun q => ⟨qY j hj rfl q, hy⟩
    by_cases hO : oK T j h A b
    · rw [(c_fitsO hW hh (HP h hh) hj pP).1 hO, o_bs, (g_outside hW T0 hh hj).1 hO, o_bs]
      simp only
      rw [if_neg (show ¬ (1 : Int32) = 0 by decide), if_pos trivial]
      obtain ⟨⟨a, hVa⟩, -⟩ := id hO
      have SH := g_shape (vs := vs) (x := x) (y := y) hW T0 V0 hj hh hx2 hy2 hVa
      have fz : ∀ q : Nat, q < 2 ^ 31 → (nI q = 0 ↔ q = 0) := fun q hq => by rw [← nI_0]; exact nI_eq hq (by decide)
      by_cases hC : oC T vs j h x y a
      · obtain ⟨S2, ts, eS, w, hT, q2, hb⟩ := SH.1 hC
        obtain ⟨h6, hok⟩ := o_len hW hA hj hh hx hVa hC hT
        have TOo := c_ofOther (z := z) (C := C) (vs := vs) (ts := ts) hA GP.1 hrP hz hzP hj hx (HP h hh) (HP x hx) (HP y hy) pP hVa (fun _ => hT)
        obtain ⟨r2, ty, e2, G2, at2⟩ := TOo.1 fun _ => hC
        have q3 := q027 q2
        have hg0 : 0 ≤ oG T j h x y := by
          have : isT (oG T j h x y) := by
            unfold oG
            split
            · exact (hA x hx).1
            · split
              · exact (hA y hy).1
              · exact (hA h hh).1
          rcases this with u | u | u | u | u <;> rw [u] <;> decide
        have pP2 : pOk ac r2 pa (nI j) (ha h) (ha x) (ha y) A b := ⟨pP.1, G2.2.1 _ _ pP.2⟩
        have H2 : hOk ac T r2 ha h := (HP h hh).ex G2.ex
        rw [e2, o_bs, eS, o_bs]
        simp only [Option.elim]
        rw [if_pos hg0]
        have bind0 : j = 0 → bOK T vs h a ∧ okT (tI T 4 (6 * h + a)) ∧ A = nI a ∧ a < tN T 3 h := fun q => by
          subst q
          obtain ⟨u1, u2⟩ := hVa.1 (Or.inl rfl)
          exact ⟨oC_0.mp hC, (hA h hh).2 a u2, u1, u2⟩
        have all : (if nI j = 0 then (rdR (co ac C r2) (ha h) [0, 1] 1).bind fun r108 => r108.bind fun a110 => (obO (co ac C r2) a110 6).bind fun _ => (fX8_at z a110 A (co ac C r2)).bind fun q109 => (obO q109.2 ac 8).bind fun _ => (fX10_canBind z ac q109.1 q109.2).bind fun q112 => if q112.1 = 0 then some (-4, q112.2) else fX10_other_131 z ac (nI j) A (some (ha h)) (some pa) (some ty) q112.2 else fX10_other_131 z ac (nI j) A (some (ha h)) (some pa) (some ty) (co ac C r2)) = fX10_other_131 z ac (nI j) A (some (ha h)) (some pa) (some ty) (co ac C r2) := by
          by_cases hj0 : j = 0
          · obtain ⟨u1, u2, u3, u4⟩ := bind0 hj0
            obtain ⟨th, Hh, rh⟩ := h_ty H2
            obtain ⟨fh, ofh⟩ := t_ob (C := C) Hh
            obtain ⟨f8, o8⟩ := q_o8 ac C r2
            rw [if_pos ((fz j (by omega)).mpr hj0), rh, o_bs, o_bs, ofh, o_bs]
            rw [show fX8_at z th A (co ac C r2) = some (tI T 4 (6 * h + a), co ac C r2) by rw [u3]; exact t_at0 Hh u4, o_bs]
            simp only
            rw [o8, o_bs, (c_can hv hK).1 u1, o_bs]
            simp only
            rw [if_neg (by decide)]
          · rw [if_neg (fun q => hj0 ((fz j (by omega)).mp q))]
        rw [all]
        have e11 : S2.1 1 = nI nh := by rw [← (q3 1 rfl).1]; exact M.1.2
        by_cases hn : nh = 60
        · refine j_grow (a := -5) X hlow hF hr (GP.tr G2) (by decide) (by decide) ?_ ?_ (M.s27 q3) (sq27 q3)
          · unfold fX10_other_131
            rw [q_hc, o_bs, n0, hn, if_neg (by decide)]
          · rw [e11, hn, if_pos (by decide)]
        · have hn60 : nh < 60 := by omega
          rw [if_neg (show ¬ S2.1 1 = 60 from fun u => hn ((nI_eq (b := 60) (by omega) (by decide)).mp (by rw [← e11]; exact u)))]
          obtain ⟨S3, e3, E, k1, k2, k3, k4, ⟨k5, k6, k7, k8, k9, k10⟩, ⟨k11, k12⟩, q4⟩ := g_newO (j := j) (h := h) (X := XX) (Y := YY) (A := A) (b := b) (g := oG T j h x y) hn60 q3 M.1.1 e11 w h6
          obtain ⟨hk, hn3, e4, e5⟩ := c_o131 (z := z) (ty := ty) (nr := R.2.1) n0 hn60 G2.1 (show ac + 228 ≤ r2.1 by have := G2.2.2.1; omega) hj pP2 H2 hv hK bind0
          have b11 : j = 0 → tI S3 11 nh = (bV T vs h a).1 ∧ S3.2.2.2 12 nh = (bV T vs h a).2 := fun u => ⟨by rw [k11]; exact (hb u).1, by rw [k12]; exact (hb u).2⟩
          obtain ⟨ly, nW, nY, nA⟩ := p_newO hW hA hK E hj hh hx hy hVa hC hT k2 k3 k4 k5 k6 (fun u => by rw [k7]; exact (hx2 u).1) (fun u => by rw [k8]; exact (hy2 u).1) k9 b11
          have G5 := GX.new (ac := ac) G2.1 (show ac ≤ r2.1 by have := G2.2.2.1; omega) 6 (.inr (1, [.inl (nI j), rfV ty, .inl b, rfV pa, .inl hk, .inr (.inl hn3)]))
          have Gall := (GP.tr G2).tr G5
          obtain ⟨r3, er, G3⟩ := Gall.om hr hF
          have xr : ∀ v e, out ac v → (hnew r2 6 (.inr (1, [.inl (nI j), rfV ty, .inl b, rfV pa, .inl hk, .inr (.inl hn3)]))).2.2 v = some e → r3.2.2 v = some e := fun v e hv he => by
            rw [er, mo_out _ _ _ (out_mo hv)] at he
            exact he
          have M2 := M.new q4 (fun k hk => by simp; omega) hn60 E k1 nW (fun u => by
            rw [k2] at u
            have := (nI_eq (b := 12) (by omega) (by decide)).mp u
            omega) (Or.inr nY) nA
          have or2 : out ac r2.1 := by have := G2.2.2.1; unfold out; omega
          have m6 : tN S3 6 nh = h := by show (tI S3 6 nh).toNatClampNeg = _; rw [k6]; exact nI_clamp (by omega)
          have m7 : lkX j → tN S3 7 nh = x := fun u => by show (tI S3 7 nh).toNatClampNeg = _; rw [k7, (hx2 u).1]; exact nI_clamp (by omega)
          have m8 : lkY j → tN S3 8 nh = y := fun u => by show (tI S3 8 nh).toNatClampNeg = _; rw [k8, (hy2 u).1]; exact nI_clamp (by omega)
          have hN : hOk ac S3 r3 (haN ha nh r2.1) nh := by
            refine ⟨by rw [haN_eq]; exact or2, ty, ?_, Or.inr ⟨j, pa, ha x, ha y, hj, k2, pP.1, ⟨hk, hn3, ?_, fun u => ?_⟩, ?_, by rw [m6]; exact hh, fun u => ?_, fun u => ?_⟩⟩
            · rw [ly, k5]
              exact (at2.ex G5.ex).ex fun v e hv _ he => xr v e hv he
            · rw [haN_eq, k10]
              exact xr _ _ or2 (new_at _ _ _)
            · rw [(b11 u).1, (b11 u).2]; exact e5 u
            · rw [m6, haN_lt hh, k9, k10]
              exact xr _ _ pP.1 (G5.2.1 _ _ pP2.2)
            · rw [m7 u, haN_lt hx]; exact ⟨rfl, hx⟩
            · rw [m8 u, haN_lt hy]; exact ⟨rfl, hy⟩
          refine ⟨nI nh, cI (cR C 0 nh (some r2.1)) 0 (nI (nh + 1)), S3, S3, r3, haN ha nh r2.1, sa, nh + 1, ns, vs, R, ?_, ?_, M2, X.new hW E G3 (sq_e q4 rfl rfl rfl rfl rfl rfl) hN, ⟨fun _ => G3.1, G3.2.2.1, by have := G3.2.2.2.1; omega, by have := G3.2.2.2.2.1; omega, G3.2.2.2.2.2⟩, hlow⟩
          · rw [← er]; exact e4
          · exact e3
      · obtain ⟨S2, eS, q2⟩ := SH.2 hC
        have q3 := q027 q2
        rw [eS, o_bs]
        simp only
        rw [if_neg (show ¬ (0 : Int32) ≤ -1 by decide)]
        by_cases hj0 : j = 0
        · subst hj0
          obtain ⟨u1, u2⟩ := hVa.1 (Or.inl rfl)
          have TOo := c_ofOther (z := z) (C := C) (vs := vs) (ts := (tys T h).take a ++ (tys T h).drop (a + 1)) hA GP.1 hrP hz hzP hj hx (HP h hh) (HP x hx) (HP y hy) pP hVa (fun _ => oT_0 rfl)
          obtain ⟨r2, ty, e2, G2, at2⟩ := TOo.1 fun u => absurd rfl u
          have H2 : hOk ac T r2 ha h := (HP h hh).ex G2.ex
          obtain ⟨th, Hh, rh⟩ := h_ty H2
          obtain ⟨fh, ofh⟩ := t_ob (C := C) Hh
          obtain ⟨f8, o8⟩ := q_o8 ac C r2
          refine j_grow (a := -4) X hlow hF hr (GP.tr G2) (by decide) (by decide) ?_ rfl (M.s27 q3) (sq27 q3)
          rw [e2, o_bs]
          simp only [Option.elim]
          rw [if_pos (by decide), rh, o_bs, o_bs, ofh, o_bs]
          rw [show fX8_at z th A (co ac C r2) = some (tI T 4 (6 * h + a), co ac C r2) by rw [u1]; exact t_at0 Hh u2, o_bs]
          simp only
          rw [o8, o_bs, (c_can hv hK).2 fun u => hC (oC_0.mpr u), o_bs]
          simp only
          rw [if_pos trivial]
        · have TOo := c_ofOther (z := z) (C := C) (vs := vs) (ts := []) hA GP.1 hrP hz hzP hj hx (HP h hh) (HP x hx) (HP y hy) pP hVa (fun u => absurd (u hj0) hC)
          obtain ⟨r2, e2, G2⟩ := TOo.2 fun u => hC (u hj0)
          refine j_grow (a := -4) X hlow hF hr (GP.tr G2) (by decide) (by decide) ?_ rfl (M.s27 q3) (sq27 q3)
          rw [e2, o_bs]
          rfl
    · rw [(c_fitsO hW hh (HP h hh) hj pP).2 hO, o_bs, (g_outside hW T0 hh hj).2 hO, o_bs]
      simp only
      rw [if_pos trivial, if_neg (show ¬ (1 : Int32) = 0 by decide)]
      exact j_grow (a := -3) X hlow hF hr GP (by decide) (by decide) rfl rfl M0 (sq_z S)
  · have hN : ∀ j, j < 13 → F ≠ nI j := fun j h1 h2 => hj ⟨j, h1, h2⟩
    rw [c_fitsN hW hh (HP h hh) hN pP, o_bs, g_outsideN hW T0 hh hN, o_bs]
    simp only
    rw [if_pos trivial, if_neg (show ¬ (1 : Int32) = 0 by decide)]
    exact j_grow (a := -3) X hlow hF hr GP (by decide) (by decide) rfl rfl M0 (sq_z S)
end
