/-! CLASS AND REFERENCE: site, turn. My own rows. -/
section
variable {z : Nat → Nat} {ac : Nat} {T S : mS} {r : aH} {ha sa : Nat → Nat} {nh ns : Nat} {vs : List aVl} {R : aRS} {C : cS}
theorem j_turn (M : MI T S nh ns vs R) (X : CX ac T r ha sa nh ns vs R S C) (hlow : ∀ s, s < ns → ac ≤ sa s) (x y : Int32) : JS ac S r (fX10_turn z ac x y (co ac C (mo (ac + 197) S r))) (gX11_turn x y S) := by
  have X1 := cx_mo X S
  have h60 := M.2.1.1.1
  have h10 := M.2.2.2.2.1
  obtain ⟨fs, o8⟩ : ∃ fs, obO (co ac C (mo (ac + 197) S r)) ac 8 = some fs := q_o8 ac C _
  rcases c_site (z := z) X1 h10 x with ⟨s, hs, rfl, e⟩ | ⟨hx, e⟩
  · rcases c_handle (z := z) X1 h60 y with ⟨c, hc, rfl, e2⟩ | ⟨hy, e2⟩
    · obtain ⟨⟨n0, HO⟩, ⟨n1, HS, -⟩, hV, hr, hl⟩ := id X1
      obtain ⟨s0, ty, h, st, s1, s2, s3, s4, s5, s6⟩ := (HS s hs).2
      obtain ⟨tc, fc, b1, b2, b3, b4, b5, b6⟩ := h_ty2 (HO c hc).2
      have ealk := t_alike (z := z) (C := C) b1 s5
      have ro : rdI (co ac C (mo (ac + 197) S r)) (sa s) [5] 2 = some (S.2.2.1 19 s) := p_rdI s6 s0 (by decide) rfl
      have rt : rdR (co ac C (mo (ac + 197) S r)) (sa s) [5] 0 = some (some ty) := p_rdR s6 s0 (by decide) rfl
      have hc0 : fX10_turn z ac (nI s) (nI c) (co ac C (mo (ac + 197) S r)) = if S.2.2.1 19 s = -1 then some (-4, co ac C (mo (ac + 197) S r)) else if (if tys T c = tys T h ∧ tI T 5 c = tI T 5 h then (1 : Int32) else 0) = 0 then some (-4, co ac C (mo (ac + 197) S r)) else (wrF (co ac C (mo (ac + 197) S r)) (sa s) [5] 2 (.inl (nI c))).bind fun h113 => some (1, h113) := by
        unfold fX10_turn
        simp only [o8, o_bs, e, e2, Option.elim, ro, b2, rt, b3, ealk]
      rcases g_turn M hs hc s1 s3 with ⟨hb, g⟩ | ⟨⟨hb1, hb2⟩, S2, g, M2, g19, go, q⟩
      · refine js_jr hlow (j_no M X1 ?_ g)
        rw [hc0]
        rcases hb with hb | hb
        · rw [if_pos hb]
        · rw [if_neg (c := tys T c = tys T h ∧ tI T 5 c = tI T 5 h) hb]
          split <;> rfl
      · have s6' : r.2.2 (sa s) = some (.inr (5, [rfV ty, rfV (ha st), .inl (S.2.2.1 19 s)])) := by rw [← mo_out (ac + 197) S r (out_mo s0)]; exact s6
        have s5' : aTy ac r ty (tys T h) (tI T 5 h) := s5.ex fun x e a _ hx => by rw [← mo_out (ac + 197) S r (out_mo a)]; exact hx
        refine ⟨1, C, S2, T, hup r (sa s) (.inr (5, [rfV ty, rfV (ha st), .inl (nI c)])), ha, sa, nh, ns, vs, R, ?_, g, M2, ?_, RQ.up s0 (hlow s hs) s6', hlow⟩
        · rw [hc0, if_neg hb1, if_pos (c := tys T c = tys T h ∧ tI T 5 c = tI T 5 h) hb2, if_neg (by decide), hup_wr s0 s6, o_bs, mo_hupo (out_mo s0)]
          rfl
        · have e17 := (q 17 rfl).2.2.1.symm
          have e18 := (q 18 rfl).2.2.1.symm
          exact X.link hs s0 s5' s1 s2 s3 s4 s6' e17 e18 g19 go ⟨rfl, rfl, rfl⟩ X.2.2.1 X.2.2.2.1 ⟨by rw [← (q 23 rfl).1]; exact X.2.2.2.2.1, by rw [← (q 24 rfl).2.1]; exact X.2.2.2.2.2.1, by rw [← (q 26 rfl).1]; exact X.2.2.2.2.2.2⟩
    · refine js_jr hlow (j_no M X1 ?_ (g_turn0 M (Or.inr hy)))
      unfold fX10_turn
      simp only [o8, o_bs, e, e2, Option.elim]
  · refine js_jr hlow (j_no M X1 ?_ (g_turn0 M (Or.inl hx)))
    unfold fX10_turn
    rcases c_handle (z := z) X1 h60 y with ⟨c, hc, rfl, e2⟩ | ⟨hy, e2⟩
    · simp only [o8, o_bs, e, e2, Option.elim]
    · simp only [o8, o_bs, e, e2, Option.elim]
theorem hup_new (r : aH) (n : Nat) (e e2 : aE) : hup (hnew r n e) r.1 e2 = hnew r n e2 := by
  unfold hup hnew
  simp only
  congr 2
  funext x
  by_cases hx : x = r.1
  · rw [if_pos hx, if_pos hx]
  · rw [if_neg hx, if_neg hx, if_neg hx]
theorem RQ.new {n : Nat} {e : aE} (hr : ac ≤ r.1) (hn : n ≤ 10) : RQ ac r (hnew r n e) := ⟨fun h => h.new n e, by show r.1 ≤ r.1 + 1; omega, by show r.1 + 1 ≤ r.1 + 10; omega, by show r.2.1 + n ≤ r.2.1 + 100; omega, fun x hx => by
  show (if x = r.1 then _ else r.2.2 x) = _
  rw [if_neg (by omega)]⟩
theorem wr_new {n c k : Nat} {fs : List aV} {v : aV} {cs : List Nat} (hr : ac + 197 ≤ r.1) (hc : c ∈ cs) : wrF (co ac C (hnew r n (.inr (c, fs)))) r.1 cs k v = some (co ac C (hnew r n (.inr (c, fs.set k v)))) := by
  unfold wrF
  rw [co_out ac C _ (by omega), new_at]
  simp only
  rw [if_pos hc, co_hupo (by omega), hup_new]
theorem j_site (M : MI T S nh ns vs R) (X : CX ac T r ha sa nh ns vs R S C) (hlow : ∀ s, s < ns → ac ≤ sa s) (hF : FRS r) (hr : ac + 228 ≤ r.1) (x y : Int32) : JS ac S r (fX10_site z ac x y (co ac C (mo (ac + 197) S r))) (gX11_site x y S) := by
  have X1 := cx_mo X S
  have h60 := M.2.1.1.1
  have h10 := M.2.2.2.2.1
  obtain ⟨fs, o8⟩ : ∃ fs, obO (co ac C (mo (ac + 197) S r)) ac 8 = some fs := q_o8 ac C _
  rcases c_handle (z := z) X1 h60 x with ⟨h, hh, rfl, e⟩ | ⟨hx, e⟩
  · rcases c_handle (z := z) X1 h60 y with ⟨st, hst, rfl, e2⟩ | ⟨hy, e2⟩
    · obtain ⟨⟨n0, HO⟩, ⟨n1, HS, -⟩, hV, hrr, hl⟩ := id X1
      obtain ⟨ts, fts, b1, b2, b3, b4, b5, b6⟩ := h_ty2 (HO st hst).2
      obtain ⟨th, fth, d1, d2, d3, d4, d5, d6⟩ := h_ty2 (HO h hh).2
      have hm := (M.2.1.1.m hst).2
      have c0 : (nI (tN T 3 st) = 0) ↔ tN T 3 st = 0 := by rw [← nI_0]; exact nI_eq (by omega) (by decide)
      rcases g_site M hh hst with ⟨hb, g⟩ | ⟨hb, hn, g⟩ | ⟨hb, hn, S2, g, M2, g17, g18, g19, go, q⟩
      · refine js_jr hlow (j_no M X1 ?_ g)
        unfold fX10_site
        simp only [o8, o_bs, e, e2, Option.elim, b2, b3, b4, b5]
        by_cases q0 : tN T 3 st = 0
        · rw [if_pos (c0.mpr q0), if_neg (fun q5 => hb ⟨q0, q5⟩)]
        · rw [if_neg (fun q => q0 (c0.mp q))]
      · refine js_jr hlow (j_no M X1 ?_ g)
        unfold fX10_site
        simp only [o8, o_bs, e, e2, Option.elim, b2, b3, b4, b5, q_sc, n1, hn]
        rw [if_pos (c0.mpr hb.1), if_pos hb.2, if_neg (by decide)]
      · have hR1 : ac + 197 ≤ (mo (ac + 197) S r).1 := by show ac + 197 ≤ r.1; omega
        have enew : ∀ (n : Nat) (e : aE), hnew (mo (ac + 197) S r) n e = mo (ac + 197) S (hnew r n e) := fun n e => mo_hnew (by omega)
        have dr : rdR (co ac C (hnew (mo (ac + 197) S r) 3 (.inr (5, dz5)))) (ha h) [0, 1] 1 = some (some th) := by
          have hOkh := (HO h hh).2.ex (FRS.ex (ac := ac) (r := mo (ac + 197) S r) (fun x hx => by
            have hx : r.1 ≤ x := hx
            rw [mo_out _ _ _ (by omega)]
            exact hF x hx) 3 (.inr (5, dz5)))
          obtain ⟨ho, ty, h1, ⟨j, h2, h3, h4⟩ | ⟨j, pa, hx, hy, h2, h3, h4, ⟨hk, hn, h5, h6⟩, h7⟩⟩ := (HO h hh).2
          · have hd := d2 C
            rw [p_rdR h4 ho (by decide) rfl] at hd
            have hF2 : FRS (mo (ac + 197) S r) := fun x hx => by
              have hx : r.1 ≤ x := hx
              rw [mo_out _ _ _ (by omega)]
              exact hF x hx
            rw [p_rdR (new_old hF2 3 (.inr (5, dz5)) h4) ho (by decide) rfl]
            exact hd
          · have hd := d2 C
            rw [p_rdR h5 ho (by decide) rfl] at hd
            have hF2 : FRS (mo (ac + 197) S r) := fun x hx => by
              have hx : r.1 ≤ x := hx
              rw [mo_out _ _ _ (by omega)]
              exact hF x hx
            rw [p_rdR (new_old hF2 3 (.inr (5, dz5)) h5) ho (by decide) rfl]
            exact hd
        have fin : fX10_site z ac (nI h) (nI st) (co ac C (mo (ac + 197) S r)) = some (nI ns, co ac (cI (cR C 1 ns (some r.1)) 1 (nI (ns + 1))) (mo (ac + 197) S (hnew r 3 (.inr (5, [rfV th, rfV (ha st), .inl (-1)]))))) := by
          unfold fX10_site fX7_init
          simp only [o8, o_bs, e, e2, Option.elim, b2, b3, b4, b5, q_sc, n1, q_ss]
          rw [if_pos (c0.mpr hb.1), if_pos hb.2, if_pos (show nI ns < 10 from nI_lt (b := 10) hn (by decide)), co_hnew hR1, dr, o_bs]
          show ((((wrF (co ac C (hnew (mo (ac + 197) S r) 3 (.inr (5, dz5)))) (mo (ac + 197) S r).1 [5] 2 (.inl (-1))).bind fun h101 => (wrF h101 (mo (ac + 197) S r).1 [5] 0 (.inr (.inr (some th)))).bind fun h102 => (wrF h102 (mo (ac + 197) S r).1 [5] 1 (.inr (.inr (some (ha st))))).bind fun h103 => some h103)).bind fun q118 => (awR q118 (ac + 2) (nI ns) 1 [5] (mo (ac + 197) S r).1).bind fun h120 => (rdI h120 ac [8] 3).bind fun x121 => (wrF h120 ac [8] 3 (.inl (x121 + 1))).bind fun h122 => (rdI h122 ac [8] 3).bind fun x123 => some (x123 - 1, h122)) = _
          rw [wr_new hR1 (by decide), o_bs, wr_new hR1 (by decide), o_bs, wr_new hR1 (by decide), o_bs, o_bs]
          rw [w_ss ac C _ hn (by show ¬ (ac ≤ r.1 ∧ r.1 < ac + 197); omega) (new_at _ _ _) (by decide), o_bs, q_sc, o_bs, w_sc, o_bs, q_sc, o_bs]
          have en : (cR C 1 ns (some (mo (ac + 197) S r).1)).1 1 = nI ns := n1
          rw [en, nI_1]
          have en2 : (cI (cR C 1 ns (some (mo (ac + 197) S r).1)) 1 (nI (ns + 1))).1 1 = nI (ns + 1) := by simp [cI, va_up]
          rw [en2, nI_p1, enew]
          rfl
        refine ⟨nI ns, _, S2, T, _, ha, (fun s => if s = ns then r.1 else sa s), nh, ns + 1, vs, R, fin, g, M2, ?_, RQ.new (by omega) (by decide), fun s hs => ?_⟩
        · obtain ⟨⟨k0, KO⟩, ⟨k1, KS, kinj⟩, ⟨kv, kV⟩, ⟨kr, kz⟩, kl⟩ := id X
          have x := FRS.ex (ac := ac) hF 3 (.inr (5, [rfV th, rfV (ha st), .inl (-1)]))
          have lt : ∀ s, s < ns → sa s < r.1 := fun s hs => by
            obtain ⟨s0, ty, h', st', s1, s2, s3, s4, s5, s6⟩ := (KS s hs).2
            exact hF.lt s6
          have hth : aTy ac r th (tys T h) (tI T 5 h) := d1.ex fun x e a _ hx => by rw [← mo_out (ac + 197) S r (out_mo a)]; exact hx
          have zc : kpt 0 C C := kpt.rf _ _
          refine ⟨⟨?_, fun c hc => ⟨?_, (KO c hc).2.ex x⟩⟩, ⟨?_, fun s hs => ?_, fun s t hs ht he => ?_⟩, ⟨?_, ?_⟩, ⟨?_, kz⟩, ?_⟩
          · simp only [cI, cR]; rw [up_ne _ _ (by decide)]; exact k0
          · simp only [cI, cR]; rw [up_ne _ _ (by decide)]; exact (KO c hc).1
          · simp [cI, va_up]
          · by_cases hsn : s = ns
            · subst hsn
              refine ⟨?_, ?_⟩
              · simp only [cI, cR, up_eq]; rw [if_pos trivial]
              · refine ⟨by show out ac (if s = s then r.1 else sa s); rw [if_pos rfl]; unfold out; omega, th, h, st, hh, hst, g17, g18, hth.ex x, ?_⟩
                show (hnew r 3 _).2.2 (if s = s then r.1 else sa s) = _
                rw [if_pos rfl, new_at, g19]
            · have hs2 : s < ns := by omega
              refine ⟨?_, ?_⟩
              · simp only [cI, cR, up_eq]; rw [up_ne _ _ hsn, if_neg hsn]; exact (KS s hs2).1
              · obtain ⟨s0, ty, h', st', s1, s2, s3, s4, s5, s6⟩ := (KS s hs2).2
                obtain ⟨w17, w18, w19⟩ := go s hs2
                refine ⟨by show out ac (if s = ns then r.1 else sa s); rw [if_neg hsn]; exact s0, ty, h', st', s1, s2, by rw [w17]; exact s3, by rw [w18]; exact s4, s5.ex x, ?_⟩
                show (hnew r 3 _).2.2 (if s = ns then r.1 else sa s) = _
                rw [if_neg hsn, w19]
                exact new_old hF _ _ s6
          · have he : (if s = ns then r.1 else sa s) = (if t = ns then r.1 else sa t) := he
            by_cases h1 : s = ns
            · by_cases h2 : t = ns
              · omega
              · rw [if_pos h1, if_neg h2] at he
                have := lt t (by omega)
                omega
            · by_cases h2 : t = ns
              · rw [if_neg h1, if_pos h2] at he
                have := lt s (by omega)
                omega
              · rw [if_neg h1, if_neg h2] at he
                exact kinj s t (by omega) (by omega) he
          · exact ⟨kv.1, by simp only [cI, cR]; rw [up_ne _ _ (by decide)]; exact kv.2.1, kv.2.2⟩
          · intro j hj
            obtain ⟨as, a, b, c⟩ := kV j hj
            exact ⟨as, a, by simp only [cI, cR]; rw [up_ne _ _ (by omega)]; exact b, c⟩
          · exact ⟨by simp only [cI, cR]; rw [up_ne _ _ (by decide)]; exact kr.1, by simp only [cI, cR]; rw [up_ne _ _ (by decide)]; exact kr.2.1, kr.2.2.1, kr.2.2.2.1, by simp only [cI, cR]; rw [up_ne _ _ (by decide)]; exact kr.2.2.2.2⟩
          · refine ⟨?_, ?_, ?_⟩
            · simp only [cI, cR]; rw [up_ne _ _ (by decide), ← (q 23 rfl).1]; exact kl.1
            · rw [← (q 24 rfl).2.1]; exact kl.2.1
            · simp only [cI, cR]; rw [up_ne _ _ (by decide), ← (q 26 rfl).1]; exact kl.2.2
        · show ac ≤ (if s = ns then r.1 else sa s)
          by_cases hsn : s = ns
          · rw [if_pos hsn]; omega
          · rw [if_neg hsn]; exact hlow s (by omega)
    · refine js_jr hlow (j_no M X1 ?_ (g_site0 M (Or.inr hy)))
      unfold fX10_site
      simp only [o8, o_bs, e, e2, Option.elim]
  · refine js_jr hlow (j_no M X1 ?_ (g_site0 M (Or.inl hx)))
    unfold fX10_site
    rcases c_handle (z := z) X1 h60 y with ⟨c, hc, rfl, e2⟩ | ⟨hy, e2⟩
    · simp only [o8, o_bs, e, e2, Option.elim]
    · simp only [o8, o_bs, e, e2, Option.elim]
end
