/-! CLASS AND REFERENCE: runSite. My own rows. -/
theorem hup_same {r : aH} {x : Nat} {e : aE} (h : r.2.2 x = some e) : hup r x e = r := by
  obtain ⟨a, b, f⟩ := r
  unfold hup
  simp only at h ⊢
  congr 2
  funext y
  by_cases hy : y = x
  · rw [if_pos hy, hy, h]
  · rw [if_neg hy]
section
variable {z : Nat → Nat} {ac : Nat} {T S : mS} {r : aH} {ha sa : Nat → Nat} {nh ns : Nat} {vs : List aVl} {R : aRS} {C : cS}
theorem c_handle0 (n0 : C.1 0 = nI nh) (HR : ∀ c, c < nh → C.2.2.2.2 0 c = some (ha c)) (h60 : nh ≤ 60) (x : Int32) : (∃ c, c < nh ∧ x = nI c ∧ fX10_handleAt z ac x (co ac C r) = some (some (ha c), co ac C r)) ∨ ((∀ c, c < nh → x ≠ nI c) ∧ fX10_handleAt z ac x (co ac C r) = some (none, co ac C r)) := by
  unfold fX10_handleAt
  by_cases h0 : x < 0
  · rw [if_pos h0]
    exact Or.inr ⟨fun c hc e => by rw [e] at h0; exact nI_pos (by omega) h0, rfl⟩
  · rw [if_neg h0, q_hc, o_bs, n0]
    obtain ⟨k, hk, rfl⟩ := nI_of h0
    by_cases hl : nh ≤ k
    · rw [if_pos (by rw [nI_leI (by omega) hk]; exact hl)]
      exact Or.inr ⟨fun c hc e => by have := (nI_eq hk (by omega)).mp e; omega, rfl⟩
    · rw [if_neg (by rw [nI_leI (by omega) hk]; exact hl), q_hs, o_bs, o_bs, r_hs ac C r (by omega), o_bs, HR k (by omega)]
      exact Or.inl ⟨k, by omega, rfl, rfl⟩
theorem c_handle1 (n0 : C.1 0 = nI nh) (HR : ∀ c, c < nh → C.2.2.2.2 0 c = some (ha c)) (h60 : nh ≤ 60) {l : Nat} (hl : l < nh) : fX10_handleAt z ac (nI l) (co ac C r) = some (some (ha l), co ac C r) := by
  rcases c_handle0 (z := z) (ac := ac) (r := r) n0 HR h60 (nI l) with ⟨c, hc, e, h⟩ | ⟨h, -⟩
  · have : l = c := (nI_eq (by omega) (by omega)).mp e
    rw [this]
    rw [this] at h
    exact h
  · exact absurd rfl (h l hl)
variable {x : Nat} {ty hs0 : Nat} {lk : Int32}
theorem rs_51f (n0 : C.1 0 = nI nh) (HR : ∀ c, c < nh → C.2.2.2.2 0 c = some (ha c)) (h60 : nh ≤ 60) (ho : out ac x) (hx : r.2.2 x = some (.inr (5, [rfV ty, rfV hs0, .inl lk]))) {f : Int32} (hf : ¬ f = 0) : fX10_runSite_51 z ac (some x) f (co ac C r) = (fX10_endRun z ac f (co ac C r)).bind fun q => some (q.1, q.2) := by
  obtain ⟨fs, o8⟩ : ∃ fs, obO (co ac C r) ac 8 = some fs := q_o8 ac C r
  have rl : rdI (co ac C r) x [5] 2 = some lk := p_rdI hx ho (by decide) rfl
  unfold fX10_runSite_51
  rcases c_handle0 (z := z) (ac := ac) (r := r) n0 HR h60 lk with ⟨c, hc, e, h⟩ | ⟨h, e⟩
  · simp only [o_bs, rl, o8, h]
    rw [if_neg hf]
  · simp only [o_bs, rl, o8, e]
    rw [if_neg hf]
theorem rs_510 (n0 : C.1 0 = nI nh) (HR : ∀ c, c < nh → C.2.2.2.2 0 c = some (ha c)) (h60 : nh ≤ 60) (ho : out ac x) {l : Nat} (hl : l < nh) (hx : r.2.2 x = some (.inr (5, [rfV ty, rfV hs0, .inl (nI l)]))) {f : Int32} {C2 : cS} (hp : fX5_perform z 70 (ac + 9) (some (ha l)) 0 (co ac C r) = some (f, co ac C2 r)) : fX10_runSite_51 z ac (some x) 0 (co ac C r) = (fX10_endRun z ac f (co ac C2 r)).bind fun q => some (q.1, q.2) := by
  obtain ⟨fs, o8⟩ : ∃ fs, obO (co ac C r) ac 8 = some fs := q_o8 ac C r
  obtain ⟨fs2, o82⟩ : ∃ fs, obO (co ac C2 r) ac 8 = some fs := q_o8 ac C2 r
  have rl : rdI (co ac C r) x [5] 2 = some (nI l) := p_rdI hx ho (by decide) rfl
  have e := c_handle1 (z := z) (ac := ac) (r := r) n0 HR h60 hl
  unfold fX10_runSite_51
  simp only [o_bs, rl, o8, e, if_true, Option.elim, q_rn, o4, hp, o82]
end
section
variable {z : Nat → Nat} {ac : Nat} {T S : mS} {r : aH} {ha sa : Nat → Nat} {nh ns : Nat} {vs : List aVl} {R : aRS} {C : cS}
theorem c_runSite (M : MI T S nh ns vs R) (X : CX ac T r ha sa nh ns vs R S C) {s o st ty : Nat} {lk lk2 ex : Int32} {q : aRes} (hs : s < ns) (ho : o < nh) (hst : st < nh) (s0 : out ac (sa s)) (s5 : aTy ac r ty (tys T o) (tI T 5 o)) (s6 : r.2.2 (sa s) = some (.inr (5, [rfV ty, rfV (ha st), .inl lk]))) (hts : tys T st = []) (hgs : tI T 5 st = 0) (hlk : lk = -1 ∨ ∃ l, l < nh ∧ lk = nI l ∧ alk T l o) (hq : rsS T nh o st lk ex vs R = some (q, lk2)) : ∃ C2, fX10_runSite z ac (nI s) ex (co ac C r) = (fX10_endRun z ac q.1 (co ac C2 (hup r (sa s) (.inr (5, [rfV ty, rfV (ha st), .inl lk2]))))).bind (fun q => some (q.1, q.2)) ∧ kpt 0 C C2 ∧ VF C2 ∧ rc q.2.2 C2 ∧ RZ q.2.2 ∧ (q.1 = 0 → C2.1 7 = q.2.1.1 ∧ C2.2.1 1 = q.2.1.2) := by
  obtain ⟨⟨n0, HO⟩, ⟨n1, HS, -⟩, ⟨hv, hV⟩, ⟨hrc, hz⟩, l1, l2, l3⟩ := id X
  obtain ⟨⟨m1, m2⟩, ⟨m3, m4, m5, m6⟩, ⟨m7, m8⟩, ⟨m9, m10⟩, m11, m12, m13⟩ := id M
  have h60 := m3.1
  obtain ⟨fs, o8⟩ : ∃ fs, obO (co ac C r) ac 8 = some fs := q_o8 ac C r
  have es : fX10_siteAt z ac (nI s) (co ac C r) = some (some (sa s), co ac C r) := by
    rcases c_site (z := z) X m11 (nI s) with ⟨t, ht, e, h⟩ | ⟨h, -⟩
    · have : s = t := (nI_eq (by omega) (by omega)).mp e
      rw [this]
      rw [this] at h
      exact h
    · exact absurd rfl (h s hs)
  have rt : ∀ C, rdR (co ac C r) (sa s) [5] 0 = some (some ty) := fun C => p_rdR s6 s0 (by decide) rfl
  have rs : ∀ C, rdR (co ac C r) (sa s) [5] 1 = some (some (ha st)) := fun C => p_rdR s6 s0 (by decide) rfl
  have rl : ∀ C, rdI (co ac C r) (sa s) [5] 2 = some lk := fun C => p_rdI s6 s0 (by decide) rfl
  obtain ⟨f1, C1, e1, r1, V1, k1, w1, w2⟩ := c_begin (z := z) (ac := ac) (ex := ex) hv hV hrc m10 s5 (m6 o ho).2
  have N1 : ∀ {C2 : cS}, kpt 0 C C2 → C2.1 0 = nI nh ∧ ∀ c, c < nh → C2.2.2.2.2 0 c = some (ha c) := fun {C2} k => ⟨by rw [k.1 0 (by decide)]; exact n0, fun c hc => by rw [k.2.2.1]; exact (HO c hc).1⟩
  have hsame : hup r (sa s) (.inr (5, [rfV ty, rfV (ha st), .inl lk])) = r := hup_same s6
  have fX : fX10_runSite z ac (nI s) ex (co ac C r) = if f1 = 0 then (if lk = -1 then (fX10_link z ac (some (sa s)) (co ac C1 r)).bind fun q111 => fX10_runSite_51 z ac (some (sa s)) q111.1 q111.2 else fX10_runSite_51 z ac (some (sa s)) f1 (co ac C1 r)) else fX10_runSite_51 z ac (some (sa s)) f1 (co ac C1 r) := by
    unfold fX10_runSite
    obtain ⟨fs1, o81⟩ : ∃ fs, obO (co ac C1 r) ac 8 = some fs := q_o8 ac C1 r
    simp only [o8, o_bs, es, Option.elim, q_rn, q_gv, rt, o4, e1, rl, o81]
  rw [fX]
  unfold rsS at hq
  by_cases hw : isW T o ex vs = true
  · rw [if_pos hw] at hq
    obtain ⟨rfl, rfl⟩ := Prod.mk.inj (Option.some.inj hq)
    rw [w1 hw, if_neg (by decide), hsame, rs_51f (N1 k1).1 (N1 k1).2 h60 s0 s6 (by decide)]
    exact ⟨C1, rfl, k1, V1, r1, hz, fun q => absurd q (show ¬ (7 : Int32) = 0 by decide)⟩
  · rw [if_neg hw] at hq
    obtain ⟨w3, w4⟩ := w2 hw
    by_cases h0 : f1 = 0
    · have hl0 : (layL T o 0 vs).1 = 0 := w3.symm.trans h0
      rw [if_pos hl0] at hq
      rw [if_pos h0]
      have hw2 : vs.length = tN T 3 o ∧ wrL T o ex 0 vs = false := by
        unfold isW at hw
        simp at hw
        exact hw
      have hvt : VTs R.2.1 (tys T o) (layL T o 0 vs).2 := by
        unfold tys
        rw [List.range_eq_range']
        exact lay_vts (ex := ex) (tN T 3 o) 0 vs hw2.1 (fun j _ h2 => (m6 o ho).2 j (by omega)) m10 hw2.2 hl0
      -- the handle that is linked is run
      have hrun : ∀ (l : Nat) (R1 : aRS) (C3 : cS) (r2 : aH) (q2 : aRes), l < nh → alk T l o → rnS T l vs R1 = some q2 → RT R1 → R.2.1 ≤ R1.2.1 → R1.1 ≤ 80 → RZ R1 → rc R1 C3 → VF C3 → CV C3 1 (layL T o 0 vs).2 → ex5 ac r r2 → ∃ C4, fX5_perform z 70 (ac + 9) (some (ha l)) 0 (co ac C3 r2) = some (q2.1, co ac C4 r2) ∧ CE 0 C3 C4 q2 := by
        intro l R1 C3 r2 q2 hl ha1 hq2 hR1 hle h80 hz1 hrc1 hV1 hA1 hx
        obtain ⟨a1, a2⟩ := ha1
        have hty4 : ∀ j, 0 ≤ j → j < 0 + vs.length → tI T 4 (6 * l + j) = tI T 4 (6 * o + j) := fun j _ hj => by
          have e3 : tN T 3 l = tN T 3 o := by rw [← tys_len, ← tys_len, a1]
          have u1 := tys_at T (c := l) (k := j) (by omega)
          rw [a1, tys_at T (show j < tN T 3 o by omega)] at u1
          exact (Option.some.inj u1).symm
        unfold rnS at hq2
        rw [layL_eq vs 0 hty4, if_pos hl0] at hq2
        obtain ⟨p, C4, p1, p2, p3, -⟩ := c_perf (z := z) m3 m4 m5 (fun x hx2 => (HO x hx2).2.ex hx) 82 (by decide) (by decide) nh 70 (Nat.le_refl _) (by omega) l (layL T o 0 vs).2 R1 C3 0 hl (by omega) (by rw [a1]; exact hvt.mono hle) hR1 hle (Nat.zero_le _) (by omega) hz1 hrc1 hV1 hA1
        rw [hq2] at p1
        have := Option.some.inj p1
        subst this
        exact ⟨C4, p2, p3⟩
      rcases hlk with hlk | ⟨l, hl, hlk, hal⟩
      · rw [if_neg (by rw [hlk]; decide)] at hq
        rw [if_pos hlk]
        -- link
        obtain ⟨C2, e2, a2, x2⟩ := c_open (z := z) (ac := ac) (r := r) (d := 0) (by decide) V1
        have e2 : fX5_opened z (ac + 9) 0 (co ac C1 r) = some (some (ac + vO 2), co ac C2 r) := e2
        obtain ⟨p, C3, p1, p2, ⟨p3, p4, p5, p6, p7⟩, p8, p9, p10, p11, p12⟩ := c_perf (z := z) m3 m4 m5 (fun x hx2 => (HO x hx2).2) 82 (by decide) (by decide) nh 70 (Nat.le_refl _) (by omega) st [] (0, R.2) C2 1 hst (by omega) (by rw [hts]; exact trivial) ⟨m7.1, m7.2⟩ (Nat.le_refl _) (Nat.zero_le _) (Nat.zero_le _) hz (r1.x x2) (V1.x x2 a2) a2
        have p2 : fX5_perform z 70 (ac + 9) (some (ha st)) 1 (co ac C2 r) = some (p.1, co ac C3 r) := p2
        rw [p1, o_bs] at hq
        have k3 : kpt 0 C C3 := (k1.tr (x2.k (by decide))).tr (p6.dn (by decide))
        obtain ⟨fs3, o83⟩ : ∃ fs, obO (co ac C3 r) ac 8 = some fs := q_o8 ac C3 r
        have hlink : fX10_link z ac (some (sa s)) (co ac C1 r) = if p.1 = 0 then (fX10_handleAt z ac (C3.2.1 1).toInt32 (co ac C3 r)).bind fun q110 => Option.elim q110.1 (some (8, q110.2)) fun a112 => (rdR q110.2 a112 [0, 1] 1).bind fun r113 => (rdR q110.2 (sa s) [5] 0).bind fun r114 => r113.bind fun a116 => (obO q110.2 a116 6).bind fun _ => (fX8_alike z a116 r114 q110.2).bind fun q115 => if q115.1 = 0 then some (8, q115.2) else (wrF q115.2 (sa s) [5] 2 (.inl (C3.2.1 1).toInt32)).bind fun h118 => some (0, h118) else some (p.1, co ac C3 r) := by
          unfold fX10_link fX5_performStarter
          simp only [q_rn, o_bs, rs, o4, e2, p2, q_gn, o83]
        rw [hlink]
        by_cases hp0 : p.1 = 0
        · rw [if_pos hp0] at hq ⊢
          obtain ⟨v1, v2⟩ := p12 hp0
          rw [hgs] at v1
          obtain ⟨L, el, el2⟩ := vi_e (v1.1 rfl).2
          rw [(p7 hp0).2, el2]
          rw [el] at hq
          rw [Int32.toInt32_toInt64] at hq
          rcases c_handle0 (z := z) (ac := ac) (r := r) (N1 k3).1 (N1 k3).2 h60 L with ⟨l, hl, rfl, eh⟩ | ⟨hno, eh⟩
          · rw [in_1 hl h60, if_neg (show ¬ (1 : Int32) = 0 by decide), nI_clamp (by omega)] at hq
            obtain ⟨tl, fl, b1, b2, b3, b4, b5, b6⟩ := h_ty2 (HO l hl).2
            rw [eh, o_bs]
            simp only [Option.elim, b2, o_bs, rt, b3, t_alike b1 s5]
            by_cases ha1 : alkB T l o = true
            · rw [if_pos ha1] at hq
              have hal := (alkB_iff T l o).mp ha1
              rw [if_pos (show tys T l = tys T o ∧ tI T 5 l = tI T 5 o from hal), if_neg (show ¬ (1 : Int32) = 0 by decide), hup_wr s0 s6, o_bs, o_bs]
              obtain ⟨q2, hq2, hq3⟩ := Option.map_eq_some_iff.mp hq
              obtain ⟨rfl, rfl⟩ := Prod.mk.inj hq3
              have hx5 : ex5 ac r (hup r (sa s) (.inr (5, [rfV ty, rfV (ha st), .inl (nI l)]))) := fun x e _ hn hx => by
                show (if x = sa s then _ else r.2.2 x) = _
                rw [if_neg (fun q => by rw [q, s6] at hx; exact hn _ (Option.some.inj hx).symm)]
                exact hx
              have A3 : CV C3 1 (layL T o 0 vs).2 := ((w4 h0).x x2 (by decide)).k (p6.dn (by decide)) (Nat.le_refl _)
              obtain ⟨C4, g1, g2⟩ := hrun l p.2.2 C3 (hup r (sa s) (.inr (5, [rfV ty, rfV (ha st), .inl (nI l)]))) q2 hl hal hq2 p8 p9 (v2 (Nat.zero_le _)) p4 p3 p5 A3 hx5
              refine ⟨C4, ?_, k3.tr (g2.2.2.2.1.dn (by decide)), g2.2.2.1, g2.1, g2.2.1, g2.2.2.2.2⟩
              exact rs_510 (ty := ty) (hs0 := ha st) (N1 k3).1 (N1 k3).2 h60 s0 hl (by show (if sa s = sa s then _ else _) = _; rw [if_pos rfl]; rfl) g1
            · rw [if_neg ha1] at hq
              obtain ⟨rfl, rfl⟩ := Prod.mk.inj (Option.some.inj hq)
              have hna : ¬ (tys T l = tys T o ∧ tI T 5 l = tI T 5 o) := fun e => ha1 ((alkB_iff T l o).mpr e)
              rw [if_neg hna, if_pos rfl, o_bs, ← hlk, hsame, rs_51f (N1 k3).1 (N1 k3).2 h60 s0 s6 (show ¬ (8 : Int32) = 0 by decide)]
              exact ⟨C3, rfl, k3, p5, p3, p4, fun q => absurd q (show ¬ (8 : Int32) = 0 by decide)⟩
          · rcases in_h (x := L) (n := nh) h60 with ⟨c, hc, e, -⟩ | ⟨-, zz⟩
            · exact absurd e (hno c hc)
            · rw [zz, if_pos rfl] at hq
              obtain ⟨rfl, rfl⟩ := Prod.mk.inj (Option.some.inj hq)
              rw [eh, o_bs]
              simp only [Option.elim, o_bs]
              rw [← hlk, hsame, rs_51f (N1 k3).1 (N1 k3).2 h60 s0 s6 (by decide)]
              exact ⟨C3, rfl, k3, p5, p3, p4, fun q => absurd q (show ¬ (8 : Int32) = 0 by decide)⟩
        · rw [if_neg hp0] at hq ⊢
          obtain ⟨rfl, rfl⟩ := Prod.mk.inj (Option.some.inj hq)
          rw [o_bs, hsame, rs_51f (N1 k3).1 (N1 k3).2 h60 s0 s6 hp0]
          exact ⟨C3, rfl, k3, p5, p3, p4, fun q => absurd q hp0⟩
      · rw [hlk, if_pos (nI_pos' (by omega)), nI_clamp (by omega)] at hq
        obtain ⟨q2, hq2, hq3⟩ := Option.map_eq_some_iff.mp hq
        obtain ⟨rfl, rfl⟩ := Prod.mk.inj hq3
        rw [if_neg (show ¬ lk = -1 by rw [hlk]; exact nI_m1 (by omega)), h0]
        rw [hlk] at s6 hsame
        obtain ⟨C4, g1, g2⟩ := hrun l (0, R.2) C1 r q2 hl hal hq2 ⟨m7.1, m7.2⟩ (Nat.le_refl _) (Nat.zero_le _) hz r1 V1 (w4 h0) (ex5.rf _ _)
        rw [hsame]
        refine ⟨C4, ?_, k1.tr (g2.2.2.2.1.dn (by decide)), g2.2.2.1, g2.1, g2.2.1, g2.2.2.2.2⟩
        exact rs_510 (N1 k1).1 (N1 k1).2 h60 s0 hl s6 g1
    · have hl0 : ¬ (layL T o 0 vs).1 = 0 := fun q => h0 (w3.trans q)
      rw [if_neg hl0] at hq
      obtain ⟨rfl, rfl⟩ := Prod.mk.inj (Option.some.inj hq)
      rw [if_neg h0, hsame, rs_51f (N1 k1).1 (N1 k1).2 h60 s0 s6 h0, w3]
      exact ⟨C1, rfl, k1, V1, r1, hz, fun q => absurd q hl0⟩
theorem g_runSite0 (M : MI T S nh ns vs R) {x ex : Int32} (hx : ∀ s, s < ns → x ≠ nI s) : gX11_runSite x ex S = some (-2, sI S 0 0) := by
  have h10 := M.2.2.2.2.1
  have e16 : (sI S 0 0).1 16 = nI ns := M.z.2.2.2.2.2.1
  unfold gX11_runSite
  rw [g_in, o_bs, e16]
  rcases in_h (x := x) (n := ns) (by omega) with ⟨c, hc, e, -⟩ | ⟨-, zz⟩
  · exact absurd e (hx c hc)
  · rw [zz, if_pos rfl]
theorem j_runSite (M : MI T S nh ns vs R) (X : CX ac T r ha sa nh ns vs R S C) (hlow : ∀ s, s < ns → ac ≤ sa s) (x ex : Int32) : JS ac S r (fX10_runSite z ac x ex (co ac C (mo (ac + 197) S r))) (gX11_runSite x ex S) := by
  have X1 := cx_mo X S
  have h60 := M.2.1.1.1
  have h10 := M.2.2.2.2.1
  obtain ⟨fs, o8⟩ : ∃ fs, obO (co ac C (mo (ac + 197) S r)) ac 8 = some fs := q_o8 ac C _
  rcases c_site (z := z) X1 h10 x with ⟨s, hs, rfl, e⟩ | ⟨hx, e⟩
  · obtain ⟨s0, ty, h, st, s1, s2, s3, s4, s5, s6⟩ := (X1.2.1.2.1 s hs).2
    obtain ⟨h', st', u1, u2, u3, u4, u5, u6, u7⟩ := M.2.2.2.2.2.2 s hs
    have eh : h' = h := (nI_eq (by omega) (by omega)).mp (u3.symm.trans s3)
    have est : st' = st := (nI_eq (by omega) (by omega)).mp (u4.symm.trans s4)
    subst eh
    subst est
    have hlk : S.2.2.1 19 s = -1 ∨ ∃ l, l < nh ∧ S.2.2.1 19 s = nI l ∧ alk T l h' := by
      rcases u7 with q | ⟨l, q1, q2, q3, q4⟩
      · exact Or.inl q
      · exact Or.inr ⟨l, q1, q2, q3, q4⟩
    obtain ⟨q, lk2, S2, g1, g2, M2, d1, d2, d3, g19, go, qq, hf, hle⟩ := g_runSite M hs s1 s2 s3 s4 u5 u6 rfl hlk ex
    obtain ⟨C2, c1, c2, c3, c4, c5, c6⟩ := c_runSite (z := z) M X1 hs s1 s2 s0 s5 s6 u5 u6 hlk g1
    rw [c_end, o_bs] at c1
    have s6' : r.2.2 (sa s) = some (.inr (5, [rfV ty, rfV (ha st'), .inl (S.2.2.1 19 s)])) := by rw [← mo_out (ac + 197) S r (out_mo s0)]; exact s6
    have s5' : aTy ac r ty (tys T h') (tI T 5 h') := s5.ex fun x e a _ hx => by rw [← mo_out (ac + 197) S r (out_mo a)]; exact hx
    rw [mo_hupo (out_mo s0)] at c1
    refine ⟨tlR q.1, _, S2, T, _, ha, sa, nh, ns, vs, q.2.2, c1, g2, M2, ?_, RQ.up s0 (hlow s hs) s6', hlow⟩
    have lp := lp_end C2 q.1 (if q.1 = 0 then C2.1 7 else 3) (if q.1 = 0 then C2.2.1 1 else 0)
    obtain ⟨k1, k2, k3, k4⟩ := id c2
    refine X.link hs s0 s5' s1 s2 s3 s4 s6' (qq 17 rfl).2.2.1.symm (qq 18 rfl).2.2.1.symm g19 go ⟨by rw [lp.1 0 (by decide) (by decide), k1 0 (by decide)], by rw [lp.1 1 (by decide) (by decide), k1 1 (by decide)], by rw [lp.2.2, k3]⟩ ⟨lp.cv (X.2.2.1.1.k c2 (Nat.le_refl _)), lp.vf c3⟩ ⟨lp.rc c4, c5⟩ ⟨?_, ?_, ?_⟩
    · rw [d2]
      simp only [cJ, cI, up_eq]
      by_cases h0 : q.1 = 0
      · rw [if_pos h0, if_pos h0, (c6 h0).1]
      · rw [if_neg h0, if_neg h0]
    · rw [d3]
      simp only [cJ, cI, up_eq]
      by_cases h0 : q.1 = 0
      · rw [if_pos h0, if_pos h0, (c6 h0).2]
      · rw [if_neg h0, if_neg h0]
    · rw [d1]
      simp [cJ, cI, va_up]
  · refine js_jr hlow (j_no M X1 ?_ (g_runSite0 M hx))
    unfold fX10_runSite
    simp only [o8, o_bs, e, Option.elim]
end
