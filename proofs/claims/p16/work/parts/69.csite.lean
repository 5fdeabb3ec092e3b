/-! CLASS AND REFERENCE: sites. My own rows. -/
theorem mo_out (am : Nat) (S : mS) (r : aH) {x : Nat} (h : ¬ (am ≤ x ∧ x ≤ am + 30)) : (mo am S r).2.2 x = r.2.2 x := by
  show (if x = am then _ else if am < x ∧ x ≤ am + 30 then _ else r.2.2 x) = _
  rw [if_neg (by omega), if_neg (by omega)]
theorem mo_hupo {am : Nat} {S : mS} {r : aH} {x : Nat} {e : aE} (h : ¬ (am ≤ x ∧ x ≤ am + 30)) : hup (mo am S r) x e = mo am S (hup r x e) := by
  unfold hup mo
  simp only
  congr 2
  funext y
  by_cases hx : y = x
  · rw [if_pos hx, if_neg (by omega), if_neg (by omega), if_pos hx]
  · rw [if_neg hx, if_neg hx]
theorem mo_hnew {am : Nat} {S : mS} {r : aH} {n : Nat} {e : aE} (h : am + 31 ≤ r.1) : hnew (mo am S r) n e = mo am S (hnew r n e) := by
  unfold hnew mo
  simp only
  congr 2
  funext y
  by_cases hx : y = r.1
  · rw [if_pos hx, if_neg (by omega), if_neg (by omega), if_pos hx]
  · rw [if_neg hx, if_neg hx]
theorem out_mo {ac x : Nat} (h : out ac x) : ¬ (ac + 197 ≤ x ∧ x ≤ ac + 197 + 30) := by unfold out at h; omega
/-- how a call may change the rest -/
def RQ (ac : Nat) (r r2 : aH) : Prop := (FRS r → FRS r2) ∧ r.1 ≤ r2.1 ∧ r2.1 ≤ r.1 + 10 ∧ r2.2.1 ≤ r.2.1 + 100 ∧ ∀ x, x < ac → r2.2.2 x = r.2.2 x
theorem RQ.rf (ac : Nat) (r : aH) : RQ ac r r := ⟨id, Nat.le_refl _, by omega, by omega, fun _ _ => rfl⟩
/-- both answer alike, on the heap that holds both; what holds between calls holds again -/
def JS (ac : Nat) (S : mS) (r : aH) (y : Option (Int32 × aH)) (g : Option (Int32 × mS)) : Prop := ∃ a C2 S2 T2 r2 ha2 sa2 nh2 ns2 vs2 R2, y = some (a, co ac C2 (mo (ac + 197) S r2)) ∧ g = some (a, S2) ∧ MI T2 S2 nh2 ns2 vs2 R2 ∧ CX ac T2 r2 ha2 sa2 nh2 ns2 vs2 R2 S2 C2 ∧ RQ ac r r2 ∧ ∀ s, s < ns2 → ac ≤ sa2 s
section
variable {z : Nat → Nat} {ac : Nat} {T S : mS} {r : aH} {ha sa : Nat → Nat} {nh ns : Nat} {vs : List aVl} {R : aRS} {C : cS}
theorem cx_mo (X : CX ac T r ha sa nh ns vs R S C) (S0 : mS) : CX ac T (mo (ac + 197) S0 r) ha sa nh ns vs R S C := X.ag fun x hx => mo_out _ _ _ (out_mo hx)
theorem cx_om {S0 : mS} (X : CX ac T (mo (ac + 197) S0 r) ha sa nh ns vs R S C) : CX ac T r ha sa nh ns vs R S C := X.ag fun x hx => (mo_out _ _ _ (out_mo hx)).symm
theorem js_jr (hlow : ∀ s, s < ns → ac ≤ sa s) {S0 : mS} {y : Option (Int32 × aH)} {g : Option (Int32 × mS)} (h : JR ac T (mo (ac + 197) S0 r) ha sa nh ns y g) : JS ac S0 r y g := by
  obtain ⟨a, C2, S2, vs2, R2, h1, h2, h3, h4⟩ := h
  exact ⟨a, C2, S2, T, r, ha, sa, nh, ns, vs2, R2, h1, h2, h3, cx_om h4, RQ.rf _ _, hlow⟩
theorem t_from {a b p : Nat} {ts us : List Int32} {g g2 : Int32} (hta : aTy ac r a ts g) (htb : aTy ac r b us g2) (hp : p ≤ 6) : fX8_hasFrom z a (nI p) (some b) (co ac C r) = some (if p + us.length ≤ ts.length ∧ (ts.drop p).take us.length = us then 1 else 0, co ac C r) := by
  have ca := t_count (z := z) (C := C) hta
  have cb := t_count (z := z) (C := C) htb
  obtain ⟨fa, ofa⟩ := t_ob (C := C) hta
  obtain ⟨fb, ofb⟩ := t_ob (C := C) htb
  have h6a := hta.2.1
  have h6b := htb.2.1
  have loop : ∀ (u n k : Nat), k + u = us.length → u < n → p + us.length ≤ ts.length → fX8_hasFrom_17 z n a (nI p) (some b) (nI k) (co ac C r) = some (if (ts.drop (p + k)).take u = us.drop k then 1 else 0, co ac C r) := by
    intro u
    induction u with
    | zero =>
      intro n k hk hn hl
      obtain ⟨n, rfl⟩ : ∃ q, n = q + 1 := ⟨n - 1, by omega⟩
      rw [fX8_hasFrom_17]
      simp only [o_bs, ofb, cb]
      rw [if_pos (nI_le (by omega) (by omega)), List.take_zero, List.drop_of_length_le (by omega), if_pos rfl]
    | succ u ih =>
      intro n k hk hn hl
      obtain ⟨n, rfl⟩ : ∃ q, n = q + 1 := ⟨n - 1, by omega⟩
      have l1 : p + k < ts.length := by omega
      have l2 : k < us.length := by omega
      have e1 := t_at (z := z) (C := C) hta (List.getElem?_eq_getElem l1)
      have e2 := t_at (z := z) (C := C) htb (List.getElem?_eq_getElem l2)
      rw [fX8_hasFrom_17]
      simp only [o_bs, ofb, cb, ofa, nI_add, e1, e2]
      rw [if_neg (nI_ge (by omega) (by omega)), nI_1, ih n (k + 1) (by omega) (by omega) hl, List.drop_eq_getElem_cons l1, List.drop_eq_getElem_cons l2, List.take_succ_cons]
      by_cases ht : ts[p + k] = us[k]
      · rw [if_pos ht, ht, show p + (k + 1) = p + k + 1 by omega]
        congr 2
        by_cases hq : (ts.drop (p + k + 1)).take u = us.drop (k + 1)
        · rw [if_pos hq, if_pos (by rw [hq])]
        · rw [if_neg hq, if_neg (fun e => hq (List.cons.inj e).2)]
      · rw [if_neg ht, if_neg (fun e => ht (List.cons.inj e).1)]
  unfold fX8_hasFrom fX8_hasFrom_e
  simp only [o_bs, ofb, cb, ofa, ca, nI_add]
  by_cases hl : p + us.length ≤ ts.length
  · rw [if_pos (nI_le hl (by omega))]
    have := loop us.length 4000 0 (by omega) (by omega) hl
    rw [nI_0, Nat.add_zero, List.drop_zero] at this
    rw [this]
    by_cases hq : (ts.drop p).take us.length = us
    · rw [if_pos hq, if_pos ⟨hl, hq⟩, chk_1]
    · rw [if_neg hq, if_neg (fun e => hq e.2), chk_0]
  · rw [if_neg (by rw [nI_leI (by omega) (by omega)]; exact hl), if_neg (fun e => hl e.1), chk_0]
theorem t_alike {a b : Nat} {ts us : List Int32} {g g2 : Int32} (hta : aTy ac r a ts g) (htb : aTy ac r b us g2) : fX8_alike z a (some b) (co ac C r) = some (if ts = us ∧ g = g2 then 1 else 0, co ac C r) := by
  have ca := t_count (z := z) (C := C) hta
  have cb := t_count (z := z) (C := C) htb
  obtain ⟨fa, ofa⟩ := t_ob (C := C) hta
  obtain ⟨fb, ofb⟩ := t_ob (C := C) htb
  have h6a := hta.2.1
  have h6b := htb.2.1
  have hf := t_from (z := z) (C := C) (p := 0) hta htb (by decide)
  rw [nI_0, Nat.zero_add, List.drop_zero] at hf
  unfold fX8_alike fX8_alike_e
  simp only [o_bs, t_gives hta, t_gives htb, ofa, ofb, ca, cb, hf]
  by_cases hg : g = g2
  · rw [if_pos hg]
    by_cases hl : ts.length = us.length
    · rw [if_pos (by rw [hl])]
      by_cases ht : ts = us
      · have hA : us.length ≤ ts.length ∧ ts.take us.length = us := ⟨by omega, by rw [ht, List.take_length]⟩
        rw [if_pos hA, if_neg (show ¬ (1 : Int32) = 0 by decide), if_pos (⟨ht, hg⟩ : ts = us ∧ g = g2), chk_1]
      · have hA : ¬ (us.length ≤ ts.length ∧ ts.take us.length = us) := fun e => ht (by rw [← e.2, ← hl, List.take_length])
        rw [if_neg hA, if_pos (show (0 : Int32) = 0 from rfl), if_neg (fun e : ts = us ∧ g = g2 => ht e.1), chk_0]
    · rw [if_neg (fun e => hl ((nI_eq (by omega) (by omega)).mp e)), if_neg (fun e => hl (by rw [e.1])), chk_0]
  · rw [if_neg hg, if_neg (fun e => hg e.2), chk_0]
/-- a site's link is set -/
theorem CX.link (X : CX ac T r ha sa nh ns vs R S C) {s ty h st : Nat} {l : Int32} (hs : s < ns) (s0 : out ac (sa s)) (s5 : aTy ac r ty (tys T h) (tI T 5 h)) (s1 : h < nh) (s2 : st < nh) (s3 : S.2.2.1 17 s = nI h) (s4 : S.2.2.1 18 s = nI st) (s6 : r.2.2 (sa s) = some (.inr (5, [rfV ty, rfV (ha st), .inl (S.2.2.1 19 s)]))) {S2 : mS} (e17 : S2.2.2.1 17 = S.2.2.1 17) (e18 : S2.2.2.1 18 = S.2.2.1 18) (e19 : S2.2.2.1 19 s = l) (eo : ∀ i, i ≠ s → S2.2.2.1 19 i = S.2.2.1 19 i) {C2 : cS} {R2 : aRS} (k : C2.1 0 = C.1 0 ∧ C2.1 1 = C.1 1 ∧ C2.2.2.2.2 = C.2.2.2.2) (hv : CV C2 0 vs ∧ VF C2) (hr : rc R2 C2 ∧ RZ R2) (hl : C2.1 2 = S2.1 23 ∧ C2.2.1 0 = S2.2.1 24 ∧ C2.1 3 = S2.1 26) : CX ac T (hup r (sa s) (.inr (5, [rfV ty, rfV (ha st), .inl l]))) ha sa nh ns vs R2 S2 C2 := by
  obtain ⟨⟨h0, h1⟩, ⟨h2, h3, h4⟩, -⟩ := id X
  have x : ex5 ac r (hup r (sa s) (.inr (5, [rfV ty, rfV (ha st), .inl l]))) := fun x e _ hn hx => by
    show (if x = sa s then _ else r.2.2 x) = _
    rw [if_neg (fun q => by rw [q, s6] at hx; exact hn _ (Option.some.inj hx).symm)]
    exact hx
  refine ⟨⟨by rw [k.1]; exact h0, fun c hc => ⟨by rw [k.2.2]; exact (h1 c hc).1, (h1 c hc).2.ex x⟩⟩, ⟨by rw [k.2.1]; exact h2, fun t ht => ⟨by rw [k.2.2]; exact (h3 t ht).1, ?_⟩, h4⟩, hv, hr, hl⟩
  by_cases hts : t = s
  · subst hts
    refine ⟨s0, ty, h, st, s1, s2, by rw [e17]; exact s3, by rw [e18]; exact s4, s5.ex x, ?_⟩
    show (if sa t = sa t then _ else _) = _
    rw [if_pos rfl, e19]
  · obtain ⟨t0, ty2, hh, st2, t1, t2, t3, t4, t5, t6⟩ := (h3 t ht).2
    refine ⟨t0, ty2, hh, st2, t1, t2, by rw [e17]; exact t3, by rw [e18]; exact t4, t5.ex x, ?_⟩
    show (if sa t = sa s then _ else r.2.2 (sa t)) = _
    rw [if_neg (fun q => hts (h4 t s ht hs q)), eo t hts]
    exact t6
theorem hup_wr {x : Nat} {fs : List aV} {k : Nat} {v : aV} (ho : out ac x) (h : r.2.2 x = some (.inr (5, fs))) : wrF (co ac C r) x [5] k v = some (co ac C (hup r x (.inr (5, fs.set k v)))) := by
  unfold wrF
  rw [p_at ho h]
  simp only
  rw [if_pos (by decide), co_hupo (by unfold out at ho; omega)]
theorem RQ.up {x : Nat} {e e0 : aE} (ho : out ac x) (h : ac ≤ x) (h0 : r.2.2 x = some e0) : RQ ac r (hup r x e) := ⟨fun hF y hy => by
  have := hF.lt h0
  have hy : r.1 ≤ y := hy
  show (if y = x then _ else r.2.2 y) = none
  rw [if_neg (by omega)]
  exact hF y hy, Nat.le_refl _, by show r.1 ≤ r.1 + 10; omega, by show r.2.1 ≤ r.2.1 + 100; omega, fun y hy => by
  show (if y = x then _ else r.2.2 y) = _
  rw [if_neg (by omega)]⟩
end
