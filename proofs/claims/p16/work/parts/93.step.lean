/-! CLASS AND REFERENCE side by side: what holds between two calls of the law; a call. My own rows. -/
theorem co_mo (ac : Nat) (C : cS) (S : mS) (r : aH) : co ac C (mo (ac + 197) S r) = mo (ac + 197) S (co ac C r) := by
  unfold co mo
  simp only
  congr 2
  funext x
  by_cases h1 : ac ≤ x ∧ x < ac + 197
  · rw [if_pos h1, if_neg (by omega), if_neg (by omega), if_pos h1]
  · rw [if_neg h1]
    by_cases h2 : x = ac + 197
    · rw [if_pos h2, if_pos h2]
    · rw [if_neg h2, if_neg h2]
      by_cases h3 : ac + 197 < x ∧ x ≤ ac + 197 + 30
      · rw [if_pos h3, if_pos h3]
      · rw [if_neg h3, if_neg h3, if_neg h1]
/-- the script may be read -/
def RD (b L : Nat) (xs : Nat → Int32) (h : aH) : Prop := ∀ i, i < L → arI h b (nI i) = some (xs i)
/-- what holds ahead of call k -/
def LWS (z : Nat → Nat) (ac b L : Nat) (xs : Nat → Int32) (k : Nat) (h : aH) : Prop := ∃ (C : cS) (S T : mS) (r : aH) (ha sa : Nat → Nat) (nh ns : Nat) (vs : List aVl) (R : aRS), h = co ac C (mo (ac + 197) S r) ∧ MI T S nh ns vs R ∧ CX ac T r ha sa nh ns vs R S C ∧ (∀ s, s < ns → ac ≤ sa s) ∧ FRS r ∧ (ac + 228 ≤ r.1 ∧ r.1 ≤ ac + 228 + 10 * k ∧ r.2.1 ≤ 100000 + 100 * k) ∧ (b < ac ∧ r.2.2 b = some (.inl (9, L, .inl xs))) ∧ (z 0 < ac ∧ r.2.2 (z 0) = some (.inl (9, 0, .inl (fun _ => 0)))) ∧ (k = 0 → R.1 = 0)
/-- a call on both sides -/
def NXT {α : Type} (z : Nat → Nat) (ac b L : Nat) (xs : Nat → Int32) (k : Nat) (h : aH) (fc fm : aH → Option (α × aH)) (P : α → α → Prop) : Prop := ∃ a a2 h1 h2 fs fs2, obO h ac 8 = some fs ∧ fc h = some (a, h1) ∧ RD b L xs h1 ∧ obO h1 (ac + 197) 9 = some fs2 ∧ fm h1 = some (a2, h2) ∧ P a a2 ∧ LWS z ac b L xs (k + 1) h2
section
variable {z : Nat → Nat} {ac b L k : Nat} {xs : Nat → Int32} {h : aH}
theorem rd_of {C : cS} {S : mS} {r : aH} (hb : b < ac) (hL : L < 2 ^ 31) (hc : r.2.2 b = some (.inl (9, L, .inl xs))) : RD b L xs (co ac C (mo (ac + 197) S r)) := fun i hi => by
  have ho : out ac b := by unfold out; omega
  exact p_ai (by rw [mo_out _ _ _ (out_mo ho)]; exact hc) ho hi hL
theorem LWS.rd (H : LWS z ac b L xs k h) (hL : L < 2 ^ 31) : RD b L xs h ∧ arN h b = some (nI L) := by
  obtain ⟨C, S, T, r, ha, sa, nh, ns, vs, R, rfl, -, -, -, -, -, ⟨hb, hc⟩, -, -⟩ := H
  have ho : out ac b := by unfold out; omega
  exact ⟨rd_of hb hL hc, p_an (by rw [mo_out _ _ _ (out_mo ho)]; exact hc) ho⟩
theorem LWS.up (H : LWS z ac b L xs k h) : LWS z ac b L xs (k + 1) h := by
  obtain ⟨C, S, T, r, ha, sa, nh, ns, vs, R, e, M, X, low, F, ⟨r1, r2, r3⟩, hb, hz, -⟩ := H
  exact ⟨C, S, T, r, ha, sa, nh, ns, vs, R, e, M, X, low, F, ⟨r1, by omega, by omega⟩, hb, hz, fun q => absurd q (by omega)⟩
/-- what an answer on both sides gives -/
theorem nx_of {α : Type} {C C2 : cS} {S S2 T2 : mS} {r r2 : aH} {ha2 sa2 : Nat → Nat} {nh2 ns2 : Nat} {vs2 : List aVl} {R2 : aRS} {fc fm : aH → Option (α × aH)} {g : Option (α × mS)} {P : α → α → Prop} {a a2 : α} (hL : L < 2 ^ 31) (hF : FRS r) (hr : ac + 228 ≤ r.1 ∧ r.1 ≤ ac + 228 + 10 * k ∧ r.2.1 ≤ 100000 + 100 * k) (hb : b < ac ∧ r.2.2 b = some (.inl (9, L, .inl xs))) (hz : z 0 < ac ∧ r.2.2 (z 0) = some (.inl (9, 0, .inl (fun _ => 0)))) (ey : fc (co ac C (mo (ac + 197) S r)) = some (a, co ac C2 (mo (ac + 197) S r2))) (eg : g = some (a2, S2)) (hm : ∀ r', fm (mo (ac + 197) S r') = g.map (fun q2 => (q2.1, mo (ac + 197) q2.2 r'))) (hP : P a a2) (M2 : MI T2 S2 nh2 ns2 vs2 R2) (X2 : CX ac T2 r2 ha2 sa2 nh2 ns2 vs2 R2 S2 C2) (Q : RQ ac r r2) (low2 : ∀ s, s < ns2 → ac ≤ sa2 s) : NXT z ac b L xs k (co ac C (mo (ac + 197) S r)) fc fm P := by
  obtain ⟨q1, q2, q3, q4, q5⟩ := Q
  obtain ⟨f8, o8⟩ := q_o8 ac C (mo (ac + 197) S r)
  have hb2 : r2.2.2 b = some (.inl (9, L, .inl xs)) := by rw [q5 b hb.1]; exact hb.2
  have hz2 : r2.2.2 (z 0) = some (.inl (9, 0, .inl (fun _ => 0))) := by rw [q5 _ hz.1]; exact hz.2
  refine ⟨a, a2, co ac C2 (mo (ac + 197) S r2), co ac C2 (mo (ac + 197) S2 r2), f8, mFs (ac + 197) S, o8, ey, rd_of hb.1 hL hb2, ?_, ?_, hP, C2, S2, T2, r2, ha2, sa2, nh2, ns2, vs2, R2, rfl, M2, X2, low2, q1 hF, ⟨by omega, by omega, by omega⟩, ⟨hb.1, hb2⟩, ⟨hz.1, hz2⟩, fun q => absurd q (by omega)⟩
  · rw [co_mo]; exact m_obO _ _ _
  · rw [co_mo, hm, eg, o_ms, co_mo]
theorem nx_js {C : cS} {S : mS} {r : aH} {fc fm : aH → Option (Int32 × aH)} {g : Option (Int32 × mS)} (hL : L < 2 ^ 31) (hF : FRS r) (hr : ac + 228 ≤ r.1 ∧ r.1 ≤ ac + 228 + 10 * k ∧ r.2.1 ≤ 100000 + 100 * k) (hb : b < ac ∧ r.2.2 b = some (.inl (9, L, .inl xs))) (hz : z 0 < ac ∧ r.2.2 (z 0) = some (.inl (9, 0, .inl (fun _ => 0)))) (js : JS ac S r (fc (co ac C (mo (ac + 197) S r))) g) (hm : ∀ r', fm (mo (ac + 197) S r') = g.map (fun q2 => (q2.1, mo (ac + 197) q2.2 r'))) : NXT z ac b L xs k (co ac C (mo (ac + 197) S r)) fc fm (fun a a2 => a = a2) := by
  obtain ⟨a, C2, S2, T2, r2, ha2, sa2, nh2, ns2, vs2, R2, ey, eg, M2, X2, Q, low2⟩ := js
  exact nx_of hL hF hr hb hz ey eg hm rfl M2 X2 Q low2
theorem s_plain (hL : L < 2 ^ 31) (H : LWS z ac b L xs k h) (x y w : Int32) : NXT z ac b L xs k h (fX10_plain z ac x y w) (fX11_plain z (ac + 197) x y w) (fun a a2 => a = a2) := by
  obtain ⟨C, S, T, r, ha, sa, nh, ns, vs, R, rfl, M, X, low, F, hr, hb, hz, -⟩ := H
  exact nx_js hL F hr hb hz (j_plain M X low F hr.1 (by unfold out; omega) hz.2 x y w) fun r' => GX11_plain z (ac + 197) r' x y w S
theorem s_other (hL : L < 2 ^ 31) (H : LWS z ac b L xs k h) (x y w u v t : Int32) : NXT z ac b L xs k h (fX10_other z ac x y w u v t) (fX11_other z (ac + 197) x y w u v t) (fun a a2 => a = a2) := by
  obtain ⟨C, S, T, r, ha, sa, nh, ns, vs, R, rfl, M, X, low, F, hr, hb, hz, -⟩ := H
  exact nx_js hL F hr hb hz (j_other M X low F hr.1 (by unfold out; omega) hz.2 x y w u v t) fun r' => GX11_other z (ac + 197) r' x y w u v t S
theorem s_row (hL : L < 2 ^ 31) (H : LWS z ac b L xs k h) (x : Int32) : NXT z ac b L xs k h (fX10_row z ac x) (fX11_row z (ac + 197) x) (fun a a2 => a = a2) := by
  obtain ⟨C, S, T, r, ha, sa, nh, ns, vs, R, rfl, M, X, low, F, hr, hb, hz, -⟩ := H
  exact nx_js hL F hr hb hz (js_jr low (j_row M (cx_mo X S) x)) fun r' => GX11_row z (ac + 197) r' x S
theorem s_set (hL : L < 2 ^ 31) (H : LWS z ac b L xs k h) (x y w : Int32) : NXT z ac b L xs k h (fX10_set z ac x y w) (fX11_set z (ac + 197) x y w) (fun a a2 => a = a2) := by
  obtain ⟨C, S, T, r, ha, sa, nh, ns, vs, R, rfl, M, X, low, F, hr, hb, hz, -⟩ := H
  exact nx_js hL F hr hb hz (js_jr low (j_set M (cx_mo X S) x y w)) fun r' => GX11_set z (ac + 197) r' x y w S
theorem s_item (hL : L < 2 ^ 31) (H : LWS z ac b L xs k h) (x y : Int32) : NXT z ac b L xs k h (fX10_item z ac x y) (fX11_item z (ac + 197) x y) (fun a a2 => a = a2) := by
  obtain ⟨C, S, T, r, ha, sa, nh, ns, vs, R, rfl, M, X, low, F, hr, hb, hz, -⟩ := H
  exact nx_js hL F hr hb hz (js_jr low (j_item M (cx_mo X S) x y)) fun r' => GX11_item z (ac + 197) r' x y S
theorem s_value (hL : L < 2 ^ 31) (H : LWS z ac b L xs k h) (x y : Int32) (w : Int64) : NXT z ac b L xs k h (fX10_value z ac x y w) (fX11_value z (ac + 197) x y w) (fun a a2 => a = a2) := by
  obtain ⟨C, S, T, r, ha, sa, nh, ns, vs, R, rfl, M, X, low, F, hr, hb, hz, -⟩ := H
  exact nx_js hL F hr hb hz (js_jr low (j_value M (cx_mo X S) x y w)) fun r' => GX11_value z (ac + 197) r' x y w S
theorem s_clear (hL : L < 2 ^ 31) (H : LWS z ac b L xs k h) : NXT z ac b L xs k h (fX10_clear z ac) (fX11_clear z (ac + 197)) (fun a a2 => a = a2) := by
  obtain ⟨C, S, T, r, ha, sa, nh, ns, vs, R, rfl, M, X, low, F, hr, hb, hz, -⟩ := H
  exact nx_js hL F hr hb hz (js_jr low (j_clear M (cx_mo X S))) fun r' => GX11_clear z (ac + 197) r' S
theorem s_run (hL : L < 2 ^ 31) (H : LWS z ac b L xs k h) (x y : Int32) : NXT z ac b L xs k h (fX10_run z ac x y) (fX11_run z (ac + 197) x y) (fun a a2 => a = a2) := by
  obtain ⟨C, S, T, r, ha, sa, nh, ns, vs, R, rfl, M, X, low, F, hr, hb, hz, -⟩ := H
  exact nx_js hL F hr hb hz (js_jr low (j_run M (cx_mo X S) x y)) fun r' => GX11_run z (ac + 197) r' x y S
theorem s_site (hL : L < 2 ^ 31) (H : LWS z ac b L xs k h) (x y : Int32) : NXT z ac b L xs k h (fX10_site z ac x y) (fX11_site z (ac + 197) x y) (fun a a2 => a = a2) := by
  obtain ⟨C, S, T, r, ha, sa, nh, ns, vs, R, rfl, M, X, low, F, hr, hb, hz, -⟩ := H
  exact nx_js hL F hr hb hz (j_site M X low F hr.1 x y) fun r' => GX11_site z (ac + 197) r' x y S
theorem s_runSite (hL : L < 2 ^ 31) (H : LWS z ac b L xs k h) (x y : Int32) : NXT z ac b L xs k h (fX10_runSite z ac x y) (fX11_runSite z (ac + 197) x y) (fun a a2 => a = a2) := by
  obtain ⟨C, S, T, r, ha, sa, nh, ns, vs, R, rfl, M, X, low, F, hr, hb, hz, -⟩ := H
  exact nx_js hL F hr hb hz (j_runSite M X low x y) fun r' => GX11_runSite z (ac + 197) r' x y S
theorem s_turn (hL : L < 2 ^ 31) (H : LWS z ac b L xs k h) (x y : Int32) : NXT z ac b L xs k h (fX10_turn z ac x y) (fX11_turn z (ac + 197) x y) (fun a a2 => a = a2) := by
  obtain ⟨C, S, T, r, ha, sa, nh, ns, vs, R, rfl, M, X, low, F, hr, hb, hz, -⟩ := H
  exact nx_js hL F hr hb hz (j_turn M X low x y) fun r' => GX11_turn z (ac + 197) r' x y S
theorem s_linked (hL : L < 2 ^ 31) (H : LWS z ac b L xs k h) (x : Int32) : NXT z ac b L xs k h (fX10_linked z ac x) (fX11_linked z (ac + 197) x) (fun a a2 => a = a2) := by
  obtain ⟨C, S, T, r, ha, sa, nh, ns, vs, R, rfl, M, X, low, F, hr, hb, hz, -⟩ := H
  exact nx_js hL F hr hb hz (js_jr low (j_linked M (cx_mo X S) x)) fun r' => GX11_linked z (ac + 197) r' x S
theorem s_about (hL : L < 2 ^ 31) (H : LWS z ac b L xs k h) (x y : Int32) : NXT z ac b L xs k h (fX10_about z ac x y) (fX11_about z (ac + 197) x y) (fun a a2 => a = a2) := by
  obtain ⟨C, S, T, r, ha, sa, nh, ns, vs, R, rfl, M, X, low, F, hr, hb, hz, -⟩ := H
  exact nx_js hL F hr hb hz (js_jr low (j_about M (cx_mo X S) x y)) fun r' => GX11_about z (ac + 197) r' x y S
theorem s_resultKind (hL : L < 2 ^ 31) (H : LWS z ac b L xs k h) : NXT z ac b L xs k h (fX10_resultKind z ac) (fX11_resultKind z (ac + 197)) (fun a a2 => a = a2) := by
  obtain ⟨C, S, T, r, ha, sa, nh, ns, vs, R, rfl, M, X, low, F, hr, hb, hz, -⟩ := H
  exact nx_js hL F hr hb hz (js_jr low (j_resultKind M (cx_mo X S))) fun r' => GX11_resultKind z (ac + 197) r' S
theorem s_result (hL : L < 2 ^ 31) (H : LWS z ac b L xs k h) : NXT z ac b L xs k h (fX10_result z ac) (fX11_result z (ac + 197)) (fun a a2 => lg_cmp a a2 = 0) := by
  obtain ⟨C, S, T, r, ha, sa, nh, ns, vs, R, rfl, M, X, low, F, hr, hb, hz, -⟩ := H
  obtain ⟨a, ey, eg, M2, X2⟩ := j_result (z := z) M (cx_mo X S)
  exact nx_of hL F hr hb hz ey eg (fun r' => GX11_result z (ac + 197) r' S) (by rw [lg_cmp_eq]) M2 (cx_om X2) (RQ.rf ac r) low
theorem s_told (hL : L < 2 ^ 31) (H : LWS z ac b L xs k h) (x : Int32) : NXT z ac b L xs k h (fX10_told z ac x) (fX11_told z (ac + 197) x) (fun a a2 => k = 0 → a = a2) := by
  obtain ⟨C, S, T, r, ha, sa, nh, ns, vs, R, rfl, M, X, low, F, hr, hb, hz, h0⟩ := H
  obtain ⟨a, a2, ey, eg, he, M2, X2⟩ := j_told (z := z) M (cx_mo X S) x
  exact nx_of hL F hr hb hz ey eg (fun r' => GX11_told z (ac + 197) r' x S) (fun q => he (Or.inr (by rw [h0 q]; decide))) M2 (cx_om X2) (RQ.rf ac r) low
end
/-- the beginning -/
theorem mi_0 : MI mS0 mS0 0 0 [] (0, 0, fun _ => 0, fun _ => 0, 0) := by
  refine ⟨⟨fun k _ _ => ⟨rfl, rfl⟩, rfl⟩, ⟨⟨by decide, fun c hc => absurd hc (Nat.not_lt_zero c)⟩, fun c hc => absurd hc (Nat.not_lt_zero c), fun c hc => absurd hc (Nat.not_lt_zero c), fun c hc => absurd hc (Nat.not_lt_zero c)⟩, ⟨⟨by decide, fun r hr => absurd hr (Nat.not_lt_zero r)⟩, ⟨rfl, rfl, by decide, rfl, rfl, rfl⟩⟩, ⟨⟨by decide, rfl, fun i v hi => by simp at hi⟩, fun v hv => absurd hv List.not_mem_nil⟩, by decide, rfl, fun s hs => absurd hs (Nat.not_lt_zero s)⟩
theorem cx_0 (ac : Nat) (r : aH) : CX ac mS0 r (fun _ => 0) (fun _ => 0) 0 0 [] (0, 0, fun _ => 0, fun _ => 0, 0) mS0 cS0 := by
  have cv : ∀ j, CV cS0 j [] := fun j => ⟨by decide, by rw [cS0_8]; rfl, fun i v hi => by simp at hi⟩
  exact ⟨⟨rfl, fun c hc => absurd hc (Nat.not_lt_zero c)⟩, ⟨rfl, fun s hs => absurd hs (Nat.not_lt_zero s), fun s t hs => absurd hs (Nat.not_lt_zero s)⟩, ⟨cv 0, fun j _ => ⟨[], cv j⟩⟩, ⟨⟨rfl, rfl, rfl, rfl, rfl⟩, fun _ _ => rfl⟩, rfl, rfl, rfl⟩
theorem mSum_le : mSum 30 ≤ 90000 := by decide +kernel
theorem ls_0 (z : Nat → Nat) (ac b L s : Nat) (xs : Nat → Int32) (m : Nat → Option aE) (hs : s ≤ 3000) (hb : b < ac ∧ m b = some (.inl (9, L, .inl xs))) (hz : z 0 < ac ∧ m (z 0) = some (.inl (9, 0, .inl (fun _ => 0)))) (hm : ∀ x, ac ≤ x → m x = none) : LWS z ac b L xs 0 (mo (ac + 197) mS0 (co ac cS0 (ac + 197 + 31, s + 47 + mSum 30, m))) := by
  refine ⟨cS0, mS0, mS0, (ac + 197 + 31, s + 47 + mSum 30, m), fun _ => 0, fun _ => 0, 0, 0, [], (0, 0, fun _ => 0, fun _ => 0, 0), ?_, mi_0, cx_0 _ _, fun s hs => absurd hs (Nat.not_lt_zero s), ?_, ⟨Nat.le_of_eq (by omega), Nat.le_of_eq (by omega), ?_⟩, hb, hz, fun _ => rfl⟩
  · rw [co_mo]
  · intro x hx
    have hx : ac + 197 + 31 ≤ x := hx
    exact hm x (by omega)
  · have := mSum_le
    show s + 47 + mSum 30 ≤ _
    omega
