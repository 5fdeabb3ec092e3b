/-! CLASS AND REFERENCE: the numbers of another handle. My own rows. -/
/-- the numbers fit -/
def oK (T : mS) (j h : Nat) (A b : Int32) : Prop := (∃ a, oV T j h a A b) ∧ (j = 7 → ¬ inI A.toInt64 0 6 = 0 ∨ ¬ inI A.toInt64 100 199 = 0)
theorem in_iff {x : Int32} {n : Nat} (hn : n ≤ 60) : ¬ inI x.toInt64 0 (nI n - 1).toInt64 = 0 ↔ ∃ a, x = nI a ∧ a < n := by
  rcases in_h (x := x) (n := n) hn with ⟨c, hc, e, h1⟩ | ⟨h1, h2⟩
  · rw [h1]
    exact ⟨fun _ => ⟨c, e, hc⟩, fun _ => by decide⟩
  · rw [h2]
    exact ⟨fun q => absurd rfl q, fun ⟨a, e, ha⟩ => absurd e (h1 a ha)⟩
theorem in_16 {x : Int32} : ¬ inI x.toInt64 1 6 = 0 ↔ ∃ a, x = nI a ∧ 1 ≤ a ∧ a ≤ 6 := by
  unfold inI
  have c1 : (lg_cmp x.toInt64 1 < 0) ↔ x.toInt < 1 := by rw [lg_cmp_lt, Int64.lt_iff_toInt_lt, Int32.toInt_toInt64]; rfl
  have c2 : (0 < lg_cmp x.toInt64 6) ↔ 6 < x.toInt := by rw [lg_cmp_gt, Int64.lt_iff_toInt_lt, Int32.toInt_toInt64]; rfl
  constructor
  · intro h
    have h1 : ¬ lg_cmp x.toInt64 1 < 0 := fun q => h (by rw [if_pos q])
    have h2 : ¬ 0 < lg_cmp x.toInt64 6 := fun q => h (by rw [if_neg h1, if_pos q])
    rw [c1] at h1
    rw [c2] at h2
    refine ⟨x.toInt.toNat, ?_, by omega, by omega⟩
    apply Int32.toInt_inj.mp
    rw [nI_toInt (by omega)]
    omega
  · rintro ⟨a, rfl, h1, h2⟩
    rw [if_neg (by rw [c1, nI_toInt (by omega)]; omega), if_neg (by rw [c2, nI_toInt (by omega)]; omega)]
    decide
section
variable {T S : mS} {nh h : Nat} {A b : Int32}
theorem oK_0 : oK T 0 h A b ↔ ∃ a, A = nI a ∧ a < tN T 3 h := ⟨fun ⟨⟨a, q⟩, _⟩ => ⟨a, q.1 (Or.inl rfl)⟩, fun ⟨a, q⟩ => ⟨⟨a, ⟨fun _ => q, fun e => absurd e (by decide), fun e => absurd e (by decide), fun e => absurd e (by decide), fun e => absurd e (by decide)⟩⟩, fun e => absurd e (by decide)⟩⟩
theorem oK_1 : oK T 1 h A b ↔ (∃ a, A = nI a ∧ a < tN T 3 h + 1) ∧ ∃ q, b = nI q ∧ q < 4 := by
  constructor
  · rintro ⟨⟨a, q⟩, -⟩
    obtain ⟨q1, q2, q3⟩ := q.2.1 rfl
    refine ⟨⟨a, q1, by omega⟩, ?_⟩
    rcases q3 with w | w | w | w
    · exact ⟨0, w, by decide⟩
    · exact ⟨1, w, by decide⟩
    · exact ⟨2, w, by decide⟩
    · exact ⟨3, w, by decide⟩
  · rintro ⟨⟨a, q1, q2⟩, q, w, hq⟩
    have hb : b = 0 ∨ b = 1 ∨ b = 2 ∨ b = 3 := by
      rw [w]
      obtain rfl | rfl | rfl | rfl : q = 0 ∨ q = 1 ∨ q = 2 ∨ q = 3 := by omega
      · exact Or.inl rfl
      · exact Or.inr (Or.inl rfl)
      · exact Or.inr (Or.inr (Or.inl rfl))
      · exact Or.inr (Or.inr (Or.inr rfl))
    exact ⟨⟨a, ⟨fun e => absurd e (by decide), fun _ => ⟨q1, by omega, hb⟩, fun e => absurd e (by decide), fun e => absurd e (by decide), fun e => absurd e (by decide)⟩⟩, fun e => absurd e (by decide)⟩
theorem oK_2 : oK T 2 h A b ↔ oP A (tN T 3 h) := ⟨fun ⟨⟨a, q⟩, _⟩ => ⟨a, q.2.2.1 rfl⟩, fun ⟨a, q⟩ => ⟨⟨a, ⟨fun e => absurd e (by decide), fun e => absurd e (by decide), fun _ => q, fun e => absurd e (by decide), fun e => absurd e (by decide)⟩⟩, fun e => absurd e (by decide)⟩⟩
theorem oK_3 : oK T 3 h A b := ⟨⟨0, ⟨fun e => absurd e (by decide), fun e => absurd e (by decide), fun e => absurd e (by decide), fun e => absurd e (by decide), fun e => absurd e (by decide)⟩⟩, fun e => absurd e (by decide)⟩
theorem oK_4 : oK T 4 h A b ↔ ∃ a, A = nI a ∧ a < tN T 3 h := ⟨fun ⟨⟨a, q⟩, _⟩ => ⟨a, q.1 (Or.inr rfl)⟩, fun ⟨a, q⟩ => ⟨⟨a, ⟨fun _ => q, fun e => absurd e (by decide), fun e => absurd e (by decide), fun e => absurd e (by decide), fun e => absurd e (by decide)⟩⟩, fun e => absurd e (by decide)⟩⟩
theorem oK_5 : oK T 5 h A b := ⟨⟨0, ⟨fun e => absurd e (by decide), fun e => absurd e (by decide), fun e => absurd e (by decide), fun e => absurd e (by decide), fun e => absurd e (by decide)⟩⟩, fun e => absurd e (by decide)⟩
theorem oK_6 : oK T 6 h A b := ⟨⟨0, ⟨fun e => absurd e (by decide), fun e => absurd e (by decide), fun e => absurd e (by decide), fun e => absurd e (by decide), fun e => absurd e (by decide)⟩⟩, fun e => absurd e (by decide)⟩
theorem oK_7 : oK T 7 h A b ↔ ¬ inI A.toInt64 0 6 = 0 ∨ ¬ inI A.toInt64 100 199 = 0 := ⟨fun q => q.2 rfl, fun q => ⟨⟨0, ⟨fun e => absurd e (by decide), fun e => absurd e (by decide), fun e => absurd e (by decide), fun e => absurd e (by decide), fun e => absurd e (by decide)⟩⟩, fun _ => q⟩⟩
theorem oK_8 : oK T 8 h A b := ⟨⟨0, ⟨fun e => absurd e (by decide), fun e => absurd e (by decide), fun e => absurd e (by decide), fun e => absurd e (by decide), fun e => absurd e (by decide)⟩⟩, fun e => absurd e (by decide)⟩
theorem oK_9 : oK T 9 h A b := ⟨⟨0, ⟨fun e => absurd e (by decide), fun e => absurd e (by decide), fun e => absurd e (by decide), fun e => absurd e (by decide), fun e => absurd e (by decide)⟩⟩, fun e => absurd e (by decide)⟩
theorem oK_10 : oK T 10 h A b ↔ ∃ a, A = nI a ∧ 1 ≤ a ∧ a ≤ 6 := ⟨fun ⟨⟨a, q⟩, _⟩ => ⟨a, q.2.2.2.1 rfl⟩, fun ⟨a, q⟩ => ⟨⟨a, ⟨fun e => absurd e (by decide), fun e => absurd e (by decide), fun e => absurd e (by decide), fun _ => q, fun e => absurd e (by decide)⟩⟩, fun e => absurd e (by decide)⟩⟩
theorem oK_11 : oK T 11 h A b ↔ ∃ a, A = nI a ∧ a < 6 := ⟨fun ⟨⟨a, q⟩, _⟩ => ⟨a, (q.2.2.2.2 rfl).1, by have := (q.2.2.2.2 rfl).2; omega⟩, fun ⟨a, q1, q2⟩ => ⟨⟨a, ⟨fun e => absurd e (by decide), fun e => absurd e (by decide), fun e => absurd e (by decide), fun e => absurd e (by decide), fun _ => ⟨q1, by omega⟩⟩⟩, fun e => absurd e (by decide)⟩⟩
theorem oK_12 : oK T 12 h A b := ⟨⟨0, ⟨fun e => absurd e (by decide), fun e => absurd e (by decide), fun e => absurd e (by decide), fun e => absurd e (by decide), fun e => absurd e (by decide)⟩⟩, fun e => absurd e (by decide)⟩
theorem g_outside (hW : WT T nh) (hT : TB T S) (hh : h < nh) {j : Nat} (hj : j < 13) : (oK T j h A b → gX11_isOutside (nI j) (nI h) A b S = some (0, S)) ∧ (¬ oK T j h A b → gX11_isOutside (nI j) (nI h) A b S = some (1, S)) := by
  have m6 := (hW.m hh).2
  unfold gX11_isOutside gX11_isOutside_e gX11_isOutside_72 gX11_isOutside_206
  rw [rd3 hT hW hh, o_bs]
  obtain rfl | rfl | rfl | rfl | rfl | rfl | rfl | rfl | rfl | rfl | rfl | rfl | rfl : j = 0 ∨ j = 1 ∨ j = 2 ∨ j = 3 ∨ j = 4 ∨ j = 5 ∨ j = 6 ∨ j = 7 ∨ j = 8 ∨ j = 9 ∨ j = 10 ∨ j = 11 ∨ j = 12 := by omega
  · rw [if_pos (show nI 0 = 0 by decide), g_in, o_bs]
    rw [oK_0, ← in_iff (n := tN T 3 h) (by omega)]
    by_cases hq : inI A.toInt64 0 (nI (tN T 3 h) - 1).toInt64 = 0
    · rw [if_pos hq, chkm1]
      exact ⟨fun q => absurd hq q, fun _ => rfl⟩
    · rw [if_neg hq, chkm0]
      exact ⟨fun _ => rfl, fun q => absurd hq q⟩
  · rw [if_neg (show ¬ nI 1 = 0 by decide), if_pos (show nI 1 = 1 by decide), g_in, o_bs]
    rw [oK_1, ← in_iff (n := tN T 3 h + 1) (by omega), nI_p1, ← in_iff (n := 4) (by decide), show (nI 4 - 1).toInt64 = 3 by decide]
    by_cases hq : inI A.toInt64 0 (nI (tN T 3 h)).toInt64 = 0
    · rw [if_pos hq, chkm1]
      exact ⟨fun q => absurd hq q.1, fun _ => rfl⟩
    · rw [if_neg hq, g_in, o_bs]
      by_cases hb : inI b.toInt64 0 3 = 0
      · rw [if_pos hb, chkm1]
        exact ⟨fun q => absurd hb q.2, fun _ => rfl⟩
      · rw [if_neg hb, chkm0]
        exact ⟨fun _ => rfl, fun q => absurd ⟨hq, hb⟩ q⟩
  · rw [if_neg (show ¬ nI 2 = 0 by decide), if_neg (show ¬ nI 2 = 1 by decide), if_pos (show nI 2 = 2 by decide)]
    rw [oK_2]
    obtain ⟨p1, p2⟩ := g_places (S := S) (A := A) m6
    by_cases hp : oP A (tN T 3 h)
    · rw [p1 hp, o_bs, if_neg (show ¬ (1 : Int32) = 0 by decide), chkm0]
      exact ⟨fun _ => rfl, fun q => absurd hp q⟩
    · rw [p2 hp, o_bs, if_pos rfl, chkm1]
      exact ⟨fun q => absurd q hp, fun _ => rfl⟩
  · rw [if_neg (show ¬ nI 3 = 0 by decide), if_neg (show ¬ nI 3 = 1 by decide), if_neg (show ¬ nI 3 = 2 by decide), if_pos (show nI 3 = 3 by decide), g_in, o_bs, if_neg (show ¬ inI (nI 3).toInt64 0 12 = 0 by decide), chkm0]
    exact ⟨fun _ => rfl, fun q => absurd oK_3 q⟩
  · rw [if_neg (show ¬ nI 4 = 0 by decide), if_neg (show ¬ nI 4 = 1 by decide), if_neg (show ¬ nI 4 = 2 by decide), if_neg (show ¬ nI 4 = 3 by decide), if_pos (show nI 4 = 4 by decide), g_in, o_bs]
    rw [oK_4, ← in_iff (n := tN T 3 h) (by omega)]
    by_cases hq : inI A.toInt64 0 (nI (tN T 3 h) - 1).toInt64 = 0
    · rw [if_pos hq, chkm1]
      exact ⟨fun q => absurd hq q, fun _ => rfl⟩
    · rw [if_neg hq, chkm0]
      exact ⟨fun _ => rfl, fun q => absurd hq q⟩
  · rw [if_neg (show ¬ nI 5 = 0 by decide), if_neg (show ¬ nI 5 = 1 by decide), if_neg (show ¬ nI 5 = 2 by decide), if_neg (show ¬ nI 5 = 3 by decide), if_neg (show ¬ nI 5 = 4 by decide), if_pos (show nI 5 = 5 by decide), g_in, o_bs, if_neg (show ¬ inI (nI 5).toInt64 0 12 = 0 by decide), chkm0]
    exact ⟨fun _ => rfl, fun q => absurd oK_5 q⟩
  · rw [if_neg (show ¬ nI 6 = 0 by decide), if_neg (show ¬ nI 6 = 1 by decide), if_neg (show ¬ nI 6 = 2 by decide), if_neg (show ¬ nI 6 = 3 by decide), if_neg (show ¬ nI 6 = 4 by decide), if_neg (show ¬ nI 6 = 5 by decide), if_pos (show nI 6 = 6 by decide), g_in, o_bs, if_neg (show ¬ inI (nI 6).toInt64 0 12 = 0 by decide), chkm0]
    exact ⟨fun _ => rfl, fun q => absurd oK_6 q⟩
  · rw [if_neg (show ¬ nI 7 = 0 by decide), if_neg (show ¬ nI 7 = 1 by decide), if_neg (show ¬ nI 7 = 2 by decide), if_neg (show ¬ nI 7 = 3 by decide), if_neg (show ¬ nI 7 = 4 by decide), if_neg (show ¬ nI 7 = 5 by decide), if_neg (show ¬ nI 7 = 6 by decide), if_pos (show nI 7 = 7 by decide), g_in, o_bs]
    rw [oK_7]
    by_cases hq : inI A.toInt64 0 6 = 0
    · rw [if_pos hq, g_in, o_bs]
      by_cases hb : inI A.toInt64 100 199 = 0
      · rw [if_pos hb, chkm1]
        exact ⟨fun q => absurd q (by rintro (q | q); exact q hq; exact q hb), fun _ => rfl⟩
      · rw [if_neg hb, chkm0]
        exact ⟨fun _ => rfl, fun q => absurd (Or.inr hb) q⟩
    · rw [if_neg hq, chkm0]
      exact ⟨fun _ => rfl, fun q => absurd (Or.inl hq) q⟩
  · rw [if_neg (show ¬ nI 8 = 0 by decide), if_neg (show ¬ nI 8 = 1 by decide), if_neg (show ¬ nI 8 = 2 by decide), if_neg (show ¬ nI 8 = 3 by decide), if_neg (show ¬ nI 8 = 4 by decide), if_neg (show ¬ nI 8 = 5 by decide), if_neg (show ¬ nI 8 = 6 by decide), if_neg (show ¬ nI 8 = 7 by decide), if_pos (show nI 8 = 8 by decide), g_in, o_bs, if_neg (show ¬ inI (nI 8).toInt64 0 12 = 0 by decide), chkm0]
    exact ⟨fun _ => rfl, fun q => absurd oK_8 q⟩
  · rw [if_neg (show ¬ nI 9 = 0 by decide), if_neg (show ¬ nI 9 = 1 by decide), if_neg (show ¬ nI 9 = 2 by decide), if_neg (show ¬ nI 9 = 3 by decide), if_neg (show ¬ nI 9 = 4 by decide), if_neg (show ¬ nI 9 = 5 by decide), if_neg (show ¬ nI 9 = 6 by decide), if_neg (show ¬ nI 9 = 7 by decide), if_neg (show ¬ nI 9 = 8 by decide), if_pos (show nI 9 = 9 by decide), g_in, o_bs, if_neg (show ¬ inI (nI 9).toInt64 0 12 = 0 by decide), chkm0]
    exact ⟨fun _ => rfl, fun q => absurd oK_9 q⟩
  · rw [if_neg (show ¬ nI 10 = 0 by decide), if_neg (show ¬ nI 10 = 1 by decide), if_neg (show ¬ nI 10 = 2 by decide), if_neg (show ¬ nI 10 = 3 by decide), if_neg (show ¬ nI 10 = 4 by decide), if_neg (show ¬ nI 10 = 5 by decide), if_neg (show ¬ nI 10 = 6 by decide), if_neg (show ¬ nI 10 = 7 by decide), if_neg (show ¬ nI 10 = 8 by decide), if_neg (show ¬ nI 10 = 9 by decide), if_pos (show nI 10 = 10 by decide), g_in, o_bs]
    rw [oK_10, ← in_16]
    by_cases hq : inI A.toInt64 1 6 = 0
    · rw [if_pos hq, chkm1]
      exact ⟨fun q => absurd hq q, fun _ => rfl⟩
    · rw [if_neg hq, chkm0]
      exact ⟨fun _ => rfl, fun q => absurd hq q⟩
  · rw [if_neg (show ¬ nI 11 = 0 by decide), if_neg (show ¬ nI 11 = 1 by decide), if_neg (show ¬ nI 11 = 2 by decide), if_neg (show ¬ nI 11 = 3 by decide), if_neg (show ¬ nI 11 = 4 by decide), if_neg (show ¬ nI 11 = 5 by decide), if_neg (show ¬ nI 11 = 6 by decide), if_neg (show ¬ nI 11 = 7 by decide), if_neg (show ¬ nI 11 = 8 by decide), if_neg (show ¬ nI 11 = 9 by decide), if_neg (show ¬ nI 11 = 10 by decide), if_pos (show nI 11 = 11 by decide), g_in, o_bs]
    rw [oK_11, ← in_iff (n := 6) (by decide), show (nI 6 - 1).toInt64 = 5 by decide]
    by_cases hq : inI A.toInt64 0 5 = 0
    · rw [if_pos hq, chkm1]
      exact ⟨fun q => absurd hq q, fun _ => rfl⟩
    · rw [if_neg hq, chkm0]
      exact ⟨fun _ => rfl, fun q => absurd hq q⟩
  · rw [if_neg (show ¬ nI 12 = 0 by decide), if_neg (show ¬ nI 12 = 1 by decide), if_neg (show ¬ nI 12 = 2 by decide), if_neg (show ¬ nI 12 = 3 by decide), if_neg (show ¬ nI 12 = 4 by decide), if_neg (show ¬ nI 12 = 5 by decide), if_neg (show ¬ nI 12 = 6 by decide), if_neg (show ¬ nI 12 = 7 by decide), if_neg (show ¬ nI 12 = 8 by decide), if_neg (show ¬ nI 12 = 9 by decide), if_neg (show ¬ nI 12 = 10 by decide), if_neg (show ¬ nI 12 = 11 by decide), g_in, o_bs, if_neg (show ¬ inI (nI 12).toInt64 0 12 = 0 by decide), chkm0]
    exact ⟨fun _ => rfl, fun q => absurd oK_12 q⟩
theorem g_outsideN (hW : WT T nh) (hT : TB T S) (hh : h < nh) {F : Int32} (hF : ∀ j, j < 13 → F ≠ nI j) : gX11_isOutside F (nI h) A b S = some (1, S) := by
  unfold gX11_isOutside gX11_isOutside_e gX11_isOutside_206
  rw [rd3 hT hW hh, o_bs, if_neg (show ¬ F = 0 from hF 0 (by decide)), if_neg (show ¬ F = 1 from hF 1 (by decide)), if_neg (show ¬ F = 2 from hF 2 (by decide)), if_neg (show ¬ F = 3 from hF 3 (by decide)), if_neg (show ¬ F = 4 from hF 4 (by decide)), if_neg (show ¬ F = 5 from hF 5 (by decide)), if_neg (show ¬ F = 6 from hF 6 (by decide)), if_neg (show ¬ F = 7 from hF 7 (by decide)), if_neg (show ¬ F = 8 from hF 8 (by decide)), if_neg (show ¬ F = 9 from hF 9 (by decide)), if_neg (show ¬ F = 10 from hF 10 (by decide)), if_neg (show ¬ F = 11 from hF 11 (by decide)), g_in, o_bs]
  rcases in_h (x := F) (n := 13) (by decide) with ⟨c, hc, e, -⟩ | ⟨-, zz⟩
  · exact absurd e (hF c hc)
  · rw [show inI F.toInt64 0 12 = 0 from zz, if_pos rfl, chkm1]
end
section
variable {z : Nat → Nat} {ac : Nat} {T : mS} {r : aH} {C : cS} {nh h ty hc pa : Nat} {A b F : Int32} {g1 : Int32} {hx hy : Nat}
/-- the class's parts, before another handle is made -/
def pOk (ac : Nat) (r : aH) (pa : Nat) (F : Int32) (hh hx hy : Nat) (A b : Int32) : Prop := out ac pa ∧ r.2.2 pa = some (.inr (2, [.inl F, rfV hh, rfV hx, rfV hy, .inl A, .inl b]))
theorem c_fitsO (hW : WT T nh) (hh : h < nh) {ha : Nat → Nat} (H : hOk ac T r ha h) {j : Nat} (hj : j < 13) (p : pOk ac r pa (nI j) (ha h) hx hy A b) : (oK T j h A b → fX6_otherFits z (some pa) (co ac C r) = some (1, co ac C r)) ∧ (¬ oK T j h A b → fX6_otherFits z (some pa) (co ac C r) = some (0, co ac C r)) := by
  have m6 := (hW.m hh).2
  obtain ⟨ty, fx, b1, b2, b3, b4, b5, b6⟩ := h_ty2 H
  obtain ⟨p0, p1⟩ := p
  have q1 : rdR (co ac C r) pa [2] 1 = some (some (ha h)) := p_rdR p1 p0 (by decide) rfl
  have q4 : rdI (co ac C r) pa [2] 4 = some A := p_rdI p1 p0 (by decide) rfl
  have q5 : rdI (co ac C r) pa [2] 5 = some b := p_rdI p1 p0 (by decide) rfl
  have q0 : rdI (co ac C r) pa [2] 0 = some (nI j) := p_rdI p1 p0 (by decide) rfl
  have w : ∀ (x lo hi : Int32) (l h2 : Int64), lo.toInt64 = l → hi.toInt64 = h2 → fX6_isWithin z x lo hi (co ac C r) = some (inI x.toInt64 l h2, co ac C r) := fun x lo hi l h2 e1 e2 => by rw [← e1, ← e2]; exact c_with x lo hi
  have z1 : ∀ {a b c : Int64}, ¬ inI a b c = 0 → inI a b c = 1 := fun {a b c} q => (in_01 a b c).resolve_left q
  unfold fX6_otherFits fX6_otherFits_e
  simp only [o_bs, q1, b2, b3, b4, q4, q0, q5]
  obtain rfl | rfl | rfl | rfl | rfl | rfl | rfl | rfl | rfl | rfl | rfl | rfl | rfl : j = 0 ∨ j = 1 ∨ j = 2 ∨ j = 3 ∨ j = 4 ∨ j = 5 ∨ j = 6 ∨ j = 7 ∨ j = 8 ∨ j = 9 ∨ j = 10 ∨ j = 11 ∨ j = 12 := by omega
  · rw [if_pos (show nI 0 = 0 by decide), w A 0 (nI (tN T 3 h) - 1) 0 (nI (tN T 3 h) - 1).toInt64 rfl rfl, o_bs]
    rw [oK_0, ← in_iff (n := tN T 3 h) (by omega)]
    by_cases hq : inI A.toInt64 0 (nI (tN T 3 h) - 1).toInt64 = 0
    · rw [hq]
      exact ⟨fun q => absurd rfl q, fun _ => chk_0 _⟩
    · rw [z1 hq]
      exact ⟨fun _ => chk_1 _, fun q => absurd (by decide) q⟩
  · rw [if_neg (show ¬ nI 1 = 0 by decide), if_pos (show nI 1 = 1 by decide), w A 0 (nI (tN T 3 h)) 0 (nI (tN T 3 h)).toInt64 rfl rfl, o_bs]
    rw [oK_1, ← in_iff (n := tN T 3 h + 1) (by omega), nI_p1, ← in_iff (n := 4) (by decide), show (nI 4 - 1).toInt64 = 3 by decide]
    by_cases hq : inI A.toInt64 0 (nI (tN T 3 h)).toInt64 = 0
    · rw [hq]
      exact ⟨fun q => absurd rfl q.1, fun _ => chk_0 _⟩
    · rw [z1 hq]
      simp only
      rw [if_neg (show ¬ (1 : Int32) = 0 by decide), q5, o_bs, w b 0 3 0 3 rfl rfl, o_bs]
      by_cases hb : inI b.toInt64 0 3 = 0
      · rw [hb]
        exact ⟨fun q => absurd rfl q.2, fun _ => chk_0 _⟩
      · rw [z1 hb]
        exact ⟨fun _ => chk_1 _, fun q => absurd ⟨by decide, by decide⟩ q⟩
  · rw [if_neg (show ¬ nI 2 = 0 by decide), if_neg (show ¬ nI 2 = 1 by decide), if_pos (show nI 2 = 2 by decide)]
    rw [oK_2]
    obtain ⟨p1, p2⟩ := c_order (z := z) (h := co ac C r) (A := A) m6
    by_cases hp : oP A (tN T 3 h)
    · rw [p1 hp, o_bs]
      exact ⟨fun _ => chk_1 _, fun q => absurd hp q⟩
    · rw [p2 hp, o_bs]
      exact ⟨fun q => absurd q hp, fun _ => chk_0 _⟩
  · rw [if_neg (show ¬ nI 3 = 0 by decide), if_neg (show ¬ nI 3 = 1 by decide), if_neg (show ¬ nI 3 = 2 by decide), if_pos (show nI 3 = 3 by decide), w (nI 3) 0 12 0 12 rfl rfl, o_bs]
    exact ⟨fun _ => by rw [show inI (nI 3).toInt64 0 12 = 1 by decide]; exact chk_1 _, fun q => absurd oK_3 q⟩
  · rw [if_neg (show ¬ nI 4 = 0 by decide), if_neg (show ¬ nI 4 = 1 by decide), if_neg (show ¬ nI 4 = 2 by decide), if_neg (show ¬ nI 4 = 3 by decide), if_pos (show nI 4 = 4 by decide), w A 0 (nI (tN T 3 h) - 1) 0 (nI (tN T 3 h) - 1).toInt64 rfl rfl, o_bs]
    rw [oK_4, ← in_iff (n := tN T 3 h) (by omega)]
    by_cases hq : inI A.toInt64 0 (nI (tN T 3 h) - 1).toInt64 = 0
    · rw [hq]
      exact ⟨fun q => absurd rfl q, fun _ => chk_0 _⟩
    · rw [z1 hq]
      exact ⟨fun _ => chk_1 _, fun q => absurd (by decide) q⟩
  · rw [if_neg (show ¬ nI 5 = 0 by decide), if_neg (show ¬ nI 5 = 1 by decide), if_neg (show ¬ nI 5 = 2 by decide), if_neg (show ¬ nI 5 = 3 by decide), if_neg (show ¬ nI 5 = 4 by decide), if_pos (show nI 5 = 5 by decide), w (nI 5) 0 12 0 12 rfl rfl, o_bs]
    exact ⟨fun _ => by rw [show inI (nI 5).toInt64 0 12 = 1 by decide]; exact chk_1 _, fun q => absurd oK_5 q⟩
  · rw [if_neg (show ¬ nI 6 = 0 by decide), if_neg (show ¬ nI 6 = 1 by decide), if_neg (show ¬ nI 6 = 2 by decide), if_neg (show ¬ nI 6 = 3 by decide), if_neg (show ¬ nI 6 = 4 by decide), if_neg (show ¬ nI 6 = 5 by decide), if_pos (show nI 6 = 6 by decide), w (nI 6) 0 12 0 12 rfl rfl, o_bs]
    exact ⟨fun _ => by rw [show inI (nI 6).toInt64 0 12 = 1 by decide]; exact chk_1 _, fun q => absurd oK_6 q⟩
  · rw [if_neg (show ¬ nI 7 = 0 by decide), if_neg (show ¬ nI 7 = 1 by decide), if_neg (show ¬ nI 7 = 2 by decide), if_neg (show ¬ nI 7 = 3 by decide), if_neg (show ¬ nI 7 = 4 by decide), if_neg (show ¬ nI 7 = 5 by decide), if_neg (show ¬ nI 7 = 6 by decide), if_pos (show nI 7 = 7 by decide), w A 0 6 0 6 rfl rfl, o_bs]
    rw [oK_7]
    by_cases hq : inI A.toInt64 0 6 = 0
    · rw [hq]
      simp only
      rw [if_pos trivial, w A 100 199 100 199 rfl rfl, o_bs]
      by_cases hb : inI A.toInt64 100 199 = 0
      · rw [hb]
        exact ⟨fun q => absurd q (by rintro (q | q); exact q trivial; exact q rfl), fun _ => chk_0 _⟩
      · rw [z1 hb]
        exact ⟨fun _ => chk_1 _, fun q => absurd (Or.inr (by decide)) q⟩
    · rw [z1 hq]
      exact ⟨fun _ => chk_1 _, fun q => absurd (Or.inl (by decide)) q⟩
  · rw [if_neg (show ¬ nI 8 = 0 by decide), if_neg (show ¬ nI 8 = 1 by decide), if_neg (show ¬ nI 8 = 2 by decide), if_neg (show ¬ nI 8 = 3 by decide), if_neg (show ¬ nI 8 = 4 by decide), if_neg (show ¬ nI 8 = 5 by decide), if_neg (show ¬ nI 8 = 6 by decide), if_neg (show ¬ nI 8 = 7 by decide), if_pos (show nI 8 = 8 by decide), w (nI 8) 0 12 0 12 rfl rfl, o_bs]
    exact ⟨fun _ => by rw [show inI (nI 8).toInt64 0 12 = 1 by decide]; exact chk_1 _, fun q => absurd oK_8 q⟩
  · rw [if_neg (show ¬ nI 9 = 0 by decide), if_neg (show ¬ nI 9 = 1 by decide), if_neg (show ¬ nI 9 = 2 by decide), if_neg (show ¬ nI 9 = 3 by decide), if_neg (show ¬ nI 9 = 4 by decide), if_neg (show ¬ nI 9 = 5 by decide), if_neg (show ¬ nI 9 = 6 by decide), if_neg (show ¬ nI 9 = 7 by decide), if_neg (show ¬ nI 9 = 8 by decide), if_pos (show nI 9 = 9 by decide), w (nI 9) 0 12 0 12 rfl rfl, o_bs]
    exact ⟨fun _ => by rw [show inI (nI 9).toInt64 0 12 = 1 by decide]; exact chk_1 _, fun q => absurd oK_9 q⟩
  · rw [if_neg (show ¬ nI 10 = 0 by decide), if_neg (show ¬ nI 10 = 1 by decide), if_neg (show ¬ nI 10 = 2 by decide), if_neg (show ¬ nI 10 = 3 by decide), if_neg (show ¬ nI 10 = 4 by decide), if_neg (show ¬ nI 10 = 5 by decide), if_neg (show ¬ nI 10 = 6 by decide), if_neg (show ¬ nI 10 = 7 by decide), if_neg (show ¬ nI 10 = 8 by decide), if_neg (show ¬ nI 10 = 9 by decide), if_pos (show nI 10 = 10 by decide), w A 1 6 1 6 rfl rfl, o_bs]
    rw [oK_10, ← in_16]
    by_cases hq : inI A.toInt64 1 6 = 0
    · rw [hq]
      exact ⟨fun q => absurd rfl q, fun _ => chk_0 _⟩
    · rw [z1 hq]
      exact ⟨fun _ => chk_1 _, fun q => absurd (by decide) q⟩
  · rw [if_neg (show ¬ nI 11 = 0 by decide), if_neg (show ¬ nI 11 = 1 by decide), if_neg (show ¬ nI 11 = 2 by decide), if_neg (show ¬ nI 11 = 3 by decide), if_neg (show ¬ nI 11 = 4 by decide), if_neg (show ¬ nI 11 = 5 by decide), if_neg (show ¬ nI 11 = 6 by decide), if_neg (show ¬ nI 11 = 7 by decide), if_neg (show ¬ nI 11 = 8 by decide), if_neg (show ¬ nI 11 = 9 by decide), if_neg (show ¬ nI 11 = 10 by decide), if_pos (show nI 11 = 11 by decide), w A 0 5 0 5 rfl rfl, o_bs]
    rw [oK_11, ← in_iff (n := 6) (by decide), show (nI 6 - 1).toInt64 = 5 by decide]
    by_cases hq : inI A.toInt64 0 5 = 0
    · rw [hq]
      exact ⟨fun q => absurd rfl q, fun _ => chk_0 _⟩
    · rw [z1 hq]
      exact ⟨fun _ => chk_1 _, fun q => absurd (by decide) q⟩
  · rw [if_neg (show ¬ nI 12 = 0 by decide), if_neg (show ¬ nI 12 = 1 by decide), if_neg (show ¬ nI 12 = 2 by decide), if_neg (show ¬ nI 12 = 3 by decide), if_neg (show ¬ nI 12 = 4 by decide), if_neg (show ¬ nI 12 = 5 by decide), if_neg (show ¬ nI 12 = 6 by decide), if_neg (show ¬ nI 12 = 7 by decide), if_neg (show ¬ nI 12 = 8 by decide), if_neg (show ¬ nI 12 = 9 by decide), if_neg (show ¬ nI 12 = 10 by decide), if_neg (show ¬ nI 12 = 11 by decide), w (nI 12) 0 12 0 12 rfl rfl, o_bs]
    exact ⟨fun _ => by rw [show inI (nI 12).toInt64 0 12 = 1 by decide]; exact chk_1 _, fun q => absurd oK_12 q⟩
theorem c_fitsN (hW : WT T nh) (hh : h < nh) {ha : Nat → Nat} (H : hOk ac T r ha h) (hF : ∀ j, j < 13 → F ≠ nI j) (p : pOk ac r pa F (ha h) hx hy A b) : fX6_otherFits z (some pa) (co ac C r) = some (0, co ac C r) := by
  obtain ⟨ty, fx, b1, b2, b3, b4, b5, b6⟩ := h_ty2 H
  obtain ⟨p0, p1⟩ := p
  have q1 : rdR (co ac C r) pa [2] 1 = some (some (ha h)) := p_rdR p1 p0 (by decide) rfl
  have q4 : rdI (co ac C r) pa [2] 4 = some A := p_rdI p1 p0 (by decide) rfl
  have q0 : rdI (co ac C r) pa [2] 0 = some F := p_rdI p1 p0 (by decide) rfl
  unfold fX6_otherFits fX6_otherFits_e
  simp only [o_bs, q1, b2, b3, b4, q4, q0]
  rw [if_neg (show ¬ F = 0 from hF 0 (by decide)), if_neg (show ¬ F = 1 from hF 1 (by decide)), if_neg (show ¬ F = 2 from hF 2 (by decide)), if_neg (show ¬ F = 3 from hF 3 (by decide)), if_neg (show ¬ F = 4 from hF 4 (by decide)), if_neg (show ¬ F = 5 from hF 5 (by decide)), if_neg (show ¬ F = 6 from hF 6 (by decide)), if_neg (show ¬ F = 7 from hF 7 (by decide)), if_neg (show ¬ F = 8 from hF 8 (by decide)), if_neg (show ¬ F = 9 from hF 9 (by decide)), if_neg (show ¬ F = 10 from hF 10 (by decide)), if_neg (show ¬ F = 11 from hF 11 (by decide)), show fX6_isWithin z F 0 12 (co ac C r) = _ from c_with F 0 12, o_bs]
  rcases in_h (x := F) (n := 13) (by decide) with ⟨c, hc, e, -⟩ | ⟨-, zz⟩
  · exact absurd e (hF c hc)
  · rw [show inI F.toInt64 (0 : Int32).toInt64 (12 : Int32).toInt64 = 0 from zz]
    exact chk_0 _
end
