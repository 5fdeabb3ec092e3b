/-! THE CLASS: plain handles. My own rows. -/
/-- what a step leaves -/
def CE (d : Nat) (C C2 : cS) (q : aRes) : Prop := rc q.2.2 C2 ∧ RZ q.2.2 ∧ VF C2 ∧ kpt (d + 1) C C2 ∧ (q.1 = 0 → C2.1 7 = q.2.1.1 ∧ C2.2.1 1 = q.2.1.2)
theorem d32 (x y : Int32) (hy : y ≠ 0) : (x.toInt64 / y.toInt64).toInt32 = x / y := by
  apply Int32.toInt_inj.mp
  rw [Int64.toInt_toInt32, Int64.toInt_div, Int32.toInt_div, Int32.toInt_toInt64, Int32.toInt_toInt64]
  exact Int.bmod_bmod_of_dvd (by decide)
theorem vi_e {x : Int64} (h : VI x) : ∃ y : Int32, x = y.toInt64 ∧ x.toInt32 = y := ⟨x.toInt32, h.symm, rfl⟩
section
variable {z : Nat → Nat} {ac d : Nat} {C : cS} {r : aH} {R : aRS}
theorem ce_bad {f : Int32} (hrc : rc R C) (hz : RZ R) (hV : VF C) (hf : f ≠ 0) : CE d C C (bad f R) := ⟨hrc, hz, hV, kpt.rf _ _, fun e => absurd e hf⟩
theorem ce_give (hrc : rc R C) (hz : RZ R) (hV : VF C) (kd : Int32) (n : Int64) : ∃ C2, fX5_give z (ac + 9) kd n (co ac C r) = some (0, co ac C2 r) ∧ CE d C C2 (0, (kd, n), R) := by
  obtain ⟨C2, e, h1, h2, h3, h4⟩ := c_give (z := z) (ac := ac) (C := C) (r := r) kd n
  exact ⟨C2, e, h4 R hrc, hz, hV.z h1, h1 _, fun _ => ⟨h2, h3⟩⟩
/-- a class's answer is the spec's -/
def CG (ac : Nat) (r : aH) (d : Nat) (C : cS) (x : Option aRes) (y : Option (Int32 × aH)) : Prop := ∃ q C2, x = some q ∧ y = some (q.1, co ac C2 r) ∧ CE d C C2 q
theorem go_give (hrc : rc R C) (hz : RZ R) (hV : VF C) (kd : Int32) (n : Int64) (fs : List aV) : CG ac r d C (some (0, (kd, n), R)) ((obO (co ac C r) (ac + 9) 4).bind fun _ => (fX5_give z (ac + 9) kd n (co ac C r)).bind fun q => some (q.1, q.2)) := by
  obtain ⟨C2, e, h⟩ := ce_give (z := z) (ac := ac) (r := r) (d := d) hrc hz hV kd n
  obtain ⟨f4, e4⟩ := q_o4 ac C r
  rw [e4, o_bs, e, o_bs]
  exact ⟨_, C2, rfl, rfl, h⟩
theorem go_bad {f : Int32} (hrc : rc R C) (hz : RZ R) (hV : VF C) (hf : f ≠ 0) : CG ac r d C (some (bad f R)) (some (f, co ac C r)) := ⟨_, C, rfl, rfl, ce_bad hrc hz hV hf⟩
theorem go_div {x y : Int32} (hrc : rc R C) (hz : RZ R) (hV : VF C) : CG ac r d C (if y.toInt64 = 0 then some (bad 1 R) else some (0, (0, (x.toInt64 / y.toInt64).toInt32.toInt64), R)) (fX5_divide z (ac + 9) x y (co ac C r)) := by
  unfold fX5_divide
  by_cases h : y = 0
  · rw [if_pos h, if_pos (by rw [h]; rfl)]
    exact go_bad hrc hz hV (by decide)
  · rw [if_neg h, if_neg h, if_neg (fun e => h (by rw [← Int32.toInt32_toInt64 y, e]; rfl)), d32 x y h]
    exact go_give hrc hz hV 0 _ []
theorem go_below {x y : Int32} : (0 ≤ lg_cmp x.toInt64 y.toInt64) ↔ y ≤ x := by
  rw [lg_cmp_ge, Int64.le_iff_toInt_le, Int32.le_iff_toInt_le, Int32.toInt_toInt64, Int32.toInt_toInt64]
theorem go_fixed {g b : Int32} (hrc : rc R C) (hz : RZ R) (hV : VF C) : CG ac r d C (some (0, (if g = 1 then (1, b.toInt64) else if g = 3 then (2, b.toInt64) else if g = 4 then (3, 0) else (0, b.toInt64)), R)) (fX5_giveFixed z (ac + 9) g b (co ac C r)) := by
  unfold fX5_giveFixed
  by_cases h1 : g = 1
  · rw [if_pos h1, if_pos h1]; exact go_give hrc hz hV 1 _ []
  · rw [if_neg h1, if_neg h1]
    by_cases h2 : g = 2
    · rw [if_pos h2, if_neg (by rw [h2]; decide), if_neg (by rw [h2]; decide)]; exact go_give hrc hz hV 0 _ []
    · rw [if_neg h2]
      by_cases h3 : g = 3
      · rw [if_pos h3, if_pos h3]; exact go_give hrc hz hV 2 _ []
      · rw [if_neg h3, if_neg h3]
        by_cases h4 : g = 4
        · rw [if_pos h4, if_pos h4]; exact go_give hrc hz hV 3 0 []
        · rw [if_neg h4, if_neg h4]; exact go_give hrc hz hV 0 _ []
theorem go_count (hrc : rc R C) (hz : RZ R) (hV : VF C) : CG ac r d C (some (0, (0, (R.2.2.2.2 + 1).toInt64), rcnt R)) (fX5_countOnce z (ac + 9) (co ac C r)) := by
  unfold fX5_countOnce
  rw [q_co, o_bs, w_co, o_bs, q_co, o_bs]
  have e : (cI C 6 (C.1 6 + 1)).1 6 = R.2.2.2.2 + 1 := by simp only [cI, up_eq]; rw [hrc.2.2.2.2]
  rw [e]
  have h2 : rc (rcnt R) (cI C 6 (C.1 6 + 1)) := ⟨by simp only [cI]; rw [up_ne _ _ (by decide)]; exact hrc.1, by simp only [cI]; rw [up_ne _ _ (by decide)]; exact hrc.2.1, hrc.2.2.1, hrc.2.2.2.1, e⟩
  have hx : zpt C (cI C 6 (C.1 6 + 1)) := zpt.I (by decide)
  obtain ⟨q, C2, g1, g2, g3⟩ := go_give (z := z) (ac := ac) (r := r) (d := d) h2 hz (hV.z hx) 0 (R.2.2.2.2 + 1).toInt64 []
  exact ⟨q, C2, g1, g2, g3.1, g3.2.1, g3.2.2.1, (hx _).tr g3.2.2.2.1, g3.2.2.2.2⟩
theorem go_row {x : Int32} (hrc : rc R C) (hz : RZ R) (hR : RT R) (hV : VF C) : CG ac r d C (if lg_cmp x.toInt64 0 < 0 then some (bad 5 R) else if 0 < lg_cmp x.toInt64 20 then some (bad 6 R) else if R.2.1 = 60 then some (bad 10 R) else some (0, (2, (nI R.2.1).toInt64), rnew R x.toNatClampNeg)) (fX5_makeRow z (ac + 9) x (co ac C r)) := by
  unfold fX5_makeRow
  have h60 := hR.1
  have c1 : (lg_cmp x.toInt64 0 < 0) ↔ x < 0 := by rw [lg_cmp_lt, Int64.lt_iff_toInt_lt, Int32.lt_iff_toInt_lt, Int32.toInt_toInt64]; rfl
  have c2 : (0 < lg_cmp x.toInt64 20) ↔ ¬ x ≤ 20 := by rw [lg_cmp_gt, Int64.lt_iff_toInt_lt, Int32.le_iff_toInt_le, Int32.toInt_toInt64]; show (20 : Int) < _ ↔ ¬ _ ≤ (20 : Int); omega
  by_cases h0 : x < 0
  · rw [if_pos (c1.mpr h0), if_neg (by rw [Int32.le_iff_toInt_le]; rw [Int32.lt_iff_toInt_lt] at h0; omega)]
    exact go_bad hrc hz hV (by decide)
  · rw [if_neg (fun e => h0 (c1.mp e)), if_pos (show (0 : Int32) ≤ x by rw [Int32.le_iff_toInt_le]; rw [Int32.lt_iff_toInt_lt] at h0; omega)]
    by_cases h20 : x ≤ 20
    · rw [if_neg (fun e => c2.mp e h20), if_pos h20]
      obtain ⟨m, hm, rfl⟩ := nI_of2 (n := 20) rfl h0 h20
      obtain ⟨f3, e3⟩ := q_o3 ac C r
      rw [q_rr, o_bs, o_bs, e3, o_bs]
      by_cases hf : R.2.1 = 60
      · rw [c_full hrc hf, o_bs, if_pos hf, if_pos rfl]
        exact go_bad hrc hz hV (by decide)
      · obtain ⟨C1, e1, k1, k2, k3, k4⟩ := c_make (z := z) (ac := ac) (r := r) hrc hz (by omega) hm
        rw [e1, o_bs, if_neg hf]
        simp only
        rw [if_neg (fun e => by
          have : decide (nI R.2.1 < 0) = decide ((-1 : Int32) < 0) := by rw [e]
          rw [decide_eq_false (nI_pos (by omega))] at this
          exact absurd this (by decide)), nI_clamp (by omega)]
        obtain ⟨q, C2, g1, g2, g3⟩ := go_give (z := z) (ac := ac) (r := r) (d := d) k1 hz.new (hV.z k2) 2 (nI R.2.1).toInt64 []
        exact ⟨q, C2, g1, g2, g3.1, g3.2.1, g3.2.2.1, (k2 _).tr g3.2.2.2.1, g3.2.2.2.2⟩
    · rw [if_pos (c2.mpr h20), if_neg h20]
      exact go_bad hrc hz hV (by decide)
end
