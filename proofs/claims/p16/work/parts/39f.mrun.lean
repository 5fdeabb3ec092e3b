/-! THE REFERENCE: a run does what sp says. My own rows. -/
def All {α : Type} (P : α → Prop) (x : Option α) : Prop := ∀ q, x = some q → P q
theorem all_none {α : Type} {P : α → Prop} : All P none := fun _ h => by cases h
theorem all_some {α : Type} {P : α → Prop} {a : α} (h : P a) : All P (some a) := fun _ e => by cases e; exact h
theorem all_bind {α β : Type} {P : β → Prop} {x : Option α} {f : α → Option β} (h : ∀ a, x = some a → All P (f a)) : All P (x.bind f) := fun q e => by
  obtain ⟨a, h1, h2⟩ := bnd e
  exact h a h1 q h2
theorem all_ite {α : Type} {P : α → Prop} {c : Prop} [Decidable c] {x y : Option α} (h1 : c → All P x) (h2 : ¬ c → All P y) : All P (if c then x else y) := by
  by_cases h : c
  · rw [if_pos h]; exact h1 h
  · rw [if_neg h]; exact h2 h
theorem rwi_1 {R R2 : aRS} {i v : Int32} (h : rwi R i v = some R2) : R.1 = R2.1 := by
  unfold rwi at h
  split at h
  · cases h; rfl
  · cases h
theorem pp_spO (F : Int32) (as : List aVl) (R : aRS) : All (fun q : aRes => 0 ≤ q.1 ∧ R.1 = q.2.2.1) (spO F as R) := by
  unfold spO
  refine all_bind fun x _ => all_ite (fun _ => all_some ⟨(by decide : (0 : Int32) ≤ 3), rfl⟩) fun _ => all_ite (fun _ => all_bind fun n _ => all_some ⟨(by decide : (0 : Int32) ≤ 0), rfl⟩) fun _ => all_bind fun n _ => all_bind fun y _ => all_ite (fun _ => all_some ⟨(by decide : (0 : Int32) ≤ 4), rfl⟩) fun _ => all_ite (fun _ => all_bind fun w _ => all_some ⟨(by decide : (0 : Int32) ≤ 0), rfl⟩) fun _ => all_bind fun u _ => all_bind fun R2 h2 => all_some ⟨(by decide : (0 : Int32) ≤ 0), rwi_1 h2⟩
theorem pp_sp2 (F : Int32) (x y : Int64) (R : aRS) : All (fun q : aRes => 0 ≤ q.1 ∧ R.1 = q.2.2.1) (sp2 F x y R) := by
  unfold sp2
  refine all_ite (fun _ => all_some ⟨(by decide : (0 : Int32) ≤ 0), rfl⟩) fun _ => all_ite (fun _ => all_some ⟨(by decide : (0 : Int32) ≤ 0), rfl⟩) fun _ => all_ite (fun _ => all_some ⟨(by decide : (0 : Int32) ≤ 0), rfl⟩) fun _ => all_ite (fun _ => all_ite (fun _ => all_some ⟨(by decide : (0 : Int32) ≤ 1), rfl⟩) fun _ => all_some ⟨(by decide : (0 : Int32) ≤ 0), rfl⟩) fun _ => all_ite (fun _ => all_some ⟨(by decide : (0 : Int32) ≤ 0), rfl⟩) fun _ => all_ite (fun _ => all_some ⟨(by decide : (0 : Int32) ≤ 0), rfl⟩) fun _ => all_none
theorem pp_spP (T : mS) (c : Nat) (as : List aVl) (R : aRS) (hb : tI T 2 c = 12 → 0 ≤ 100 + tI T 10 c) : All (fun q : aRes => 0 ≤ q.1 ∧ R.1 = q.2.2.1) (spP T c as R) := by
  unfold spP
  refine all_ite (fun _ => all_some ⟨(by decide : (0 : Int32) ≤ 0), rfl⟩) fun _ => all_ite (fun _ => all_bind fun _ _ => all_some ⟨(by decide : (0 : Int32) ≤ 0), rfl⟩) fun _ => all_ite (fun h => all_some ⟨hb h, rfl⟩) fun _ => all_ite (fun _ => all_some ⟨(by decide : (0 : Int32) ≤ 0), rfl⟩) fun _ => all_ite (fun _ => all_bind fun x _ => all_ite (fun _ => all_some ⟨(by decide : (0 : Int32) ≤ 5), rfl⟩) fun _ => all_ite (fun _ => all_some ⟨(by decide : (0 : Int32) ≤ 6), rfl⟩) fun _ => all_ite (fun _ => all_some ⟨(by decide : (0 : Int32) ≤ 10), rfl⟩) fun _ => all_some ⟨(by decide : (0 : Int32) ≤ 0), rfl⟩) fun _ => all_ite (fun _ => pp_spO _ _ _) fun _ => all_bind fun x _ => all_bind fun y _ => pp_sp2 _ _ _ _
def PP (nh : Nat) (rec : aRec) : Prop := ∀ (c : Nat) (as : List aVl) (R : aRS), c < nh → All (fun q : aRes => 0 ≤ q.1 ∧ R.1 < q.2.2.1) (rec c as R)
abbrev PQ (R : aRS) (x : Option aRes) : Prop := All (fun q : aRes => 0 ≤ q.1 ∧ R.1 ≤ q.2.2.1) x
theorem pq_rec {nh : Nat} {rec : aRec} (h : PP nh rec) {c : Nat} {as : List aVl} {R : aRS} (hc : c < nh) : PQ R (rec c as R) := fun q e => ⟨(h c as R hc q e).1, Nat.le_of_lt (h c as R hc q e).2⟩
theorem pq_le {R R2 : aRS} {x : Option aRes} (h : PQ R2 x) (hl : R.1 ≤ R2.1) : PQ R x := fun q e => ⟨(h q e).1, Nat.le_trans hl (h q e).2⟩
theorem pq_thn {R : aRS} {x : Option aRes} {k : aVl → aRS → Option aRes} (h : PQ R x) (hk : ∀ v R2, R.1 ≤ R2.1 → PQ R2 (k v R2)) : PQ R (thn x k) := all_bind fun q e => all_ite (fun _ => pq_le (hk q.2.1 q.2.2 (h q e).2) (h q e).2) fun _ => all_some (h q e)
theorem pq_loop {nh : Nat} {rec : aRec} (h : PP nh rec) {x : Nat} (hx : x < nh) (lim : Int64) : ∀ (m : Nat) (i : Int64) (v : aVl) (R : aRS), PQ R (sLoop rec x lim m i v R) := by
  intro m
  induction m with
  | zero => intro i v R; exact all_none
  | succ m ih =>
    intro i v R
    unfold sLoop
    exact all_ite (fun _ => all_some ⟨(by decide : (0 : Int32) ≤ 0), Nat.le_refl _⟩) fun _ => all_bind fun q e => all_ite (fun _ => pq_le (ih _ _ _) (pq_rec h hx q e).2) fun _ => all_some (pq_rec h hx q e)
theorem pp_so {T : mS} {nh c : Nat} {rec : aRec} {as : List aVl} {R : aRS} (h : PP nh rec) (hW : WT T nh) (hc : c < nh) (hF20 : 20 ≤ tI T 2 c) : PQ R (so T rec c as R) := by
  obtain ⟨-, -, hwt⟩ := hW.2 c hc
  rcases hwt with ⟨j, hj, hf⟩ | ⟨hH, hwt⟩
  · exfalso
    rw [hf] at hF20
    exact nI_ge (a := j) (b := 20) (by omega) (by decide) hF20
  rcases hwt with ⟨hF, -⟩ | ⟨hF, -⟩ | ⟨hF, -⟩ | ⟨hF, hX, -⟩ | ⟨hF, hX, -⟩ | ⟨hF, hX, -⟩ | ⟨hF, hX, hY, -⟩ | ⟨hF, hX, -⟩ | ⟨hF, hX, -⟩ | ⟨hF, hX, hY, -⟩ | ⟨hF, -⟩ | ⟨hF, -⟩ | ⟨hF, -⟩
  · unfold so
    rw [if_pos hF]
    exact pq_rec h hH.2
  · unfold so
    rw [if_neg (by rw [hF]; decide), if_pos hF]
    exact pq_rec h hH.2
  · unfold so
    rw [if_neg (by rw [hF]; decide), if_neg (by rw [hF]; decide), if_pos hF]
    exact pq_rec h hH.2
  · unfold so
    rw [if_neg (by rw [hF]; decide), if_neg (by rw [hF]; decide), if_neg (by rw [hF]; decide), if_pos hF]
    exact pq_thn (pq_rec h hX.2) fun _ _ _ => pq_rec h hH.2
  · unfold so
    rw [if_neg (by rw [hF]; decide), if_neg (by rw [hF]; decide), if_neg (by rw [hF]; decide), if_neg (by rw [hF]; decide), if_pos hF]
    exact pq_thn (pq_rec h hX.2) fun _ _ _ => pq_rec h hH.2
  · unfold so
    rw [if_neg (by rw [hF]; decide), if_neg (by rw [hF]; decide), if_neg (by rw [hF]; decide), if_neg (by rw [hF]; decide), if_neg (by rw [hF]; decide), if_pos hF]
    exact pq_thn (pq_rec h hH.2) fun _ _ _ => pq_rec h hX.2
  · unfold so
    rw [if_neg (by rw [hF]; decide), if_neg (by rw [hF]; decide), if_neg (by rw [hF]; decide), if_neg (by rw [hF]; decide), if_neg (by rw [hF]; decide), if_neg (by rw [hF]; decide), if_pos hF]
    exact pq_thn (pq_rec h hH.2) fun _ _ _ => pq_rec h (by split <;> first | exact hY.2 | exact hX.2)
  · unfold so
    rw [if_neg (by rw [hF]; decide), if_neg (by rw [hF]; decide), if_neg (by rw [hF]; decide), if_neg (by rw [hF]; decide), if_neg (by rw [hF]; decide), if_neg (by rw [hF]; decide), if_neg (by rw [hF]; decide), if_pos hF]
    exact all_bind fun q e => all_ite (fun _ => pq_le (pq_rec h hX.2) (pq_rec h hH.2 q e).2) fun _ => all_some (pq_rec h hH.2 q e)
  · unfold so
    rw [if_neg (by rw [hF]; decide), if_neg (by rw [hF]; decide), if_neg (by rw [hF]; decide), if_neg (by rw [hF]; decide), if_neg (by rw [hF]; decide), if_neg (by rw [hF]; decide), if_neg (by rw [hF]; decide), if_neg (by rw [hF]; decide), if_pos hF]
    exact all_bind fun q e => all_bind fun q2 e2 => all_ite (fun _ => all_some ⟨(pq_rec h hH.2 q e).1, Nat.le_trans (pq_rec h hH.2 q e).2 (pq_rec h hX.2 q2 e2).2⟩) fun _ => all_some ⟨(pq_rec h hX.2 q2 e2).1, Nat.le_trans (pq_rec h hH.2 q e).2 (pq_rec h hX.2 q2 e2).2⟩
  · unfold so
    rw [if_neg (by rw [hF]; decide), if_neg (by rw [hF]; decide), if_neg (by rw [hF]; decide), if_neg (by rw [hF]; decide), if_neg (by rw [hF]; decide), if_neg (by rw [hF]; decide), if_neg (by rw [hF]; decide), if_neg (by rw [hF]; decide), if_neg (by rw [hF]; decide), if_pos hF]
    exact pq_thn (pq_rec h hH.2) fun _ _ _ => pq_thn (pq_rec h hY.2) fun _ _ _ => pq_loop h hX.2 _ _ _ _ _
  · unfold so
    rw [if_neg (by rw [hF]; decide), if_neg (by rw [hF]; decide), if_neg (by rw [hF]; decide), if_neg (by rw [hF]; decide), if_neg (by rw [hF]; decide), if_neg (by rw [hF]; decide), if_neg (by rw [hF]; decide), if_neg (by rw [hF]; decide), if_neg (by rw [hF]; decide), if_neg (by rw [hF]; decide), if_pos hF]
    exact all_bind fun u _ => all_ite (fun _ => all_some ⟨(by decide : (0 : Int32) ≤ 3), Nat.le_refl _⟩) fun _ => all_bind fun n _ => all_ite (fun _ => pq_rec h hH.2) fun _ => all_some ⟨(by decide : (0 : Int32) ≤ 6), Nat.le_refl _⟩
  · unfold so
    rw [if_neg (by rw [hF]; decide), if_neg (by rw [hF]; decide), if_neg (by rw [hF]; decide), if_neg (by rw [hF]; decide), if_neg (by rw [hF]; decide), if_neg (by rw [hF]; decide), if_neg (by rw [hF]; decide), if_neg (by rw [hF]; decide), if_neg (by rw [hF]; decide), if_neg (by rw [hF]; decide), if_neg (by rw [hF]; decide), if_pos hF]
    exact all_ite (fun _ => all_some ⟨(by decide : (0 : Int32) ≤ 10), Nat.le_refl _⟩) fun _ => pq_rec (R := gat _ _ _) h hH.2
  · unfold so
    rw [if_neg (by rw [hF]; decide), if_neg (by rw [hF]; decide), if_neg (by rw [hF]; decide), if_neg (by rw [hF]; decide), if_neg (by rw [hF]; decide), if_neg (by rw [hF]; decide), if_neg (by rw [hF]; decide), if_neg (by rw [hF]; decide), if_neg (by rw [hF]; decide), if_neg (by rw [hF]; decide), if_neg (by rw [hF]; decide), if_neg (by rw [hF]; decide), if_pos hF]
    exact all_ite (fun _ => pq_thn (pq_rec h hH.2) fun _ _ _ => all_some ⟨adS_0 _ _ _ _, Nat.le_refl _⟩) fun _ => all_some ⟨adL_0 _ _ _ _ _, Nat.le_refl _⟩
def WB (T : mS) (nh : Nat) : Prop := ∀ c, c < nh → tI T 2 c = 12 → 0 ≤ 100 + tI T 10 c ∧ 100 + tI T 10 c ≠ 0
theorem pp_sp {T : mS} {nh : Nat} (hW : WT T nh) (hB : WB T nh) : ∀ n, PP nh (sp T n) := by
  intro n
  induction n with
  | zero => intro c as R _; exact all_none
  | succ n ih =>
    intro c as R hc
    unfold sp
    refine all_ite (fun _ => all_some ⟨(by decide : (0 : Int32) ≤ 9), Nat.lt_succ_self _⟩) fun _ => all_ite (fun h20 q e => ?_) fun _ q e => ?_
    · have := pp_so ih hW hc h20 q e
      exact ⟨this.1, Nat.lt_of_lt_of_le (Nat.lt_succ_self _) this.2⟩
    · have := pp_spP T c as (R.1 + 1, R.2) (fun z => (hB c hc z).1) q e
      exact ⟨this.1, by rw [← this.2]; exact Nat.lt_succ_self _⟩
theorem WT.m {T : mS} {nh c : Nat} (h : WT T nh) (hc : c < nh) : tI T 3 c = nI (tN T 3 c) ∧ tN T 3 c ≤ 6 := ⟨(h.2 c hc).1, (h.2 c hc).2.1⟩
theorem m_so {T S : mS} {nh p c : Nat} {as : List aVl} {R R2 : aRS} {f : Int32} {v : aVl} {rec : aRec} (ih : MR T nh rec) (H : HF T S nh p c as R) (hs : so T rec c as R = some (f, v, R2)) : OUT_ S p f v R R2 := by
  have hW := H.2.1
  have hc := H.2.2.2.2.1
  have hF20 := H.2.2.2.2.2.2
  obtain ⟨hm1, hm2, hwt⟩ := hW.2 c hc
  have hM : tI T 3 c = nI (tN T 3 c) ∧ tN T 3 c ≤ 6 := ⟨hm1, hm2⟩
  rcases hwt with ⟨j, hj, hf⟩ | ⟨hH, hwt⟩
  · exfalso
    rw [hf] at hF20
    exact nI_ge (a := j) (b := 20) (by omega) (by decide) hF20
  rcases hwt with ⟨hF, h1, h2, h3⟩ | ⟨hF, h1, h2, h3⟩ | ⟨hF, h1, h2, h3, h4⟩ | ⟨hF, hX, h1, h2⟩ | ⟨hF, hX, h1, h2, h3, h4⟩ | ⟨hF, hX, h1, h2⟩ | ⟨hF, hX, hY, h1, h2, h3⟩ | ⟨hF, hX, h1, h2⟩ | ⟨hF, hX, h1, h2⟩ | ⟨hF, hX, hY, h1, h2, h3, h4⟩ | ⟨hF, h1, h2, h3, h4⟩ | ⟨hF, h1, h2, h3, h4⟩ | ⟨hF, h1⟩
  · exact m_20 ih H hF hH hM h1 h2 h3 hs
  · exact m_21 ih H hF hH hM h1 h2 h3 hs
  · exact m_22 ih H hF hH hM h1 h2 h3 h4 hs
  · exact m_23 ih H hF hH hM hX (hW.m hX.2).1 h1 h2 hs
  · exact m_24 ih H hF hH hM hX h1 h2 h3 h4 hs
  · exact m_25 ih H hF hH hM hX h1 h2 hs
  · exact m_26 ih H hF hH hM hX hY (hW.m hH.2).1 h1 h2 h3 hs
  · exact m_27 ih H hF hH hM hX h1 h2 hs
  · exact m_28 ih H hF hH hM hX h1 h2 hs
  · exact m_29 ih H hF hH hM hX hY h1 h2 h3 h4 hs
  · exact m_30 ih H hF hH hM h1 h2 h3 h4 hs
  · exact m_31 ih H hF hH hM h1 h2 h3 h4 hs
  · exact m_32 ih H hF hH hM h1 hs
theorem rc_call {S S2 : mS} (h : eqB fCall S S2) : eqB RCb S S2 := rc_of h (by decide +kernel) (fun k hk => by simp [fCall]; omega)
theorem mr_sp {T : mS} {nh : Nat} (hW : WT T nh) (hB : WB T nh) : ∀ n, MR T nh (sp T n) := by
  intro n
  induction n with
  | zero => intro c as R f v R2 hs; cases hs
  | succ n ih =>
    intro c as R f v R2 hs hc hl
    have hpp := pp_sp hW hB (n + 1) c as R hc _ hs
    refine ⟨hpp.1, hpp.2, fun S p hTB hRS hAB h33 hpR => ?_⟩
    have hc60 : c < 60 := Nat.lt_of_lt_of_le hc hW.1
    have hM := hW.m hc
    unfold sp at hs
    by_cases h80 : 80 < R.1 + 1
    · rw [if_pos h80] at hs
      obtain ⟨rfl, rfl, rfl⟩ : 9 = f ∧ (0, 0) = v ∧ (R.1 + 1, R.2) = R2 := by
        have := Option.some.inj hs
        exact ⟨congrArg Prod.fst this, congrArg (fun q => q.2.1) this, congrArg (fun q => q.2.2) this⟩
      have hk : S.1 32 = nI 80 := by rw [hRS.1, Nat.min_eq_right (by omega)]
      have q1 : eqB (fun k => k == 29 || k == 34) S (sI (sI S 29 9) 34 1) := (eqB.I rfl).tr (eqB.I rfl)
      have hRS2 : RSt R (sI (sI S 29 9) 34 1) := hRS.eq q1 rfl rfl rfl rfl rfl
      refine ⟨_, _, 0, g_spent hk, GO.rf, ⟨by rw [← (q1 33 rfl).1]; exact h33, by simp [sI, va_up], fun z => absurd z (by decide), ⟨?_, hRS2.2.1, hRS2.2.2.1, hRS2.2.2.2.1, hRS2.2.2.2.2.1, hRS2.2.2.2.2.2⟩, FR.eq q1 (fun k h1 h2 => by simp; omega), rc_of q1 (by decide +kernel) (fun k hk => by simp; omega)⟩, ?_⟩
      · rw [hRS2.1, Nat.min_eq_right (by omega), Nat.min_eq_right (by simp only []; omega)]
      · simp only []; omega
    · rw [if_neg h80] at hs
      have hk : S.1 32 = nI R.1 := by rw [hRS.1, Nat.min_eq_left (by omega)]
      obtain ⟨S1, e1, a33, a32, aof, ast, aFV, aq, a29, aFR⟩ := g_calls (c := c) (p := p) (by omega) (by omega) hAB h33 hk (by omega)
      have hRS1 : RSt (R.1 + 1, R.2) S1 := ⟨by rw [a32, Nat.min_eq_left (by simp only []; omega)], by rw [← (aq 13 rfl).1]; exact hRS.2.1, hRS.2.2.1, by rw [← (aq 14 rfl).2.2.1]; exact hRS.2.2.2.1, by rw [← (aq 15 rfl).2.2.1]; exact hRS.2.2.2.2.1, by rw [← (aq 25 rfl).1]; exact hRS.2.2.2.2.2⟩
      have hTB1 : TB T S1 := hTB.eq aq (fun k h1 h2 => by simp [fCall]; omega)
      by_cases h20 : 20 ≤ tI T 2 c
      · rw [if_pos h20] at hs
        obtain ⟨o1, o2, S2, k, g, ⟨b33, b29, bv, bR, bF, bq⟩, hk2⟩ := m_so ih ⟨⟨a33, aof, ast, aFV, hTB1, hRS1⟩, hW, by omega, by simp only []; omega, hc, hl, h20⟩ hs
        simp only [] at o2 hk2
        exact ⟨S1, S2, k, e1, g, ⟨b33, b29, bv, bR, aFR.tr bF, (rc_call aq).tr bq⟩, by omega⟩
      · rw [if_neg h20] at hs
        obtain ⟨-, -, hwt⟩ := hW.2 c hc
        rcases hwt with ⟨j, hj, hf⟩ | ⟨hH, hwt⟩
        · obtain ⟨S2, e2, b33, b29, bv, bR, bq⟩ := m_plainly hTB1 hRS1 aFV a33 hc60 (by omega) hj hf hs (fun z => (hB c hc z).2)
          have h1 := hpp.2
          simp only [] at h1
          exact ⟨S1, S2, 1, e1, it_plain a33 (by omega) aof hc60 (tb_form hTB1 c) h20 e2, ⟨b33, b29, bv, bR, aFR.tr (FR.eq bq (fun k h1 h2 => by simp [fPl, fEnd]; omega)), (rc_call aq).tr (rc_of bq (by decide +kernel) (fun k hk => by simp [fPl, fEnd]; omega))⟩, by omega⟩
        · exfalso
          apply h20
          rcases hwt with ⟨hF, -⟩ | ⟨hF, -⟩ | ⟨hF, -⟩ | ⟨hF, -⟩ | ⟨hF, -⟩ | ⟨hF, -⟩ | ⟨hF, -⟩ | ⟨hF, -⟩ | ⟨hF, -⟩ | ⟨hF, -⟩ | ⟨hF, -⟩ | ⟨hF, -⟩ | ⟨hF, -⟩ <;> rw [hF] <;> decide
