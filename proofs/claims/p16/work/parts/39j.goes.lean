/-! HOW LONG A RUN IS, and the reference's loop to its end. My own rows. -/
def BQ (n : Nat) (q : aRes) : Prop := q.2.2.1 ≤ 80 ∨ (q.1 = 9 ∧ q.2.2.1 ≤ 80 + n)
abbrev BD (n : Nat) (x : Option aRes) : Prop := All (BQ n) x
/-- what a run's function keeps to -/
def PB (n : Nat) (rec : aRec) : Prop := (∀ (c : Nat) (as : List aVl) (R : aRS), R.1 ≤ 80 → BD n (rec c as R)) ∧ ∀ (c : Nat) (as : List aVl) (R : aRS) (q : aRes), 80 ≤ R.1 → rec c as R = some q → q.1 = 9 ∧ q.2.2.1 = R.1 + 1
theorem BQ.up {n : Nat} {q : aRes} (h : BQ n q) : BQ (n + 1) q := h.elim Or.inl fun z => Or.inr ⟨z.1, by omega⟩
theorem bd_rec {n : Nat} {rec : aRec} (h : PB n rec) {c : Nat} {as : List aVl} {R : aRS} (hR : R.1 ≤ 80) : BD (n + 1) (rec c as R) := fun q e => (h.1 c as R hR q e).up
theorem bd_z {n : Nat} {q : aRes} (h : BQ n q) (hz : q.1 = 0) : q.2.2.1 ≤ 80 := h.elim id fun z => absurd (z.1.symm.trans hz) (by decide)
theorem bd_thn {n : Nat} {x : Option aRes} {k : aVl → aRS → Option aRes} (h : BD n x) (hk : ∀ v R2, R2.1 ≤ 80 → BD n (k v R2)) : BD n (thn x k) := all_bind fun q e => all_ite (fun hz => hk _ _ (bd_z (h q e) hz)) fun _ => all_some (h q e)
theorem bd_is {n : Nat} {f : Int32} {v : aVl} {R : aRS} (h : R.1 ≤ 80) : BD n (some (f, v, R)) := all_some (Or.inl h)
theorem bd_loop {n : Nat} {rec : aRec} (h : PB n rec) {x : Nat} {lim : Int64} : ∀ (m : Nat) (i : Int64) (v : aVl) (R : aRS), R.1 ≤ 80 → BD (n + 1) (sLoop rec x lim m i v R) := by
  intro m
  induction m with
  | zero => intro i v R _; exact all_none
  | succ m ih =>
    intro i v R hR
    unfold sLoop
    exact all_ite (fun _ => bd_is hR) fun _ => all_bind fun q e => all_ite (fun hz => ih _ _ _ (bd_z (bd_rec h hR q e) hz)) fun _ => all_some (bd_rec h hR q e)
theorem bd_so {T : mS} {n c : Nat} {rec : aRec} {as : List aVl} {R : aRS} (h : PB n rec) (hR : R.1 ≤ 80) : BD (n + 1) (so T rec c as R) := by
  unfold so
  refine all_ite (fun _ => bd_rec h hR) fun _ => all_ite (fun _ => bd_rec h hR) fun _ => all_ite (fun _ => bd_rec h hR) fun _ => all_ite (fun _ => bd_thn (bd_rec h hR) fun _ _ z => bd_rec h z) fun _ => all_ite (fun _ => bd_thn (bd_rec h hR) fun _ _ z => bd_rec h z) fun _ => all_ite (fun _ => bd_thn (bd_rec h hR) fun _ _ z => bd_rec h z) fun _ => all_ite (fun _ => bd_thn (bd_rec h hR) fun _ _ z => bd_rec h z) fun _ => all_ite (fun _ => ?_) fun _ => all_ite (fun _ => ?_) fun _ => all_ite (fun _ => bd_thn (bd_rec h hR) fun _ _ z => bd_thn (bd_rec h z) fun _ _ z2 => bd_loop h _ _ _ _ z2) fun _ => all_ite (fun _ => all_bind fun _ _ => all_ite (fun _ => bd_is hR) fun _ => all_bind fun _ _ => all_ite (fun _ => bd_rec h hR) fun _ => bd_is hR) fun _ => all_ite (fun _ => all_ite (fun _ => bd_is hR) fun _ => bd_rec (R := gat _ _ _) h hR) fun _ => all_ite (fun _ => all_ite (fun _ => bd_thn (bd_rec h hR) fun _ _ z => bd_is z) fun _ => bd_is hR) fun _ => all_none
  · refine all_bind fun q e => all_ite (fun hc => ?_) fun _ => all_some (bd_rec h hR q e)
    have hq : q.2.2.1 ≤ 80 := (bd_rec h hR q e).elim id fun z => by
      rw [z.1] at hc
      revert hc
      unfold cght
      rw [show decide ((9 : Int32) < 7) = false from rfl, show decide ((99 : Int32) < 9) = false from rfl]
      simp
    exact bd_rec h hq
  · refine all_bind fun q e => all_bind fun q2 e2 => ?_
    rcases h.1 _ _ _ hR q e with z | ⟨z1, z2⟩
    · exact all_ite (fun hz => all_some (Or.inl (show q2.2.2.1 ≤ 80 from bd_z (n := n + 1) (q := q2) (bd_rec h z q2 e2) hz))) fun _ => all_some (bd_rec h z q2 e2)
    · by_cases h80 : 80 ≤ q.2.2.1
      · have := h.2 _ _ _ q2 h80 e2
        exact all_ite (fun hz => absurd (this.1.symm.trans hz) (by decide)) fun _ => all_some (Or.inr ⟨this.1, by omega⟩)
      · have z : q.2.2.1 ≤ 80 := by omega
        exact all_ite (fun hz => all_some (Or.inl (show q2.2.2.1 ≤ 80 from bd_z (n := n + 1) (q := q2) (bd_rec h z q2 e2) hz))) fun _ => all_some (bd_rec h z q2 e2)
theorem bd_spP {T : mS} {n c : Nat} {as : List aVl} {R : aRS} (hR : R.1 ≤ 80) (hb : tI T 2 c = 12 → 0 ≤ 100 + tI T 10 c) : BD n (spP T c as R) := fun q e => Or.inl (by rw [← (pp_spP T c as R hb q e).2]; exact hR)
theorem spP_1 (T : mS) (c : Nat) (as : List aVl) (R : aRS) : All (fun q : aRes => R.1 = q.2.2.1) (spP T c as R) := by
  unfold spP
  refine all_ite (fun _ => all_some rfl) fun _ => all_ite (fun _ => all_bind fun _ _ => all_some rfl) fun _ => all_ite (fun h => all_some rfl) fun _ => all_ite (fun _ => all_some rfl) fun _ => all_ite (fun _ => all_bind fun x _ => all_ite (fun _ => all_some rfl) fun _ => all_ite (fun _ => all_some rfl) fun _ => all_ite (fun _ => all_some rfl) fun _ => all_some rfl) fun _ => all_ite (fun _ => fun q e => (pp_spO _ _ _ q e).2) fun _ => all_bind fun x _ => all_bind fun y _ => fun q e => (pp_sp2 _ _ _ _ q e).2
theorem pb_sp (T : mS) : ∀ n, PB n (sp T n) := by
  intro n
  induction n with
  | zero => exact ⟨fun c as R _ => all_none, fun c as R q _ e => by cases e⟩
  | succ n ih =>
    refine ⟨fun c as R hR => ?_, fun c as R q hR e => ?_⟩
    · unfold sp
      refine all_ite (fun h => all_some (Or.inr ⟨rfl, ?_⟩)) fun h => all_ite (fun _ => bd_so ih (show R.1 + 1 ≤ 80 by omega)) fun _ => ?_
      · show R.1 + 1 ≤ 80 + (n + 1)
        omega
      · intro q e
        have := spP_1 T c as (R.1 + 1, R.2) q e
        exact Or.inl (by rw [← this]; show R.1 + 1 ≤ 80; omega)
    · unfold sp at e
      rw [if_pos (by omega)] at e
      cases e
      exact ⟨rfl, rfl⟩
/-- a run of the reference, from its first call to its end -/
theorem g_go {T S : mS} {nh nr c : Nat} {as : List aVl} {R : aRS} (hW : WT T nh) (hB : WB T nh) (hY : WY T nh nr) (hc : c < nh) (hA : VTs R.2.1 (tys T c) as) (hR : RT R) (hn : nr ≤ R.2.1) (hT : TB T S) (hS : RSt R S) (hAB : AB S as) (h33 : S.1 33 = 0) (hle : R.1 ≤ 80) :
    ∃ (f : Int32) (v : aVl) (R2 : aRS) (S1 S2 : mS), sp T 82 c as R = some (f, v, R2) ∧ gX11_calls (nI c) S = some S1 ∧ gX11_goes S1 = some S2 ∧ BK S S2 0 f v R2 ∧ 0 ≤ f ∧ RT R2 ∧ R.2.1 ≤ R2.2.1 ∧ R.1 ≤ R2.1 ∧ (f = 0 → VT R2.2.1 (tI T 5 c) v ∧ R2.1 ≤ 80) := by
  obtain ⟨⟨f, v, R2⟩, e, a1, a2, a3, a4⟩ := ps_sp hW hB hY 82 c as R hc hA hR hn (by omega) (by decide)
  have hb := (pb_sp T 82).1 c as R hle _ e
  have h162 : R2.1 ≤ 162 := hb.elim (fun z => Nat.le_trans z (by decide)) fun z => z.2
  obtain ⟨hf0, hlt, ih⟩ := mr_sp hW hB 82 c as R f v R2 e hc (hA.len.trans (tys_len T c))
  obtain ⟨S1, S2, k, e1, g, hBK, hk⟩ := ih S 0 hT hS hAB h33 (Nat.zero_le _)
  refine ⟨f, v, R2, S1, S2, e, e1, ?_, hBK, hf0, a1, a2, a3, fun z => ⟨a4 z, bd_z hb z⟩⟩
  obtain ⟨N, hN⟩ : ∃ N, 4000 = (N + 1) + k := ⟨3999 - k, by omega⟩
  unfold gX11_goes
  rw [hN, g (N + 1), gX11_goes_0, hBK.1, nI_0, if_pos (by decide)]
