/-! THE CLASS'S CONSTRUCTOR. My own rows. -/
def ov (ac k : Nat) (P : Nat → aE) (s : Nat) (r : aH) : aH := (ac + k, s, fun x => if ac ≤ x ∧ x < ac + k then some (P (x - ac)) else r.2.2 x)
theorem ov_1 (ac k s : Nat) (P : Nat → aE) (r : aH) : (ov ac k P s r).1 = ac + k := rfl
theorem ov_at {ac k s o : Nat} {P : Nat → aE} {r : aH} (h : o < k) : (ov ac k P s r).2.2 (ac + o) = some (P o) := by
  show (if ac ≤ ac + o ∧ ac + o < ac + k then some (P (ac + o - ac)) else r.2.2 (ac + o)) = _
  rw [if_pos (by omega), Nat.add_sub_cancel_left]
theorem ov_new {ac k s n : Nat} {P : Nat → aE} {r : aH} {e : aE} : hnew (ov ac k P s r) n e = ov ac (k + 1) (va_up P k e) (s + n) r := by
  refine congrArg (fun f => ((ac + (k + 1), s + n, f) : aH)) (funext fun x => ?_)
  show (if x = ac + k then some e else if ac ≤ x ∧ x < ac + k then some (P (x - ac)) else r.2.2 x) = if ac ≤ x ∧ x < ac + (k + 1) then some (va_up P k e (x - ac)) else r.2.2 x
  by_cases hx : x = ac + k
  · rw [if_pos hx, if_pos (by omega), hx, Nat.add_sub_cancel_left, up_eq]
  · rw [if_neg hx]
    by_cases hc : ac ≤ x ∧ x < ac + k
    · rw [if_pos hc, if_pos (by omega), up_ne _ _ (by omega)]
    · rw [if_neg hc, if_neg (by omega)]
theorem ov_up {ac k s o : Nat} {P : Nat → aE} {r : aH} {e : aE} (h : o < k) : hup (ov ac k P s r) (ac + o) e = ov ac k (va_up P o e) s r := by
  unfold hup ov
  simp only
  congr 2
  funext x
  by_cases hx : x = ac + o
  · rw [if_pos hx, if_pos (by omega), hx, Nat.add_sub_cancel_left, up_eq]
  · rw [if_neg hx]
    by_cases hc : ac ≤ x ∧ x < ac + k
    · rw [if_pos hc, if_pos hc, up_ne _ _ (by omega)]
    · rw [if_neg hc, if_neg hc]
theorem ov_nI {ac k s n : Nat} {P : Nat → aE} {r : aH} {L : Int32} (hL : ¬ L < 0 ∧ L.toNatClampNeg ≤ 10000) (hn : L.toNatClampNeg = n) : nwI (ov ac k P s r) L = some (ov ac (k + 1) (va_up P k (.inl (0, n, .inl (fun _ => 0)))) (s + n) r) := by
  rw [nwI, if_pos hL, hn, ov_new]
theorem ov_nJ {ac k s n : Nat} {P : Nat → aE} {r : aH} {L : Int32} (hL : ¬ L < 0 ∧ L.toNatClampNeg ≤ 10000) (hn : L.toNatClampNeg = n) : nwJ (ov ac k P s r) L = some (ov ac (k + 1) (va_up P k (.inl (0, n, .inr (.inl (fun _ => 0))))) (s + n) r) := by
  rw [nwJ, if_pos hL, hn, ov_new]
theorem ov_nR {ac k s n t : Nat} {P : Nat → aE} {r : aH} {L : Int32} (hL : ¬ L < 0 ∧ L.toNatClampNeg ≤ 10000) (hn : L.toNatClampNeg = n) : nwR (ov ac k P s r) t L = some (ov ac (k + 1) (va_up P k (.inl (t, n, .inr (.inr (fun _ => none))))) (s + n) r) := by
  rw [nwR, if_pos hL, hn, ov_new]
theorem ov_wr {ac k s o c f : Nat} {P : Nat → aE} {r : aH} {cs : List Nat} {fs : List aV} {v : aV} (h : o < k) (hP : P o = .inr (c, fs)) (hc : c ∈ cs) : wrF (ov ac k P s r) (ac + o) cs f v = some (ov ac k (va_up P o (.inr (c, fs.set f v))) s r) := by
  rw [wrF, ov_at h, hP]
  show (if _ then _ else _) = _
  rw [if_pos hc, ov_up h]
theorem i_9 {z : Nat → Nat} {ac k s o : Nat} {P : Nat → aE} {r : aH} (h : o < k) (hP : P o = .inr (7, dz7)) : ∃ Q, fX9_init z (ac + o) (ov ac k P s r) = some (ov ac (k + 2) Q (s + 12) r) ∧ Q o = .inr (7, [rfV (ac + k), rfV (ac + (k + 1)), .inl 0]) ∧ Q k = .inl (0, 6, .inl (fun _ => 0)) ∧ Q (k + 1) = .inl (0, 6, .inr (.inl (fun _ => 0))) ∧ ∀ q, q < k → q ≠ o → Q q = P q := by
  unfold fX9_init
  rw [ov_nI (n := 6) (by decide) (by decide), o_bs, ov_wr (c := 7) (fs := dz7) (by omega) (by rw [up_ne _ _ (by omega), hP]) (by decide), o_bs, ov_nJ (n := 6) (by decide) (by decide), o_bs, ov_wr (c := 7) (fs := [rfV (ac + k), .inr (.inr none), .inl 0]) (by omega) (by rw [up_ne _ _ (by omega), up_eq]; rfl) (by decide), o_bs, ov_wr (c := 7) (fs := [rfV (ac + k), rfV (ac + (k + 1)), .inl 0]) (by omega) (by rw [up_eq]; rfl) (by decide), o_bs]
  refine ⟨_, rfl, ?_, ?_, ?_, fun q h1 h2 => ?_⟩
  · rw [up_eq]; rfl
  · rw [up_ne _ _ (by omega), up_ne _ _ (by omega), up_ne _ _ (by omega), up_ne _ _ (by omega), up_eq]
  · rw [up_ne _ _ (by omega), up_ne _ _ (by omega), up_eq]
  · rw [up_ne _ _ h2, up_ne _ _ h2, up_ne _ _ (by omega), up_ne _ _ h2, up_ne _ _ (by omega)]
theorem i_4 {z : Nat → Nat} {ac k s o : Nat} {P : Nat → aE} {r : aH} (h : o < k) (hP : P o = .inr (3, dz3)) : ∃ Q, fX4_init z (ac + o) (ov ac k P s r) = some (ov ac (k + 2) Q (s + 1260) r) ∧ Q o = .inr (3, [rfV (ac + k), rfV (ac + (k + 1)), .inl 0]) ∧ Q k = .inl (0, 1200, .inl (fun _ => 0)) ∧ Q (k + 1) = .inl (0, 60, .inl (fun _ => 0)) ∧ ∀ q, q < k → q ≠ o → Q q = P q := by
  unfold fX4_init
  rw [ov_nI (n := 1200) (by decide) (by decide), o_bs, ov_wr (c := 3) (fs := dz3) (by omega) (by rw [up_ne _ _ (by omega), hP]) (by decide), o_bs, ov_nI (n := 60) (by decide) (by decide), o_bs, ov_wr (c := 3) (fs := [rfV (ac + k), .inr (.inr none), .inl 0]) (by omega) (by rw [up_ne _ _ (by omega), up_eq]; rfl) (by decide), o_bs, ov_wr (c := 3) (fs := [rfV (ac + k), rfV (ac + (k + 1)), .inl 0]) (by omega) (by rw [up_eq]; rfl) (by decide), o_bs]
  refine ⟨_, rfl, ?_, ?_, ?_, fun q h1 h2 => ?_⟩
  · rw [up_eq]; rfl
  · rw [up_ne _ _ (by omega), up_ne _ _ (by omega), up_ne _ _ (by omega), up_ne _ _ (by omega), up_eq]
  · rw [up_ne _ _ (by omega), up_ne _ _ (by omega), up_eq]
  · rw [up_ne _ _ h2, up_ne _ _ h2, up_ne _ _ (by omega), up_ne _ _ h2, up_ne _ _ (by omega)]
def cS0 : cS := (fun k => if k = 2 ∨ k = 7 then 3 else 0, fun _ => 0, fun _ _ => 0, fun _ _ => 0, fun _ _ => none)
theorem cS0_8 (j : Nat) : cS0.1 (8 + j) = 0 := by
  unfold cS0
  simp only
  rw [if_neg (by omega)]
theorem up_up {β : Type} (f : Nat → β) (k : Nat) (v w : β) : va_up (va_up f k v) k w = va_up f k w := by
  funext x
  unfold va_up
  split <;> rfl
def frD (ac d i : Nat) : Option Nat := if i < d then some (ac + vO (i + 1)) else none
theorem i_fr {z : Nat → Nat} {ac : Nat} {r : aH} : ∀ (m n d s : Nat) (P : Nat → aE), d + m = 62 → m < n → (∃ fs, P 9 = .inr (4, fs) ∧ fs[1]? = some (rfV (ac + 10))) → P 10 = .inl (2, 62, .inr (.inr (frD ac d))) → ∃ Q, fX5_init_40 z n (ac + 9) (nI d) (ov ac (11 + 3 * d) P s r) = some (ov ac 197 Q (s + 15 * m) r) ∧ Q 10 = .inl (2, 62, .inr (.inr (frD ac 62))) ∧ (∀ q, q < 11 + 3 * d → q ≠ 10 → Q q = P q) ∧ ∀ q, 11 + 3 * d ≤ q → q < 197 → Q q = vCell ac cS0 (oJ q) (oM q) := by
  intro m
  induction m with
  | zero =>
    intro n d s P hd hn h9 h10
    obtain ⟨n, rfl⟩ : ∃ e, n = e + 1 := ⟨n - 1, by omega⟩
    obtain rfl : d = 62 := by omega
    obtain ⟨fs, h9, hf⟩ := h9
    rw [fX5_init_40, show rdR (ov ac (11 + 3 * 62) P s r) (ac + 9) [4] 1 = some (some (ac + 10)) from by
      rw [rdR, rdF, ov_at (by decide), h9]
      show (match (if (4 : Nat) ∈ [4] then fs[1]? else none) with | some (.inr (.inr x)) => some x | _ => none) = _
      rw [if_pos (by decide), hf], o_bs, o_bs, show arN (ov ac (11 + 3 * 62) P s r) (ac + 10) = some 62 from by
      rw [arN, ov_at (by decide), h10]
      rfl, o_bs, if_pos (by decide)]
    exact ⟨P, rfl, h10, fun q _ _ => rfl, fun q h1 h2 => by omega⟩
  | succ m ih =>
    intro n d s P hd hn h9 h10
    obtain ⟨n, rfl⟩ : ∃ e, n = e + 1 := ⟨n - 1, by omega⟩
    obtain ⟨fs, h9, hf⟩ := h9
    have hr : rdR (ov ac (11 + 3 * d) P s r) (ac + 9) [4] 1 = some (some (ac + 10)) := by
      rw [rdR, rdF, ov_at (by omega), h9]
      show (match (if (4 : Nat) ∈ [4] then fs[1]? else none) with | some (.inr (.inr x)) => some x | _ => none) = _
      rw [if_pos (by decide), hf]
    rw [fX5_init_40, hr, o_bs, o_bs, show arN (ov ac (11 + 3 * d) P s r) (ac + 10) = some (nI 62) from by
      rw [arN, ov_at (by omega), h10]
      rfl, o_bs, if_neg (by rw [nI_leI (by decide) (by omega)]; omega), o_bs]
    rw [ov_new, ov_1]
    obtain ⟨Q, e1, a1, a2, a3, a4⟩ := i_9 (z := z) (ac := ac) (k := 11 + 3 * d + 1) (s := s + 3) (o := 11 + 3 * d) (P := va_up P (11 + 3 * d) (.inr (7, dz7))) (r := r) (by omega) (by rw [up_eq])
    have q10 : Q 10 = .inl (2, 62, .inr (.inr (frD ac d))) := by rw [a4 10 (by omega) (by omega), up_ne _ _ (by omega), h10]
    have q9 : Q 9 = .inr (4, fs) := by rw [a4 9 (by omega) (by omega), up_ne _ _ (by omega), h9]
    have e2 : awR (ov ac (11 + 3 * d + 1 + 2) Q (s + 3 + 12) r) (ac + 10) (nI d) 2 [7] (ac + (11 + 3 * d)) = some (ov ac (11 + 3 * (d + 1)) (va_up Q 10 (.inl (2, 62, .inr (.inr (frD ac (d + 1)))))) (s + 15) r) := by
      rw [awR, ov_at (by omega), ov_at (by omega), q10, a1]
      show (if _ then some (hup _ (ac + 10) _) else _) = _
      rw [nI_clamp (by omega), if_pos ⟨rfl, by decide, by decide, nI_pos (by omega), by omega⟩, ov_up (by omega), show 11 + 3 * (d + 1) = 11 + 3 * d + 1 + 2 by omega]
      refine congrArg (fun f => some (ov ac (11 + 3 * d + 1 + 2) (va_up Q 10 (.inl (2, 62, .inr (.inr f)))) (s + 15) r)) (funext fun i => ?_)
      unfold frD va_up
      by_cases hi : i = d
      · rw [if_pos hi, if_pos (by omega), hi, vO, if_neg (by omega)]
        congr 1
        omega
      · rw [if_neg hi]
        simp only
        by_cases h2 : i < d
        · rw [if_pos h2, if_pos (by omega)]
        · rw [if_neg h2, if_neg (by omega)]
    rw [e1, o_bs, o_bs, e2, o_bs, nI_1]
    obtain ⟨Q2, e3, b1, b2, b3⟩ := ih n (d + 1) (s + 15) (va_up Q 10 (.inl (2, 62, .inr (.inr (frD ac (d + 1)))))) (by omega) (by omega) ⟨fs, by rw [up_ne _ _ (by omega), q9], hf⟩ (by rw [up_eq])
    refine ⟨Q2, ?_, b1, fun q h1 h2 => ?_, fun q h1 h2 => ?_⟩
    · rw [e3, show s + 15 * (m + 1) = s + 15 + 15 * m by omega]
    · rw [b2 q (by omega) h2, up_ne _ _ h2, a4 q (by omega) (by omega), up_ne _ _ (by omega)]
    · by_cases h3 : q < 11 + 3 * (d + 1)
      · rw [b2 q h3 (by omega), up_ne _ _ (by omega)]
        have hv : vO (d + 1) = 11 + 3 * d := by unfold vO; rw [if_neg (by omega)]; omega
        obtain h4 | h4 | h4 : q = 11 + 3 * d ∨ q = 11 + 3 * d + 1 ∨ q = 11 + 3 * d + 2 := by omega
        · obtain ⟨j1, j2⟩ := v_j (d + 1) 0 (by decide)
          rw [Nat.add_zero, hv] at j1 j2
          rw [h4, a1, j1, j2, vCell, if_pos rfl, hv, cS0_8]
        · obtain ⟨j1, j2⟩ := v_j (d + 1) 1 (by decide)
          rw [hv] at j1 j2
          rw [h4, a2, j1, j2]
          rfl
        · obtain ⟨j1, j2⟩ := v_j (d + 1) 2 (by decide)
          rw [hv] at j1 j2
          rw [h4, show 11 + 3 * d + 2 = 11 + 3 * d + 1 + 1 from rfl, a3, show 11 + 3 * d + 1 + 1 = 11 + 3 * d + 2 from rfl, j1, j2]
          rfl
      · exact b3 q (by omega) h2
theorem i_5 {z : Nat → Nat} {ac s : Nat} {P : Nat → aE} {r : aH} (hP : P 9 = .inr (4, dz4)) : ∃ Q, fX5_init z (ac + 9) (some (ac + 3)) (ov ac 10 P s r) = some (ov ac 197 Q (s + 992) r) ∧ Q 9 = .inr (4, [rfV (ac + 3), rfV (ac + 10), .inl 0, .inl 0, .inl 3, .inr (.inl 0)]) ∧ Q 10 = .inl (2, 62, .inr (.inr (frD ac 62))) ∧ (∀ q, q < 9 → Q q = P q) ∧ ∀ q, 11 ≤ q → q < 197 → Q q = vCell ac cS0 (oJ q) (oM q) := by
  unfold fX5_init
  rw [ov_nR (n := 62) (by decide) (by decide), o_bs, ov_wr (c := 4) (fs := dz4) (by omega) (by rw [up_ne _ _ (by omega), hP]) (by decide), o_bs]
  rw [ov_wr (c := 4) (by omega) (by rw [up_eq]) (by decide), o_bs, ov_wr (c := 4) (by omega) (by rw [up_eq]) (by decide), o_bs, ov_wr (c := 4) (by omega) (by rw [up_eq]) (by decide), o_bs, ov_wr (c := 4) (by omega) (by rw [up_eq]) (by decide), o_bs, ov_wr (c := 4) (by omega) (by rw [up_eq]) (by decide), o_bs]
  simp only [up_up]
  obtain ⟨Q, e, b1, b2, b3⟩ := i_fr (z := z) (ac := ac) (r := r) 62 4000 0 (s + 62) (va_up (va_up P 10 (.inl (2, 62, .inr (.inr fun _ => none)))) 9 (.inr (4, [rfV (ac + 3), rfV (ac + 10), .inl 0, .inl 0, .inl 3, .inr (.inl 0)]))) rfl (by decide) ⟨_, up_eq _ _ _, rfl⟩ (by rw [up_ne _ _ (by omega), up_eq]; rfl)
  refine ⟨Q, e.trans ?_, ?_, b1, fun q hq => ?_, fun q h1 h2 => b3 q (by omega) h2⟩
  · rw [show s + 62 + 15 * 62 = s + 992 by omega]
  · rw [b2 9 (by omega) (by omega), up_eq]
  · rw [b2 q (by omega) (by omega), up_ne _ _ (by omega), up_ne _ _ (by omega)]
