/-! THE CLASS'S CONSTRUCTOR, whole. My own rows. -/
abbrev dzC : List aV := [.inr (.inr none), .inl 0, .inr (.inr none), .inl 0, .inr (.inr none), .inr (.inr none), .inr (.inr none), .inl 0, .inr (.inl 0), .inl 0]
theorem ov_0 (h : aH) (e : aE) (n : Nat) : hnew h n e = ov h.1 1 (fun _ => e) (h.2.1 + n) h := by
  unfold hnew ov
  congr 2
  funext x
  by_cases hx : x = h.1
  · rw [if_pos hx, if_pos (by omega)]
  · rw [if_neg hx, if_neg (by omega)]
theorem ov_co {ac s : Nat} {P : Nat → aE} {C : cS} {r : aH} (h : ∀ q, q < 197 → P q = cC ac C q) : ov ac 197 P s r = co ac C (ac + 197, s, r.2.2) := by
  unfold ov co
  congr 2
  funext x
  by_cases hx : ac ≤ x ∧ x < ac + 197
  · rw [if_pos hx, if_pos hx, h _ (by omega)]
  · rw [if_neg hx, if_neg hx]
set_option maxHeartbeats 4000000 in
theorem c_init (z : Nat → Nat) (h : aH) : fX10_init z h.1 (hnew h 10 (.inr (8, dzC))) = some (co h.1 cS0 (h.1 + 197, h.2.1 + 2356, h.2.2)) := by
  rw [ov_0]
  generalize hac : h.1 = ac
  have e0 : ∀ (k s : Nat) (P : Nat → aE) (f : Nat) (v : aV) (fs : List aV), 0 < k → P 0 = .inr (8, fs) → wrF (ov ac k P s h) ac [8] f v = some (ov ac k (va_up P 0 (.inr (8, fs.set f v))) s h) := fun k s P f v fs hk hP => ov_wr (o := 0) (cs := [8]) hk hP (by decide)
  have e1r : ∀ (k s : Nat) (P : Nat → aE) (f : Nat) (x : Option Nat) (fs : List aV), 0 < k → P 0 = .inr (8, fs) → fs[f]? = some (.inr (.inr x)) → rdR (ov ac k P s h) ac [8] f = some x := fun k s P f x fs hk hP hf => by
    rw [rdR, rdF, show (ov ac k P s h).2.2 ac = _ from ov_at (o := 0) hk, hP]
    show (match (if (8 : Nat) ∈ [8] then fs[f]? else none) with | some (.inr (.inr x)) => some x | _ => none) = _
    rw [if_pos (by decide), hf]
  unfold fX10_init
  rw [ov_nR (n := 60) (by decide) (by decide), o_bs, ov_1, e0 _ _ _ _ _ dzC (by omega) (by rw [up_ne _ _ (by omega)]), o_bs, e0 _ _ _ _ _ _ (by omega) (up_eq _ _ _), o_bs, ov_nR (n := 10) (by decide) (by decide), o_bs, ov_1, e0 _ _ _ _ _ _ (by omega) (by rw [up_ne _ _ (by omega), up_eq]), o_bs, e0 _ _ _ _ _ _ (by omega) (up_eq _ _ _), o_bs, ov_1, ov_new]
  obtain ⟨Q1, e1, a1, a2, a3, a4⟩ := i_4 (z := z) (ac := ac) (k := 4) (s := h.2.1 + 10 + 60 + 10 + 3) (o := 3) (r := h) (P := _) (by omega) (up_eq _ 3 _)
  rw [e1, o_bs]
  have b0 := a4 0 (by omega) (by omega)
  rw [up_ne _ _ (by omega), up_eq] at b0
  have b1 := a4 1 (by omega) (by omega)
  rw [up_ne _ _ (by omega), up_ne _ _ (by omega), up_ne _ _ (by omega), up_ne _ _ (by omega), up_ne _ _ (by omega), up_ne _ _ (by omega), up_eq] at b1
  have b2 := a4 2 (by omega) (by omega)
  rw [up_ne _ _ (by omega), up_ne _ _ (by omega), up_ne _ _ (by omega), up_eq] at b2
  rw [e0 _ _ _ _ _ _ (by omega) b0, o_bs, ov_1, ov_new]
  obtain ⟨Q2, e2, c1, c2, c3, c4⟩ := i_9 (z := z) (ac := ac) (k := 7) (s := h.2.1 + 10 + 60 + 10 + 3 + 1260 + 3) (o := 6) (r := h) (P := _) (by omega) (up_eq _ 6 _)
  rw [e2, o_bs]
  have d0 := c4 0 (by omega) (by omega)
  rw [up_ne _ _ (by omega), up_eq] at d0
  rw [e0 _ _ _ _ _ _ (by omega) d0, o_bs, ov_1, ov_new]
  have d : ∀ q, 1 ≤ q → q < 6 → Q2 q = Q1 q := fun q h1 h2 => by rw [c4 q (by omega) (by omega), up_ne _ _ (by omega), up_ne _ _ (by omega)]
  rw [e1r _ _ _ 4 (some (ac + 3)) _ (by omega) (by rw [up_ne _ _ (by omega), up_eq]) rfl, o_bs]
  obtain ⟨Q3, e3, f1, f2, f3, f4⟩ := i_5 (z := z) (ac := ac) (s := h.2.1 + 10 + 60 + 10 + 3 + 1260 + 3 + 12 + 6) (r := h) (P := _) (up_eq _ 9 _)
  rw [e3, o_bs]
  have g0 := f3 0 (by omega)
  rw [up_ne _ _ (by omega), up_eq] at g0
  rw [e0 _ _ _ _ _ _ (by omega) g0, o_bs, e0 _ _ _ _ _ _ (by omega) (up_eq _ _ _), o_bs, e0 _ _ _ _ _ _ (by omega) (up_eq _ _ _), o_bs, e0 _ _ _ _ _ _ (by omega) (up_eq _ _ _), o_bs]
  have g : ∀ q, 1 ≤ q → q < 9 → Q3 q = Q2 q := fun q h1 h2 => by rw [f3 q h2, up_ne _ _ (by omega), up_ne _ _ (by omega)]
  rw [show h.2.1 + 10 + 60 + 10 + 3 + 1260 + 3 + 12 + 6 + 992 = h.2.1 + 2356 by omega]
  refine congrArg some (ov_co fun q hq => ?_)
  by_cases h0 : q = 0
  · rw [h0, up_eq]; rfl
  · rw [up_ne _ _ h0, up_ne _ _ h0, up_ne _ _ h0, up_ne _ _ h0]
    by_cases h11 : 11 ≤ q
    · rw [f4 q h11 hq]
      unfold cC
      rw [if_neg (by omega), if_neg (by omega), if_neg (by omega), if_neg (by omega), if_neg (by omega), if_neg (by omega), if_neg (by omega), if_neg (by omega)]
    · obtain rfl | rfl | rfl | rfl | rfl | rfl | rfl | rfl | rfl | rfl : q = 1 ∨ q = 2 ∨ q = 3 ∨ q = 4 ∨ q = 5 ∨ q = 6 ∨ q = 7 ∨ q = 8 ∨ q = 9 ∨ q = 10 := by omega
      · rw [g 1 (by omega) (by omega), d 1 (by omega) (by omega), b1]; rfl
      · rw [g 2 (by omega) (by omega), d 2 (by omega) (by omega), b2]; rfl
      · rw [g 3 (by omega) (by omega), d 3 (by omega) (by omega), a1]; rfl
      · rw [g 4 (by omega) (by omega), d 4 (by omega) (by omega), a2]; rfl
      · rw [g 5 (by omega) (by omega), d 5 (by omega) (by omega), a3]; rfl
      · rw [g 6 (by omega) (by omega), c1]; rfl
      · rw [g 7 (by omega) (by omega), c2]; rfl
      · rw [g 8 (by omega) (by omega), c3]; rfl
      · rw [f1]; rfl
      · rw [f2]; rfl
