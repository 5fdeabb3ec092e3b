/-! THE CLASS: a step. My own rows. -/
theorem yo_20 {T : mS} {nr c : Nat} (h : YO T nr c) (hF : tI T 2 c = 20) : tI T 5 c = tI T 5 (tN T 6 c) ∧ ∃ t, tys T (tN T 6 c) = (tys T c).take (tN T 9 c) ++ t :: (tys T c).drop (tN T 9 c) ∧ VT nr t (tI T 11 c, T.2.2.2 12 c) := by
  unfold YO at h
  rw [hF] at h
  rcases h with ⟨y, w⟩ | ⟨y, w⟩ | ⟨y, w⟩ | ⟨y, w⟩ | ⟨y, w⟩ | ⟨y, w⟩ | ⟨y, w⟩ | ⟨y, w⟩ | ⟨y, w⟩ | ⟨y, w⟩ | ⟨y, w⟩ | ⟨y, w⟩ | ⟨y, w⟩
  · exact w
  · exact absurd y (by decide)
  · exact absurd y (by decide)
  · exact absurd y (by decide)
  · exact absurd y (by decide)
  · exact absurd y (by decide)
  · exact absurd y (by decide)
  · exact absurd y (by decide)
  · exact absurd y (by decide)
  · exact absurd y (by decide)
  · exact absurd y (by decide)
  · exact absurd y (by decide)
  · exact absurd y (by decide)
theorem yo_21 {T : mS} {nr c : Nat} (h : YO T nr c) (hF : tI T 2 c = 21) : tI T 5 c = tI T 5 (tN T 6 c) ∧ tys T (tN T 6 c) = (tys T c).take (tN T 9 c) ++ (tys T c).drop (tN T 9 c + 1) := by
  unfold YO at h
  rw [hF] at h
  rcases h with ⟨y, w⟩ | ⟨y, w⟩ | ⟨y, w⟩ | ⟨y, w⟩ | ⟨y, w⟩ | ⟨y, w⟩ | ⟨y, w⟩ | ⟨y, w⟩ | ⟨y, w⟩ | ⟨y, w⟩ | ⟨y, w⟩ | ⟨y, w⟩ | ⟨y, w⟩
  · exact absurd y (by decide)
  · exact w
  · exact absurd y (by decide)
  · exact absurd y (by decide)
  · exact absurd y (by decide)
  · exact absurd y (by decide)
  · exact absurd y (by decide)
  · exact absurd y (by decide)
  · exact absurd y (by decide)
  · exact absurd y (by decide)
  · exact absurd y (by decide)
  · exact absurd y (by decide)
  · exact absurd y (by decide)
theorem yo_22 {T : mS} {nr c : Nat} (h : YO T nr c) (hF : tI T 2 c = 22) : tI T 5 c = tI T 5 (tN T 6 c) ∧ (∀ k, k < tN T 3 c → dgt (tI T 9 c) (tN T 3 c) k < tN T 3 c) ∧ tys T (tN T 6 c) = (List.range (tN T 3 c)).map fun k => (tys T c).getD (dgt (tI T 9 c) (tN T 3 c) k) 0 := by
  unfold YO at h
  rw [hF] at h
  rcases h with ⟨y, w⟩ | ⟨y, w⟩ | ⟨y, w⟩ | ⟨y, w⟩ | ⟨y, w⟩ | ⟨y, w⟩ | ⟨y, w⟩ | ⟨y, w⟩ | ⟨y, w⟩ | ⟨y, w⟩ | ⟨y, w⟩ | ⟨y, w⟩ | ⟨y, w⟩
  · exact absurd y (by decide)
  · exact absurd y (by decide)
  · exact w
  · exact absurd y (by decide)
  · exact absurd y (by decide)
  · exact absurd y (by decide)
  · exact absurd y (by decide)
  · exact absurd y (by decide)
  · exact absurd y (by decide)
  · exact absurd y (by decide)
  · exact absurd y (by decide)
  · exact absurd y (by decide)
  · exact absurd y (by decide)
theorem yo_23 {T : mS} {nr c : Nat} (h : YO T nr c) (hF : tI T 2 c = 23) : tI T 5 c = tI T 5 (tN T 6 c) ∧ tys T (tN T 7 c) = (tys T c).take (tN T 3 (tN T 7 c)) ∧ tys T (tN T 6 c) = (if tI T 5 (tN T 7 c) = 4 then [] else [tI T 5 (tN T 7 c)]) ++ tys T c := by
  unfold YO at h
  rw [hF] at h
  rcases h with ⟨y, w⟩ | ⟨y, w⟩ | ⟨y, w⟩ | ⟨y, w⟩ | ⟨y, w⟩ | ⟨y, w⟩ | ⟨y, w⟩ | ⟨y, w⟩ | ⟨y, w⟩ | ⟨y, w⟩ | ⟨y, w⟩ | ⟨y, w⟩ | ⟨y, w⟩
  · exact absurd y (by decide)
  · exact absurd y (by decide)
  · exact absurd y (by decide)
  · exact w
  · exact absurd y (by decide)
  · exact absurd y (by decide)
  · exact absurd y (by decide)
  · exact absurd y (by decide)
  · exact absurd y (by decide)
  · exact absurd y (by decide)
  · exact absurd y (by decide)
  · exact absurd y (by decide)
  · exact absurd y (by decide)
theorem yo_24 {T : mS} {nr c : Nat} (h : YO T nr c) (hF : tI T 2 c = 24) : tI T 5 c = tI T 5 (tN T 6 c) ∧ tys T (tN T 7 c) = ((tys T c).drop (tN T 9 c)).take 1 ∧ tys T (tN T 6 c) = (tys T c).take (tN T 9 c) ++ tI T 5 (tN T 7 c) :: (tys T c).drop (tN T 9 c + 1) := by
  unfold YO at h
  rw [hF] at h
  rcases h with ⟨y, w⟩ | ⟨y, w⟩ | ⟨y, w⟩ | ⟨y, w⟩ | ⟨y, w⟩ | ⟨y, w⟩ | ⟨y, w⟩ | ⟨y, w⟩ | ⟨y, w⟩ | ⟨y, w⟩ | ⟨y, w⟩ | ⟨y, w⟩ | ⟨y, w⟩
  · exact absurd y (by decide)
  · exact absurd y (by decide)
  · exact absurd y (by decide)
  · exact absurd y (by decide)
  · exact w
  · exact absurd y (by decide)
  · exact absurd y (by decide)
  · exact absurd y (by decide)
  · exact absurd y (by decide)
  · exact absurd y (by decide)
  · exact absurd y (by decide)
  · exact absurd y (by decide)
  · exact absurd y (by decide)
theorem yo_25 {T : mS} {nr c : Nat} (h : YO T nr c) (hF : tI T 2 c = 25) : tI T 5 c = tI T 5 (tN T 7 c) ∧ tys T (tN T 6 c) = tys T c ∧ tys T (tN T 7 c) = (if tI T 5 (tN T 6 c) = 4 then [] else [tI T 5 (tN T 6 c)]) := by
  unfold YO at h
  rw [hF] at h
  rcases h with ⟨y, w⟩ | ⟨y, w⟩ | ⟨y, w⟩ | ⟨y, w⟩ | ⟨y, w⟩ | ⟨y, w⟩ | ⟨y, w⟩ | ⟨y, w⟩ | ⟨y, w⟩ | ⟨y, w⟩ | ⟨y, w⟩ | ⟨y, w⟩ | ⟨y, w⟩
  · exact absurd y (by decide)
  · exact absurd y (by decide)
  · exact absurd y (by decide)
  · exact absurd y (by decide)
  · exact absurd y (by decide)
  · exact w
  · exact absurd y (by decide)
  · exact absurd y (by decide)
  · exact absurd y (by decide)
  · exact absurd y (by decide)
  · exact absurd y (by decide)
  · exact absurd y (by decide)
  · exact absurd y (by decide)
theorem yo_26 {T : mS} {nr c : Nat} (h : YO T nr c) (hF : tI T 2 c = 26) : tI T 5 c = tI T 5 (tN T 7 c) ∧ tI T 5 c = tI T 5 (tN T 8 c) ∧ tys T (tN T 6 c) = (tys T c).take (tN T 3 (tN T 6 c)) ∧ tys T (tN T 7 c) = tys T c ∧ tys T (tN T 8 c) = tys T c := by
  unfold YO at h
  rw [hF] at h
  rcases h with ⟨y, w⟩ | ⟨y, w⟩ | ⟨y, w⟩ | ⟨y, w⟩ | ⟨y, w⟩ | ⟨y, w⟩ | ⟨y, w⟩ | ⟨y, w⟩ | ⟨y, w⟩ | ⟨y, w⟩ | ⟨y, w⟩ | ⟨y, w⟩ | ⟨y, w⟩
  · exact absurd y (by decide)
  · exact absurd y (by decide)
  · exact absurd y (by decide)
  · exact absurd y (by decide)
  · exact absurd y (by decide)
  · exact absurd y (by decide)
  · exact w
  · exact absurd y (by decide)
  · exact absurd y (by decide)
  · exact absurd y (by decide)
  · exact absurd y (by decide)
  · exact absurd y (by decide)
  · exact absurd y (by decide)
theorem yo_27 {T : mS} {nr c : Nat} (h : YO T nr c) (hF : tI T 2 c = 27) : tI T 5 c = tI T 5 (tN T 6 c) ∧ tI T 5 c = tI T 5 (tN T 7 c) ∧ tys T (tN T 6 c) = tys T c ∧ tys T (tN T 7 c) = 0 :: tys T c := by
  unfold YO at h
  rw [hF] at h
  rcases h with ⟨y, w⟩ | ⟨y, w⟩ | ⟨y, w⟩ | ⟨y, w⟩ | ⟨y, w⟩ | ⟨y, w⟩ | ⟨y, w⟩ | ⟨y, w⟩ | ⟨y, w⟩ | ⟨y, w⟩ | ⟨y, w⟩ | ⟨y, w⟩ | ⟨y, w⟩
  · exact absurd y (by decide)
  · exact absurd y (by decide)
  · exact absurd y (by decide)
  · exact absurd y (by decide)
  · exact absurd y (by decide)
  · exact absurd y (by decide)
  · exact absurd y (by decide)
  · exact w
  · exact absurd y (by decide)
  · exact absurd y (by decide)
  · exact absurd y (by decide)
  · exact absurd y (by decide)
  · exact absurd y (by decide)
theorem yo_28 {T : mS} {nr c : Nat} (h : YO T nr c) (hF : tI T 2 c = 28) : tI T 5 c = tI T 5 (tN T 6 c) ∧ tys T (tN T 6 c) = tys T c ∧ tys T (tN T 7 c) = 0 :: tys T c := by
  unfold YO at h
  rw [hF] at h
  rcases h with ⟨y, w⟩ | ⟨y, w⟩ | ⟨y, w⟩ | ⟨y, w⟩ | ⟨y, w⟩ | ⟨y, w⟩ | ⟨y, w⟩ | ⟨y, w⟩ | ⟨y, w⟩ | ⟨y, w⟩ | ⟨y, w⟩ | ⟨y, w⟩ | ⟨y, w⟩
  · exact absurd y (by decide)
  · exact absurd y (by decide)
  · exact absurd y (by decide)
  · exact absurd y (by decide)
  · exact absurd y (by decide)
  · exact absurd y (by decide)
  · exact absurd y (by decide)
  · exact absurd y (by decide)
  · exact w
  · exact absurd y (by decide)
  · exact absurd y (by decide)
  · exact absurd y (by decide)
  · exact absurd y (by decide)
theorem yo_29 {T : mS} {nr c : Nat} (h : YO T nr c) (hF : tI T 2 c = 29) : tI T 5 c = tI T 5 (tN T 7 c) ∧ tI T 5 c = tI T 5 (tN T 8 c) ∧ tys T c = [] ∧ tys T (tN T 6 c) = [] ∧ tI T 5 (tN T 6 c) = 0 ∧ tys T (tN T 7 c) = [tI T 5 c, 0] ∧ tys T (tN T 8 c) = [] := by
  unfold YO at h
  rw [hF] at h
  rcases h with ⟨y, w⟩ | ⟨y, w⟩ | ⟨y, w⟩ | ⟨y, w⟩ | ⟨y, w⟩ | ⟨y, w⟩ | ⟨y, w⟩ | ⟨y, w⟩ | ⟨y, w⟩ | ⟨y, w⟩ | ⟨y, w⟩ | ⟨y, w⟩ | ⟨y, w⟩
  · exact absurd y (by decide)
  · exact absurd y (by decide)
  · exact absurd y (by decide)
  · exact absurd y (by decide)
  · exact absurd y (by decide)
  · exact absurd y (by decide)
  · exact absurd y (by decide)
  · exact absurd y (by decide)
  · exact absurd y (by decide)
  · exact w
  · exact absurd y (by decide)
  · exact absurd y (by decide)
  · exact absurd y (by decide)
theorem yo_30 {T : mS} {nr c : Nat} (h : YO T nr c) (hF : tI T 2 c = 30) : tI T 5 c = tI T 5 (tN T 6 c) ∧ ∃ ts, tys T c = ts ++ [3] ∧ tys T (tN T 6 c) = ts ++ (List.range (tN T 9 c)).map fun _ => 0 := by
  unfold YO at h
  rw [hF] at h
  rcases h with ⟨y, w⟩ | ⟨y, w⟩ | ⟨y, w⟩ | ⟨y, w⟩ | ⟨y, w⟩ | ⟨y, w⟩ | ⟨y, w⟩ | ⟨y, w⟩ | ⟨y, w⟩ | ⟨y, w⟩ | ⟨y, w⟩ | ⟨y, w⟩ | ⟨y, w⟩
  · exact absurd y (by decide)
  · exact absurd y (by decide)
  · exact absurd y (by decide)
  · exact absurd y (by decide)
  · exact absurd y (by decide)
  · exact absurd y (by decide)
  · exact absurd y (by decide)
  · exact absurd y (by decide)
  · exact absurd y (by decide)
  · exact absurd y (by decide)
  · exact w
  · exact absurd y (by decide)
  · exact absurd y (by decide)
theorem yo_31 {T : mS} {nr c : Nat} (h : YO T nr c) (hF : tI T 2 c = 31) : tI T 5 c = tI T 5 (tN T 6 c) ∧ tN T 9 c ≤ 5 ∧ ∃ ts, tys T c = ts ++ (List.range (tN T 9 c)).map (fun _ => 0) ∧ tys T (tN T 6 c) = ts ++ [3] := by
  unfold YO at h
  rw [hF] at h
  rcases h with ⟨y, w⟩ | ⟨y, w⟩ | ⟨y, w⟩ | ⟨y, w⟩ | ⟨y, w⟩ | ⟨y, w⟩ | ⟨y, w⟩ | ⟨y, w⟩ | ⟨y, w⟩ | ⟨y, w⟩ | ⟨y, w⟩ | ⟨y, w⟩ | ⟨y, w⟩
  · exact absurd y (by decide)
  · exact absurd y (by decide)
  · exact absurd y (by decide)
  · exact absurd y (by decide)
  · exact absurd y (by decide)
  · exact absurd y (by decide)
  · exact absurd y (by decide)
  · exact absurd y (by decide)
  · exact absurd y (by decide)
  · exact absurd y (by decide)
  · exact absurd y (by decide)
  · exact w
  · exact absurd y (by decide)
theorem yo_32 {T : mS} {nr c : Nat} (h : YO T nr c) (hF : tI T 2 c = 32) : CA (tI T 5 (tN T 6 c)) (tI T 5 c) ∧ isT (tI T 5 c) ∧ tN T 3 (tN T 6 c) = tN T 3 c ∧ ∀ k, k < tN T 3 c → CA (tI T 4 (6 * c + k)) (tI T 4 (6 * tN T 6 c + k)) ∧ isT (tI T 4 (6 * tN T 6 c + k)) := by
  unfold YO at h
  rw [hF] at h
  rcases h with ⟨y, w⟩ | ⟨y, w⟩ | ⟨y, w⟩ | ⟨y, w⟩ | ⟨y, w⟩ | ⟨y, w⟩ | ⟨y, w⟩ | ⟨y, w⟩ | ⟨y, w⟩ | ⟨y, w⟩ | ⟨y, w⟩ | ⟨y, w⟩ | ⟨y, w⟩
  · exact absurd y (by decide)
  · exact absurd y (by decide)
  · exact absurd y (by decide)
  · exact absurd y (by decide)
  · exact absurd y (by decide)
  · exact absurd y (by decide)
  · exact absurd y (by decide)
  · exact absurd y (by decide)
  · exact absurd y (by decide)
  · exact absurd y (by decide)
  · exact absurd y (by decide)
  · exact absurd y (by decide)
  · exact w
theorem wt_20 {T : mS} {nh c : Nat} (h : WT T nh) (hc : c < nh) (hF : tI T 2 c = 20) : tP T nh 6 c ∧ tI T 9 c = nI (tN T 9 c) ∧ tN T 9 c ≤ tN T 3 c ∧ tN T 3 (tN T 6 c) = tN T 3 c + 1 := by
  obtain ⟨-, -, h⟩ := h.2 c hc
  rw [hF] at h
  rcases h with ⟨j, hj, e⟩ | ⟨h6, h⟩
  · exact absurd ((nI_eq (a := 20) (b := j) (by decide) (by omega)).mp e) (by omega)
  rcases h with ⟨y, w⟩ | ⟨y, w⟩ | ⟨y, w⟩ | ⟨y, w⟩ | ⟨y, w⟩ | ⟨y, w⟩ | ⟨y, w⟩ | ⟨y, w⟩ | ⟨y, w⟩ | ⟨y, w⟩ | ⟨y, w⟩ | ⟨y, w⟩ | ⟨y, w⟩
  · exact ⟨h6, w⟩
  · exact absurd y (by decide)
  · exact absurd y (by decide)
  · exact absurd y (by decide)
  · exact absurd y (by decide)
  · exact absurd y (by decide)
  · exact absurd y (by decide)
  · exact absurd y (by decide)
  · exact absurd y (by decide)
  · exact absurd y (by decide)
  · exact absurd y (by decide)
  · exact absurd y (by decide)
  · exact absurd y (by decide)
theorem wt_21 {T : mS} {nh c : Nat} (h : WT T nh) (hc : c < nh) (hF : tI T 2 c = 21) : tP T nh 6 c ∧ tI T 9 c = nI (tN T 9 c) ∧ tN T 9 c < tN T 3 c ∧ tN T 3 (tN T 6 c) + 1 = tN T 3 c := by
  obtain ⟨-, -, h⟩ := h.2 c hc
  rw [hF] at h
  rcases h with ⟨j, hj, e⟩ | ⟨h6, h⟩
  · exact absurd ((nI_eq (a := 21) (b := j) (by decide) (by omega)).mp e) (by omega)
  rcases h with ⟨y, w⟩ | ⟨y, w⟩ | ⟨y, w⟩ | ⟨y, w⟩ | ⟨y, w⟩ | ⟨y, w⟩ | ⟨y, w⟩ | ⟨y, w⟩ | ⟨y, w⟩ | ⟨y, w⟩ | ⟨y, w⟩ | ⟨y, w⟩ | ⟨y, w⟩
  · exact absurd y (by decide)
  · exact ⟨h6, w⟩
  · exact absurd y (by decide)
  · exact absurd y (by decide)
  · exact absurd y (by decide)
  · exact absurd y (by decide)
  · exact absurd y (by decide)
  · exact absurd y (by decide)
  · exact absurd y (by decide)
  · exact absurd y (by decide)
  · exact absurd y (by decide)
  · exact absurd y (by decide)
  · exact absurd y (by decide)
theorem wt_22 {T : mS} {nh c : Nat} (h : WT T nh) (hc : c < nh) (hF : tI T 2 c = 22) : tP T nh 6 c ∧ tI T 9 c = nI (tN T 9 c) ∧ tN T 9 c < 1000000 ∧ tN T 3 (tN T 6 c) = tN T 3 c ∧ ∀ k, k < tN T 3 c → dgt (tI T 9 c) (tN T 3 c) k < tN T 3 c := by
  obtain ⟨-, -, h⟩ := h.2 c hc
  rw [hF] at h
  rcases h with ⟨j, hj, e⟩ | ⟨h6, h⟩
  · exact absurd ((nI_eq (a := 22) (b := j) (by decide) (by omega)).mp e) (by omega)
  rcases h with ⟨y, w⟩ | ⟨y, w⟩ | ⟨y, w⟩ | ⟨y, w⟩ | ⟨y, w⟩ | ⟨y, w⟩ | ⟨y, w⟩ | ⟨y, w⟩ | ⟨y, w⟩ | ⟨y, w⟩ | ⟨y, w⟩ | ⟨y, w⟩ | ⟨y, w⟩
  · exact absurd y (by decide)
  · exact absurd y (by decide)
  · exact ⟨h6, w⟩
  · exact absurd y (by decide)
  · exact absurd y (by decide)
  · exact absurd y (by decide)
  · exact absurd y (by decide)
  · exact absurd y (by decide)
  · exact absurd y (by decide)
  · exact absurd y (by decide)
  · exact absurd y (by decide)
  · exact absurd y (by decide)
  · exact absurd y (by decide)
theorem wt_23 {T : mS} {nh c : Nat} (h : WT T nh) (hc : c < nh) (hF : tI T 2 c = 23) : tP T nh 6 c ∧ tP T nh 7 c ∧ tN T 3 (tN T 7 c) ≤ tN T 3 c ∧ tN T 3 (tN T 6 c) = tN T 3 c + (if tI T 5 (tN T 7 c) = 4 then 0 else 1) := by
  obtain ⟨-, -, h⟩ := h.2 c hc
  rw [hF] at h
  rcases h with ⟨j, hj, e⟩ | ⟨h6, h⟩
  · exact absurd ((nI_eq (a := 23) (b := j) (by decide) (by omega)).mp e) (by omega)
  rcases h with ⟨y, w⟩ | ⟨y, w⟩ | ⟨y, w⟩ | ⟨y, w⟩ | ⟨y, w⟩ | ⟨y, w⟩ | ⟨y, w⟩ | ⟨y, w⟩ | ⟨y, w⟩ | ⟨y, w⟩ | ⟨y, w⟩ | ⟨y, w⟩ | ⟨y, w⟩
  · exact absurd y (by decide)
  · exact absurd y (by decide)
  · exact absurd y (by decide)
  · exact ⟨h6, w⟩
  · exact absurd y (by decide)
  · exact absurd y (by decide)
  · exact absurd y (by decide)
  · exact absurd y (by decide)
  · exact absurd y (by decide)
  · exact absurd y (by decide)
  · exact absurd y (by decide)
  · exact absurd y (by decide)
  · exact absurd y (by decide)
theorem wt_24 {T : mS} {nh c : Nat} (h : WT T nh) (hc : c < nh) (hF : tI T 2 c = 24) : tP T nh 6 c ∧ tP T nh 7 c ∧ tI T 9 c = nI (tN T 9 c) ∧ tN T 9 c < tN T 3 c ∧ tN T 3 (tN T 7 c) = 1 ∧ tN T 3 (tN T 6 c) = tN T 3 c := by
  obtain ⟨-, -, h⟩ := h.2 c hc
  rw [hF] at h
  rcases h with ⟨j, hj, e⟩ | ⟨h6, h⟩
  · exact absurd ((nI_eq (a := 24) (b := j) (by decide) (by omega)).mp e) (by omega)
  rcases h with ⟨y, w⟩ | ⟨y, w⟩ | ⟨y, w⟩ | ⟨y, w⟩ | ⟨y, w⟩ | ⟨y, w⟩ | ⟨y, w⟩ | ⟨y, w⟩ | ⟨y, w⟩ | ⟨y, w⟩ | ⟨y, w⟩ | ⟨y, w⟩ | ⟨y, w⟩
  · exact absurd y (by decide)
  · exact absurd y (by decide)
  · exact absurd y (by decide)
  · exact absurd y (by decide)
  · exact ⟨h6, w⟩
  · exact absurd y (by decide)
  · exact absurd y (by decide)
  · exact absurd y (by decide)
  · exact absurd y (by decide)
  · exact absurd y (by decide)
  · exact absurd y (by decide)
  · exact absurd y (by decide)
  · exact absurd y (by decide)
theorem wt_25 {T : mS} {nh c : Nat} (h : WT T nh) (hc : c < nh) (hF : tI T 2 c = 25) : tP T nh 6 c ∧ tP T nh 7 c ∧ tN T 3 (tN T 6 c) = tN T 3 c ∧ tN T 3 (tN T 7 c) = (if tI T 5 (tN T 6 c) = 4 then 0 else 1) := by
  obtain ⟨-, -, h⟩ := h.2 c hc
  rw [hF] at h
  rcases h with ⟨j, hj, e⟩ | ⟨h6, h⟩
  · exact absurd ((nI_eq (a := 25) (b := j) (by decide) (by omega)).mp e) (by omega)
  rcases h with ⟨y, w⟩ | ⟨y, w⟩ | ⟨y, w⟩ | ⟨y, w⟩ | ⟨y, w⟩ | ⟨y, w⟩ | ⟨y, w⟩ | ⟨y, w⟩ | ⟨y, w⟩ | ⟨y, w⟩ | ⟨y, w⟩ | ⟨y, w⟩ | ⟨y, w⟩
  · exact absurd y (by decide)
  · exact absurd y (by decide)
  · exact absurd y (by decide)
  · exact absurd y (by decide)
  · exact absurd y (by decide)
  · exact ⟨h6, w⟩
  · exact absurd y (by decide)
  · exact absurd y (by decide)
  · exact absurd y (by decide)
  · exact absurd y (by decide)
  · exact absurd y (by decide)
  · exact absurd y (by decide)
  · exact absurd y (by decide)
theorem wt_26 {T : mS} {nh c : Nat} (h : WT T nh) (hc : c < nh) (hF : tI T 2 c = 26) : tP T nh 6 c ∧ tP T nh 7 c ∧ tP T nh 8 c ∧ tN T 3 (tN T 6 c) ≤ tN T 3 c ∧ tN T 3 (tN T 7 c) = tN T 3 c ∧ tN T 3 (tN T 8 c) = tN T 3 c := by
  obtain ⟨-, -, h⟩ := h.2 c hc
  rw [hF] at h
  rcases h with ⟨j, hj, e⟩ | ⟨h6, h⟩
  · exact absurd ((nI_eq (a := 26) (b := j) (by decide) (by omega)).mp e) (by omega)
  rcases h with ⟨y, w⟩ | ⟨y, w⟩ | ⟨y, w⟩ | ⟨y, w⟩ | ⟨y, w⟩ | ⟨y, w⟩ | ⟨y, w⟩ | ⟨y, w⟩ | ⟨y, w⟩ | ⟨y, w⟩ | ⟨y, w⟩ | ⟨y, w⟩ | ⟨y, w⟩
  · exact absurd y (by decide)
  · exact absurd y (by decide)
  · exact absurd y (by decide)
  · exact absurd y (by decide)
  · exact absurd y (by decide)
  · exact absurd y (by decide)
  · exact ⟨h6, w⟩
  · exact absurd y (by decide)
  · exact absurd y (by decide)
  · exact absurd y (by decide)
  · exact absurd y (by decide)
  · exact absurd y (by decide)
  · exact absurd y (by decide)
theorem wt_27 {T : mS} {nh c : Nat} (h : WT T nh) (hc : c < nh) (hF : tI T 2 c = 27) : tP T nh 6 c ∧ tP T nh 7 c ∧ tN T 3 (tN T 6 c) = tN T 3 c ∧ tN T 3 (tN T 7 c) = tN T 3 c + 1 := by
  obtain ⟨-, -, h⟩ := h.2 c hc
  rw [hF] at h
  rcases h with ⟨j, hj, e⟩ | ⟨h6, h⟩
  · exact absurd ((nI_eq (a := 27) (b := j) (by decide) (by omega)).mp e) (by omega)
  rcases h with ⟨y, w⟩ | ⟨y, w⟩ | ⟨y, w⟩ | ⟨y, w⟩ | ⟨y, w⟩ | ⟨y, w⟩ | ⟨y, w⟩ | ⟨y, w⟩ | ⟨y, w⟩ | ⟨y, w⟩ | ⟨y, w⟩ | ⟨y, w⟩ | ⟨y, w⟩
  · exact absurd y (by decide)
  · exact absurd y (by decide)
  · exact absurd y (by decide)
  · exact absurd y (by decide)
  · exact absurd y (by decide)
  · exact absurd y (by decide)
  · exact absurd y (by decide)
  · exact ⟨h6, w⟩
  · exact absurd y (by decide)
  · exact absurd y (by decide)
  · exact absurd y (by decide)
  · exact absurd y (by decide)
  · exact absurd y (by decide)
theorem wt_28 {T : mS} {nh c : Nat} (h : WT T nh) (hc : c < nh) (hF : tI T 2 c = 28) : tP T nh 6 c ∧ tP T nh 7 c ∧ tN T 3 (tN T 6 c) = tN T 3 c ∧ tN T 3 (tN T 7 c) = tN T 3 c + 1 := by
  obtain ⟨-, -, h⟩ := h.2 c hc
  rw [hF] at h
  rcases h with ⟨j, hj, e⟩ | ⟨h6, h⟩
  · exact absurd ((nI_eq (a := 28) (b := j) (by decide) (by omega)).mp e) (by omega)
  rcases h with ⟨y, w⟩ | ⟨y, w⟩ | ⟨y, w⟩ | ⟨y, w⟩ | ⟨y, w⟩ | ⟨y, w⟩ | ⟨y, w⟩ | ⟨y, w⟩ | ⟨y, w⟩ | ⟨y, w⟩ | ⟨y, w⟩ | ⟨y, w⟩ | ⟨y, w⟩
  · exact absurd y (by decide)
  · exact absurd y (by decide)
  · exact absurd y (by decide)
  · exact absurd y (by decide)
  · exact absurd y (by decide)
  · exact absurd y (by decide)
  · exact absurd y (by decide)
  · exact absurd y (by decide)
  · exact ⟨h6, w⟩
  · exact absurd y (by decide)
  · exact absurd y (by decide)
  · exact absurd y (by decide)
  · exact absurd y (by decide)
theorem wt_29 {T : mS} {nh c : Nat} (h : WT T nh) (hc : c < nh) (hF : tI T 2 c = 29) : tP T nh 6 c ∧ tP T nh 7 c ∧ tP T nh 8 c ∧ tN T 3 c = 0 ∧ tN T 3 (tN T 6 c) = 0 ∧ tN T 3 (tN T 7 c) = 2 ∧ tN T 3 (tN T 8 c) = 0 := by
  obtain ⟨-, -, h⟩ := h.2 c hc
  rw [hF] at h
  rcases h with ⟨j, hj, e⟩ | ⟨h6, h⟩
  · exact absurd ((nI_eq (a := 29) (b := j) (by decide) (by omega)).mp e) (by omega)
  rcases h with ⟨y, w⟩ | ⟨y, w⟩ | ⟨y, w⟩ | ⟨y, w⟩ | ⟨y, w⟩ | ⟨y, w⟩ | ⟨y, w⟩ | ⟨y, w⟩ | ⟨y, w⟩ | ⟨y, w⟩ | ⟨y, w⟩ | ⟨y, w⟩ | ⟨y, w⟩
  · exact absurd y (by decide)
  · exact absurd y (by decide)
  · exact absurd y (by decide)
  · exact absurd y (by decide)
  · exact absurd y (by decide)
  · exact absurd y (by decide)
  · exact absurd y (by decide)
  · exact absurd y (by decide)
  · exact absurd y (by decide)
  · exact ⟨h6, w⟩
  · exact absurd y (by decide)
  · exact absurd y (by decide)
  · exact absurd y (by decide)
theorem wt_30 {T : mS} {nh c : Nat} (h : WT T nh) (hc : c < nh) (hF : tI T 2 c = 30) : tP T nh 6 c ∧ tI T 9 c = nI (tN T 9 c) ∧ 1 ≤ tN T 3 c ∧ tN T 9 c ≤ 6 ∧ tN T 3 (tN T 6 c) + 1 = tN T 3 c + tN T 9 c := by
  obtain ⟨-, -, h⟩ := h.2 c hc
  rw [hF] at h
  rcases h with ⟨j, hj, e⟩ | ⟨h6, h⟩
  · exact absurd ((nI_eq (a := 30) (b := j) (by decide) (by omega)).mp e) (by omega)
  rcases h with ⟨y, w⟩ | ⟨y, w⟩ | ⟨y, w⟩ | ⟨y, w⟩ | ⟨y, w⟩ | ⟨y, w⟩ | ⟨y, w⟩ | ⟨y, w⟩ | ⟨y, w⟩ | ⟨y, w⟩ | ⟨y, w⟩ | ⟨y, w⟩ | ⟨y, w⟩
  · exact absurd y (by decide)
  · exact absurd y (by decide)
  · exact absurd y (by decide)
  · exact absurd y (by decide)
  · exact absurd y (by decide)
  · exact absurd y (by decide)
  · exact absurd y (by decide)
  · exact absurd y (by decide)
  · exact absurd y (by decide)
  · exact absurd y (by decide)
  · exact ⟨h6, w⟩
  · exact absurd y (by decide)
  · exact absurd y (by decide)
theorem wt_31 {T : mS} {nh c : Nat} (h : WT T nh) (hc : c < nh) (hF : tI T 2 c = 31) : tP T nh 6 c ∧ tI T 9 c = nI (tN T 9 c) ∧ tN T 9 c ≤ tN T 3 c ∧ tN T 9 c ≤ 5 ∧ tN T 3 (tN T 6 c) + tN T 9 c = tN T 3 c + 1 := by
  obtain ⟨-, -, h⟩ := h.2 c hc
  rw [hF] at h
  rcases h with ⟨j, hj, e⟩ | ⟨h6, h⟩
  · exact absurd ((nI_eq (a := 31) (b := j) (by decide) (by omega)).mp e) (by omega)
  rcases h with ⟨y, w⟩ | ⟨y, w⟩ | ⟨y, w⟩ | ⟨y, w⟩ | ⟨y, w⟩ | ⟨y, w⟩ | ⟨y, w⟩ | ⟨y, w⟩ | ⟨y, w⟩ | ⟨y, w⟩ | ⟨y, w⟩ | ⟨y, w⟩ | ⟨y, w⟩
  · exact absurd y (by decide)
  · exact absurd y (by decide)
  · exact absurd y (by decide)
  · exact absurd y (by decide)
  · exact absurd y (by decide)
  · exact absurd y (by decide)
  · exact absurd y (by decide)
  · exact absurd y (by decide)
  · exact absurd y (by decide)
  · exact absurd y (by decide)
  · exact absurd y (by decide)
  · exact ⟨h6, w⟩
  · exact absurd y (by decide)
theorem wt_32 {T : mS} {nh c : Nat} (h : WT T nh) (hc : c < nh) (hF : tI T 2 c = 32) : tP T nh 6 c ∧ tN T 3 (tN T 6 c) = tN T 3 c := by
  obtain ⟨-, -, h⟩ := h.2 c hc
  rw [hF] at h
  rcases h with ⟨j, hj, e⟩ | ⟨h6, h⟩
  · exact absurd ((nI_eq (a := 32) (b := j) (by decide) (by omega)).mp e) (by omega)
  rcases h with ⟨y, w⟩ | ⟨y, w⟩ | ⟨y, w⟩ | ⟨y, w⟩ | ⟨y, w⟩ | ⟨y, w⟩ | ⟨y, w⟩ | ⟨y, w⟩ | ⟨y, w⟩ | ⟨y, w⟩ | ⟨y, w⟩ | ⟨y, w⟩ | ⟨y, w⟩
  · exact absurd y (by decide)
  · exact absurd y (by decide)
  · exact absurd y (by decide)
  · exact absurd y (by decide)
  · exact absurd y (by decide)
  · exact absurd y (by decide)
  · exact absurd y (by decide)
  · exact absurd y (by decide)
  · exact absurd y (by decide)
  · exact absurd y (by decide)
  · exact absurd y (by decide)
  · exact absurd y (by decide)
  · exact ⟨h6, w⟩
section
variable {z : Nat → Nat} {ac : Nat} {r : aH} {T : mS} {ha : Nat → Nat} {nh nr m d : Nat} {rec : aRec} {P : Nat → Option Nat → Int32 → aH → Option (Int32 × aH)} {c ty pa hx hy : Nat} {as : List aVl} {R : aRS} {C : cS}
set_option maxHeartbeats 4000000 in
theorem c_other {j : Nat} (hj : j < 13) (K : CK ac r T ha c nr m rec P) (h : IN nr m d R C) (hW : WT T nh) (hY : YO T nr c) (hc : c < nh) (HO : ∀ x, x < nh → hOk ac T r ha x) (ho : out ac (ha c)) (hty : aTy ac r ty (tys T c) (tI T 5 c)) (o : oOk ac T r ha c j ty pa hx hy) (hcd : c + d ≤ 60) (hA : CV C (d + 1) as) (hT : VTs R.2.1 (tys T c) as) (h80 : R.1 ≤ 80) : CG ac r d C (so T rec c as R) (fX5_performOther z P (ac + 9) (some (ha c)) (nI d) (co ac C r)) := by
  have hl := hT.len
  rw [tys_len] at hl
  have q0 : rdI (co ac C r) (ha c) [1] 0 = some (nI j) := by
    obtain ⟨o1, o2, ⟨hk, hn, o5, o6⟩, o8, s6, -, -⟩ := o
    exact p_rdI o5 ho (by decide) rfl
  have q1 : rdR (co ac C r) (ha c) [1] 3 = some (some pa) := by
    obtain ⟨o1, o2, ⟨hk, hn, o5, o6⟩, o8, s6, -, -⟩ := o
    exact p_rdR o5 ho (by decide) rfl
  have s6 : tN T 6 c < nh := Nat.lt_trans o.2.2.2.2.1 hc
  have H6 : ∀ x, x < nh → (tys T x).length ≤ 6 := fun x hx => by rw [tys_len]; exact (hW.m hx).2
  unfold fX5_performOther so
  rw [o_bs, q1, o_bs, q0, o_bs]
  obtain rfl | rfl | rfl | rfl | rfl | rfl | rfl | rfl | rfl | rfl | rfl | rfl | rfl : j = 0 ∨ j = 1 ∨ j = 2 ∨ j = 3 ∨ j = 4 ∨ j = 5 ∨ j = 6 ∨ j = 7 ∨ j = 8 ∨ j = 9 ∨ j = 10 ∨ j = 11 ∨ j = 12 := by omega
  · have hF : tI T 2 c = 20 := o.1
    obtain ⟨w0, w1, w2, w3⟩ := wt_20 hW hc hF
    obtain ⟨y0, t, y1, y2⟩ := yo_20 hY hF
    have w6 := H6 _ s6
    rw [tys_len] at w6
    rw [if_pos hF, if_pos (show nI 0 = 0 by decide), o4, o_bs]
    obtain ⟨q, C2, g1, g2, g3⟩ := c_20 (z := z) K h ho o hcd hA hT w1 (by omega) (by omega) y1 y2
    rw [g2, o_bs]
    exact ⟨q, C2, g1, rfl, g3⟩
  · have hF : tI T 2 c = 21 := o.1
    obtain ⟨w0, w1, w2, w3⟩ := wt_21 hW hc hF
    obtain ⟨y0, y1⟩ := yo_21 hY hF
    rw [if_neg (show ¬ tI T 2 c = 20 by rw [hF]; decide), if_pos hF, if_neg (show ¬ nI 1 = 0 by decide), if_pos (show nI 1 = 1 by decide), o4, o_bs]
    obtain ⟨q, C2, g1, g2, g3⟩ := c_21 (z := z) K h o hcd hA hT w1 (by omega) y1
    rw [g2, o_bs]
    exact ⟨q, C2, g1, rfl, g3⟩
  · have hF : tI T 2 c = 22 := o.1
    obtain ⟨w0, w1, w2, w3, w4⟩ := wt_22 hW hc hF
    obtain ⟨y0, y1, y2⟩ := yo_22 hY hF
    rw [← hl] at w4 y1 y2
    rw [if_neg (show ¬ tI T 2 c = 20 by rw [hF]; decide), if_neg (show ¬ tI T 2 c = 21 by rw [hF]; decide), if_pos hF, if_neg (show ¬ nI 2 = 0 by decide), if_neg (show ¬ nI 2 = 1 by decide), if_pos (show nI 2 = 2 by decide), o4, o_bs]
    obtain ⟨q, C2, g1, g2, g3⟩ := c_22 (z := z) K h o hcd hA w1 w2 w4 (by
      rw [y2]
      exact VTs.map _ _ _ fun k hk => hT.get _ (by rw [tys_len, ← hl]; exact w4 k (List.mem_range.mp hk)))
    rw [g2, o_bs]
    exact ⟨q, C2, g1, rfl, g3⟩
  · have hF : tI T 2 c = 23 := o.1
    obtain ⟨w0, w1, w2, w3⟩ := wt_23 hW hc hF
    obtain ⟨y0, y1, y2⟩ := yo_23 hY hF
    rw [if_neg (show ¬ tI T 2 c = 20 by rw [hF]; decide), if_neg (show ¬ tI T 2 c = 21 by rw [hF]; decide), if_neg (show ¬ tI T 2 c = 22 by rw [hF]; decide), if_pos hF, if_neg (show ¬ nI 3 = 0 by decide), if_neg (show ¬ nI 3 = 1 by decide), if_neg (show ¬ nI 3 = 2 by decide), if_pos (show nI 3 = 3 by decide), o4, o_bs]
    obtain ⟨q, C2, g1, g2, g3⟩ := c_23 (z := z) K h o hcd hA hT h80 (HO _ w1.2) (HO _ s6) (by omega) y1 y2
    rw [g2, o_bs]
    exact ⟨q, C2, g1, rfl, g3⟩
  · have hF : tI T 2 c = 24 := o.1
    obtain ⟨w0, w1, w2, w3, w4, w5⟩ := wt_24 hW hc hF
    obtain ⟨y0, y1, y2⟩ := yo_24 hY hF
    rw [if_neg (show ¬ tI T 2 c = 20 by rw [hF]; decide), if_neg (show ¬ tI T 2 c = 21 by rw [hF]; decide), if_neg (show ¬ tI T 2 c = 22 by rw [hF]; decide), if_neg (show ¬ tI T 2 c = 23 by rw [hF]; decide), if_pos hF, if_neg (show ¬ nI 4 = 0 by decide), if_neg (show ¬ nI 4 = 1 by decide), if_neg (show ¬ nI 4 = 2 by decide), if_neg (show ¬ nI 4 = 3 by decide), if_pos (show nI 4 = 4 by decide), o4, o_bs]
    obtain ⟨q, C2, g1, g2, g3⟩ := c_24 (z := z) K h o hcd hA hT h80 w2 (by omega) y1 y2
    rw [g2, o_bs]
    exact ⟨q, C2, g1, rfl, g3⟩
  · have hF : tI T 2 c = 25 := o.1
    obtain ⟨w0, w1, w2, w3⟩ := wt_25 hW hc hF
    obtain ⟨y0, y1, y2⟩ := yo_25 hY hF
    rw [if_neg (show ¬ tI T 2 c = 20 by rw [hF]; decide), if_neg (show ¬ tI T 2 c = 21 by rw [hF]; decide), if_neg (show ¬ tI T 2 c = 22 by rw [hF]; decide), if_neg (show ¬ tI T 2 c = 23 by rw [hF]; decide), if_neg (show ¬ tI T 2 c = 24 by rw [hF]; decide), if_pos hF, if_neg (show ¬ nI 5 = 0 by decide), if_neg (show ¬ nI 5 = 1 by decide), if_neg (show ¬ nI 5 = 2 by decide), if_neg (show ¬ nI 5 = 3 by decide), if_neg (show ¬ nI 5 = 4 by decide), if_pos (show nI 5 = 5 by decide), o4, o_bs]
    obtain ⟨q, C2, g1, g2, g3⟩ := c_25 (z := z) K h o hcd hA hT h80 (HO _ s6) y1 y2
    rw [g2, o_bs]
    exact ⟨q, C2, g1, rfl, g3⟩
  · have hF : tI T 2 c = 26 := o.1
    obtain ⟨w0, w1, w2, w3, w4, w5⟩ := wt_26 hW hc hF
    obtain ⟨y0, y1, y2, y3, y4⟩ := yo_26 hY hF
    rw [if_neg (show ¬ tI T 2 c = 20 by rw [hF]; decide), if_neg (show ¬ tI T 2 c = 21 by rw [hF]; decide), if_neg (show ¬ tI T 2 c = 22 by rw [hF]; decide), if_neg (show ¬ tI T 2 c = 23 by rw [hF]; decide), if_neg (show ¬ tI T 2 c = 24 by rw [hF]; decide), if_neg (show ¬ tI T 2 c = 25 by rw [hF]; decide), if_pos hF, if_neg (show ¬ nI 6 = 0 by decide), if_neg (show ¬ nI 6 = 1 by decide), if_neg (show ¬ nI 6 = 2 by decide), if_neg (show ¬ nI 6 = 3 by decide), if_neg (show ¬ nI 6 = 4 by decide), if_neg (show ¬ nI 6 = 5 by decide), if_pos (show nI 6 = 6 by decide), o4, o_bs]
    obtain ⟨q, C2, g1, g2, g3⟩ := c_26 (z := z) K h o hcd hA hT h80 (HO _ s6) (by omega) y2 y3 y4
    rw [g2, o_bs]
    exact ⟨q, C2, g1, rfl, g3⟩
  · have hF : tI T 2 c = 27 := o.1
    obtain ⟨w0, w1, w2, w3⟩ := wt_27 hW hc hF
    obtain ⟨y0, y1, y2, y3⟩ := yo_27 hY hF
    have w6 := H6 _ w1.2
    rw [tys_len] at w6
    rw [if_neg (show ¬ tI T 2 c = 20 by rw [hF]; decide), if_neg (show ¬ tI T 2 c = 21 by rw [hF]; decide), if_neg (show ¬ tI T 2 c = 22 by rw [hF]; decide), if_neg (show ¬ tI T 2 c = 23 by rw [hF]; decide), if_neg (show ¬ tI T 2 c = 24 by rw [hF]; decide), if_neg (show ¬ tI T 2 c = 25 by rw [hF]; decide), if_neg (show ¬ tI T 2 c = 26 by rw [hF]; decide), if_pos hF, if_neg (show ¬ nI 7 = 0 by decide), if_neg (show ¬ nI 7 = 1 by decide), if_neg (show ¬ nI 7 = 2 by decide), if_neg (show ¬ nI 7 = 3 by decide), if_neg (show ¬ nI 7 = 4 by decide), if_neg (show ¬ nI 7 = 5 by decide), if_neg (show ¬ nI 7 = 6 by decide), if_pos (show nI 7 = 7 by decide), o4, o_bs]
    obtain ⟨q, C2, g1, g2, g3⟩ := c_27 (z := z) K h o hcd hA hT h80 (by omega) y2 y3
    rw [g2, o_bs]
    exact ⟨q, C2, g1, rfl, g3⟩
  · have hF : tI T 2 c = 28 := o.1
    obtain ⟨w0, w1, w2, w3⟩ := wt_28 hW hc hF
    obtain ⟨y0, y1, y2⟩ := yo_28 hY hF
    have w6 := H6 _ w1.2
    rw [tys_len] at w6
    rw [if_neg (show ¬ tI T 2 c = 20 by rw [hF]; decide), if_neg (show ¬ tI T 2 c = 21 by rw [hF]; decide), if_neg (show ¬ tI T 2 c = 22 by rw [hF]; decide), if_neg (show ¬ tI T 2 c = 23 by rw [hF]; decide), if_neg (show ¬ tI T 2 c = 24 by rw [hF]; decide), if_neg (show ¬ tI T 2 c = 25 by rw [hF]; decide), if_neg (show ¬ tI T 2 c = 26 by rw [hF]; decide), if_neg (show ¬ tI T 2 c = 27 by rw [hF]; decide), if_pos hF, if_neg (show ¬ nI 8 = 0 by decide), if_neg (show ¬ nI 8 = 1 by decide), if_neg (show ¬ nI 8 = 2 by decide), if_neg (show ¬ nI 8 = 3 by decide), if_neg (show ¬ nI 8 = 4 by decide), if_neg (show ¬ nI 8 = 5 by decide), if_neg (show ¬ nI 8 = 6 by decide), if_neg (show ¬ nI 8 = 7 by decide), if_pos (show nI 8 = 8 by decide), o4, o_bs]
    obtain ⟨q, C2, g1, g2, g3⟩ := c_28 (z := z) K h o hcd hA hT h80 (by omega) y1 y2
    rw [g2, o_bs]
    exact ⟨q, C2, g1, rfl, g3⟩
  · have hF : tI T 2 c = 29 := o.1
    obtain ⟨w0, w1, w2, w3, w4, w5, w6⟩ := wt_29 hW hc hF
    obtain ⟨y0, y1, y2, y3, y4, y5, y6⟩ := yo_29 hY hF
    rw [if_neg (show ¬ tI T 2 c = 20 by rw [hF]; decide), if_neg (show ¬ tI T 2 c = 21 by rw [hF]; decide), if_neg (show ¬ tI T 2 c = 22 by rw [hF]; decide), if_neg (show ¬ tI T 2 c = 23 by rw [hF]; decide), if_neg (show ¬ tI T 2 c = 24 by rw [hF]; decide), if_neg (show ¬ tI T 2 c = 25 by rw [hF]; decide), if_neg (show ¬ tI T 2 c = 26 by rw [hF]; decide), if_neg (show ¬ tI T 2 c = 27 by rw [hF]; decide), if_neg (show ¬ tI T 2 c = 28 by rw [hF]; decide), if_pos hF, if_neg (show ¬ nI 9 = 0 by decide), if_neg (show ¬ nI 9 = 1 by decide), if_neg (show ¬ nI 9 = 2 by decide), if_neg (show ¬ nI 9 = 3 by decide), if_neg (show ¬ nI 9 = 4 by decide), if_neg (show ¬ nI 9 = 5 by decide), if_neg (show ¬ nI 9 = 6 by decide), if_neg (show ¬ nI 9 = 7 by decide), if_neg (show ¬ nI 9 = 8 by decide), if_pos (show nI 9 = 9 by decide), o4, o_bs]
    obtain ⟨q, C2, g1, g2, g3⟩ := c_29 (z := z) K h o hcd h80 y3 y4 y5 y0.symm y6 y1.symm
    rw [g2, o_bs]
    exact ⟨q, C2, g1, rfl, g3⟩
  · have hF : tI T 2 c = 30 := o.1
    obtain ⟨w0, w1, w2, w3, w4⟩ := wt_30 hW hc hF
    obtain ⟨y0, ts, y1, y2⟩ := yo_30 hY hF
    rw [if_neg (show ¬ tI T 2 c = 20 by rw [hF]; decide), if_neg (show ¬ tI T 2 c = 21 by rw [hF]; decide), if_neg (show ¬ tI T 2 c = 22 by rw [hF]; decide), if_neg (show ¬ tI T 2 c = 23 by rw [hF]; decide), if_neg (show ¬ tI T 2 c = 24 by rw [hF]; decide), if_neg (show ¬ tI T 2 c = 25 by rw [hF]; decide), if_neg (show ¬ tI T 2 c = 26 by rw [hF]; decide), if_neg (show ¬ tI T 2 c = 27 by rw [hF]; decide), if_neg (show ¬ tI T 2 c = 28 by rw [hF]; decide), if_neg (show ¬ tI T 2 c = 29 by rw [hF]; decide), if_pos hF, if_neg (show ¬ nI 10 = 0 by decide), if_neg (show ¬ nI 10 = 1 by decide), if_neg (show ¬ nI 10 = 2 by decide), if_neg (show ¬ nI 10 = 3 by decide), if_neg (show ¬ nI 10 = 4 by decide), if_neg (show ¬ nI 10 = 5 by decide), if_neg (show ¬ nI 10 = 6 by decide), if_neg (show ¬ nI 10 = 7 by decide), if_neg (show ¬ nI 10 = 8 by decide), if_neg (show ¬ nI 10 = 9 by decide), if_pos (show nI 10 = 10 by decide), o4, o_bs]
    obtain ⟨q, C2, g1, g2, g3⟩ := c_30 (z := z) K h o hcd hA hT w1 w3 (H6 _ s6) y1 y2
    rw [g2, o_bs]
    exact ⟨q, C2, g1, rfl, g3⟩
  · have hF : tI T 2 c = 31 := o.1
    obtain ⟨w0, w1, w2, w3, w4⟩ := wt_31 hW hc hF
    obtain ⟨y0, y5, ts, y1, y2⟩ := yo_31 hY hF
    rw [if_neg (show ¬ tI T 2 c = 20 by rw [hF]; decide), if_neg (show ¬ tI T 2 c = 21 by rw [hF]; decide), if_neg (show ¬ tI T 2 c = 22 by rw [hF]; decide), if_neg (show ¬ tI T 2 c = 23 by rw [hF]; decide), if_neg (show ¬ tI T 2 c = 24 by rw [hF]; decide), if_neg (show ¬ tI T 2 c = 25 by rw [hF]; decide), if_neg (show ¬ tI T 2 c = 26 by rw [hF]; decide), if_neg (show ¬ tI T 2 c = 27 by rw [hF]; decide), if_neg (show ¬ tI T 2 c = 28 by rw [hF]; decide), if_neg (show ¬ tI T 2 c = 29 by rw [hF]; decide), if_neg (show ¬ tI T 2 c = 30 by rw [hF]; decide), if_pos hF, if_neg (show ¬ nI 11 = 0 by decide), if_neg (show ¬ nI 11 = 1 by decide), if_neg (show ¬ nI 11 = 2 by decide), if_neg (show ¬ nI 11 = 3 by decide), if_neg (show ¬ nI 11 = 4 by decide), if_neg (show ¬ nI 11 = 5 by decide), if_neg (show ¬ nI 11 = 6 by decide), if_neg (show ¬ nI 11 = 7 by decide), if_neg (show ¬ nI 11 = 8 by decide), if_neg (show ¬ nI 11 = 9 by decide), if_neg (show ¬ nI 11 = 10 by decide), if_pos (show nI 11 = 11 by decide), o4, o_bs]
    obtain ⟨q, C2, g1, g2, g3⟩ := c_31 (z := z) K h o hcd hA hT w1 w3 (H6 _ s6) y1 y2
    rw [g2, o_bs]
    exact ⟨q, C2, g1, rfl, g3⟩
  · have hF : tI T 2 c = 32 := o.1
    obtain ⟨w0, w1⟩ := wt_32 hW hc hF
    obtain ⟨y0, y1, y2, y3⟩ := yo_32 hY hF
    rw [if_neg (show ¬ tI T 2 c = 20 by rw [hF]; decide), if_neg (show ¬ tI T 2 c = 21 by rw [hF]; decide), if_neg (show ¬ tI T 2 c = 22 by rw [hF]; decide), if_neg (show ¬ tI T 2 c = 23 by rw [hF]; decide), if_neg (show ¬ tI T 2 c = 24 by rw [hF]; decide), if_neg (show ¬ tI T 2 c = 25 by rw [hF]; decide), if_neg (show ¬ tI T 2 c = 26 by rw [hF]; decide), if_neg (show ¬ tI T 2 c = 27 by rw [hF]; decide), if_neg (show ¬ tI T 2 c = 28 by rw [hF]; decide), if_neg (show ¬ tI T 2 c = 29 by rw [hF]; decide), if_neg (show ¬ tI T 2 c = 30 by rw [hF]; decide), if_neg (show ¬ tI T 2 c = 31 by rw [hF]; decide), if_pos hF, if_neg (show ¬ nI 12 = 0 by decide), if_neg (show ¬ nI 12 = 1 by decide), if_neg (show ¬ nI 12 = 2 by decide), if_neg (show ¬ nI 12 = 3 by decide), if_neg (show ¬ nI 12 = 4 by decide), if_neg (show ¬ nI 12 = 5 by decide), if_neg (show ¬ nI 12 = 6 by decide), if_neg (show ¬ nI 12 = 7 by decide), if_neg (show ¬ nI 12 = 8 by decide), if_neg (show ¬ nI 12 = 9 by decide), if_neg (show ¬ nI 12 = 10 by decide), if_neg (show ¬ nI 12 = 11 by decide), o4, o_bs]
    obtain ⟨q, C2, g1, g2, g3⟩ := c_32 (z := z) K h ho o hty (HO _ s6) hcd hA hT h80 y0 y1 y2 y3
    rw [g2, o_bs]
    exact ⟨q, C2, g1, rfl, g3⟩
end
theorem c_perf {z : Nat → Nat} {ac : Nat} {r : aH} {T : mS} {ha : Nat → Nat} {nh nr : Nat} (hW : WT T nh) (hB : WB T nh) (hY : WY T nh nr) (HO : ∀ x, x < nh → hOk ac T r ha x) : ∀ n, 1 ≤ n → n ≤ 82 → ∀ N M, N ≤ nh → N ≤ M → CK ac r T ha N nr (81 - n) (sp T n) (fX5_perform z M) := by
  intro n
  induction n with
  | zero => intro h; omega
  | succ n ih =>
    intro _ h82 N M hN hM c as R C d hc hcd hT hR hn hm h1000 hz hrc hV hA
    have hc' : c < nh := by omega
    obtain ⟨M, rfl⟩ : ∃ e, M = e + 1 := ⟨M - 1, by omega⟩
    obtain ⟨q, e, a1, a2, a3, a4⟩ := ps_sp hW hB hY (n + 1) c as R hc' hT hR hn (by omega) (by omega)
    have hpp := (pp_sp hW hB (n + 1) c as R hc' q e).2
    have hbd : R.1 ≤ 80 → BQ (n + 1) q := fun h => (pb_sp T (n + 1)).1 c as R h q e
    have hC : rc (R.1 + 1, R.2) (cI C 5 (nI (R.1 + 1))) := ⟨by simp [cI, va_up], by simp only [cI]; rw [up_ne _ _ (by decide)]; exact hrc.2.1, hrc.2.2.1, hrc.2.2.2.1, by simp only [cI]; rw [up_ne _ _ (by decide)]; exact hrc.2.2.2.2⟩
    have hx : zpt C (cI C 5 (nI (R.1 + 1))) := zpt.I (by decide)
    have key : CG ac r d C (sp T (n + 1) c as R) (fX5_perform z (M + 1) (ac + 9) (some (ha c)) (nI d) (co ac C r)) := by
      refine cg_tr (hx _) ?_
      rw [fX5_perform]
      simp only [o_bs, q_st, w_st, hrc.1, nI_1]
      have e5 : (cI C 5 (nI (R.1 + 1))).1 5 = nI (R.1 + 1) := by simp [cI, va_up]
      generalize cI C 5 (nI (R.1 + 1)) = C1 at hC hx e5 ⊢
      have hV1 := hV.z hx
      have hA1 := hA.k (hx _) (Nat.le_refl _)
      unfold sp
      rw [e5]
      have hgt : ((80 : Int32) < nI (R.1 + 1)) ↔ 80 < R.1 + 1 := nI_ltI (a := 80) (b := R.1 + 1) (by decide) (by omega)
      by_cases h80 : 80 < R.1 + 1
      · rw [if_pos h80, if_pos (hgt.mpr h80)]
        exact go_bad hC hz hV1 (by decide)
      · rw [if_neg h80, if_neg (fun e => h80 (hgt.mp e)), if_pos (show nI d ≤ 60 from nI_le (a := d) (b := 60) (by omega) (by decide))]
        obtain ⟨ho, ty, hty, ⟨j, hj, hF, hcell⟩ | ⟨j, pa, hx2, hy2, hj, o⟩⟩ := HO c hc'
        · have h20 : ¬ 20 ≤ tI T 2 c := by rw [hF]; exact nI_ge (a := j) (b := 20) (by omega) (by decide)
          have hP : YP T nr c := by
            rcases hY c hc' with hp | ho2
            · exact hp
            · exfalso
              apply h20
              rcases ho2 with ⟨y, -⟩ | ⟨y, -⟩ | ⟨y, -⟩ | ⟨y, -⟩ | ⟨y, -⟩ | ⟨y, -⟩ | ⟨y, -⟩ | ⟨y, -⟩ | ⟨y, -⟩ | ⟨y, -⟩ | ⟨y, -⟩ | ⟨y, -⟩ | ⟨y, -⟩ <;> rw [y] <;> decide
          rw [if_neg h20, p_cl hcell ho, o_bs, if_neg (by decide), if_pos rfl]
          simp only [o_bs, q_fr, r_fr ac C1 r (show d < 62 by omega), o4]
          obtain ⟨p, C2, g1, g2, g3⟩ := c_plain (z := z) (ac := ac) (r := r) (d := d) hP ho hty hcell (fun e => (hB c hc' e).2) (by omega) hC hz hR hV1 hA1 hT
          rw [g2, o_bs]
          exact ⟨p, C2, g1, rfl, g3⟩
        · have hF := o.1
          have h20 : 20 ≤ tI T 2 c := by rw [hF]; exact nI_le (a := 20) (b := 20 + j) (by omega) (by omega)
          have hO : YO T nr c := by
            rcases hY c hc' with hp | ho2
            · exfalso
              revert h20
              rcases hp with ⟨y, -⟩ | ⟨y, -⟩ | ⟨y, -⟩ | ⟨y, -⟩ | ⟨y, -⟩ | ⟨y, -⟩ | ⟨y, -⟩ | ⟨y, -⟩ | ⟨y, -⟩ | ⟨y, -⟩
              · rw [y]; decide
              · rw [y]; decide
              · rcases y with y | y | y | y | y <;> rw [y] <;> decide
              · rw [y]; decide
              · rw [y]; decide
              · rw [y]; decide
              · rw [y]; decide
              · rw [y]; decide
              · rw [y]; decide
              · rw [y]; decide
            · exact ho2
          have hcl : clO (co ac C1 r) (ha c) = some 1 := by
            obtain ⟨o1, o2, ⟨hk, hn, o5, o6⟩, o8, s6, -, -⟩ := o
            exact p_cl o5 ho
          rw [if_pos h20, hcl, o_bs, if_pos rfl, o_bs, if_pos rfl, o4, o_bs]
          obtain ⟨p, C2, g1, g2, g3⟩ := c_other (z := z) (nh := nh) hj (ih (by omega) (by omega) c M (by omega) (by omega)) (⟨hR, hn, by show 81 - n ≤ R.1 + 1; omega, by show R.1 + 1 ≤ 1000; omega, hz, hC, hV1⟩ : IN nr (81 - n) d (R.1 + 1, R.2) C1) hW hO hc' HO ho hty o hcd hA1 hT (by show R.1 + 1 ≤ 80; omega)
          rw [g2, o_bs]
          exact ⟨p, C2, g1, rfl, g3⟩
    obtain ⟨p, C2, g1, g2, g3⟩ := key
    have : p = q := by rw [g1] at e; exact Option.some.inj e
    subst this
    refine ⟨p, C2, g1, g2, g3, a1, a2, hpp, fun h => ?_, fun h0 => ⟨a4 h0, fun h => bd_z (hbd h) h0⟩⟩
    rcases hbd h with y | y
    · omega
    · have := y.2
      omega

