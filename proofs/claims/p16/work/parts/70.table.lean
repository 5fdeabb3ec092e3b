/-! A TABLE WITH ONE HANDLE MORE. My own rows. -/
/-- the first nh handles are the same -/
def tE (T T2 : mS) (nh : Nat) : Prop := ∀ c, c < nh → (∀ k, 2 ≤ k → k ≤ 11 → k ≠ 4 → tI T2 k c = tI T k c) ∧ T2.2.2.2 12 c = T.2.2.2 12 c ∧ ∀ j, j < 6 → tI T2 4 (6 * c + j) = tI T 4 (6 * c + j)
/-- a handle of the table, as WT has it -/
def WTc (T : mS) (nh c : Nat) : Prop := tI T 3 c = nI (tN T 3 c) ∧ tN T 3 c ≤ 6 ∧
  ((∃ j : Nat, j < 14 ∧ tI T 2 c = nI j) ∨
   (tP T nh 6 c ∧ ((tI T 2 c = 20 ∧ tI T 9 c = nI (tN T 9 c) ∧ tN T 9 c ≤ tN T 3 c ∧ tN T 3 (tN T 6 c) = tN T 3 c + 1) ∨
    (tI T 2 c = 21 ∧ tI T 9 c = nI (tN T 9 c) ∧ tN T 9 c < tN T 3 c ∧ tN T 3 (tN T 6 c) + 1 = tN T 3 c) ∨
    (tI T 2 c = 22 ∧ tI T 9 c = nI (tN T 9 c) ∧ tN T 9 c < 1000000 ∧ tN T 3 (tN T 6 c) = tN T 3 c ∧ ∀ k, k < tN T 3 c → dgt (tI T 9 c) (tN T 3 c) k < tN T 3 c) ∨
    (tI T 2 c = 23 ∧ tP T nh 7 c ∧ tN T 3 (tN T 7 c) ≤ tN T 3 c ∧ tN T 3 (tN T 6 c) = tN T 3 c + (if tI T 5 (tN T 7 c) = 4 then 0 else 1)) ∨
    (tI T 2 c = 24 ∧ tP T nh 7 c ∧ tI T 9 c = nI (tN T 9 c) ∧ tN T 9 c < tN T 3 c ∧ tN T 3 (tN T 7 c) = 1 ∧ tN T 3 (tN T 6 c) = tN T 3 c) ∨
    (tI T 2 c = 25 ∧ tP T nh 7 c ∧ tN T 3 (tN T 6 c) = tN T 3 c ∧ tN T 3 (tN T 7 c) = (if tI T 5 (tN T 6 c) = 4 then 0 else 1)) ∨
    (tI T 2 c = 26 ∧ tP T nh 7 c ∧ tP T nh 8 c ∧ tN T 3 (tN T 6 c) ≤ tN T 3 c ∧ tN T 3 (tN T 7 c) = tN T 3 c ∧ tN T 3 (tN T 8 c) = tN T 3 c) ∨
    (tI T 2 c = 27 ∧ tP T nh 7 c ∧ tN T 3 (tN T 6 c) = tN T 3 c ∧ tN T 3 (tN T 7 c) = tN T 3 c + 1) ∨
    (tI T 2 c = 28 ∧ tP T nh 7 c ∧ tN T 3 (tN T 6 c) = tN T 3 c ∧ tN T 3 (tN T 7 c) = tN T 3 c + 1) ∨
    (tI T 2 c = 29 ∧ tP T nh 7 c ∧ tP T nh 8 c ∧ tN T 3 c = 0 ∧ tN T 3 (tN T 6 c) = 0 ∧ tN T 3 (tN T 7 c) = 2 ∧ tN T 3 (tN T 8 c) = 0) ∨
    (tI T 2 c = 30 ∧ tI T 9 c = nI (tN T 9 c) ∧ 1 ≤ tN T 3 c ∧ tN T 9 c ≤ 6 ∧ tN T 3 (tN T 6 c) + 1 = tN T 3 c + tN T 9 c) ∨
    (tI T 2 c = 31 ∧ tI T 9 c = nI (tN T 9 c) ∧ tN T 9 c ≤ tN T 3 c ∧ tN T 9 c ≤ 5 ∧ tN T 3 (tN T 6 c) + tN T 9 c = tN T 3 c + 1) ∨
    (tI T 2 c = 32 ∧ tN T 3 (tN T 6 c) = tN T 3 c))))
theorem wt_iff (T : mS) (nh : Nat) : WT T nh ↔ nh ≤ 60 ∧ ∀ c, c < nh → WTc T nh c := Iff.rfl
theorem tE.n {T T2 : mS} {nh c : Nat} (E : tE T T2 nh) (hc : c < nh) (k : Nat) (h1 : 2 ≤ k) (h2 : k ≤ 11) (h3 : k ≠ 4) : tN T2 k c = tN T k c := congrArg Int32.toNatClampNeg ((E c hc).1 k h1 h2 h3)
theorem tE.ty {T T2 : mS} {nh c : Nat} (E : tE T T2 nh) (hc : c < nh) (h6 : tN T 3 c ≤ 6) : tys T2 c = tys T c := by
  obtain ⟨e, -, e4⟩ := E c hc
  unfold tys
  rw [E.n hc 3 (by decide) (by decide) (by decide)]
  apply List.map_congr_left
  intro k hk
  exact e4 k (by have := List.mem_range.mp hk; omega)
theorem tP.up {T : mS} {nh k c : Nat} (h : tP T nh k c) : tP T (nh + 1) k c := ⟨h.1, Nat.lt_succ_of_lt h.2⟩
theorem wtc_ext {T T2 : mS} {nh c : Nat} (E : tE T T2 nh) (hW : WT T nh) (hc : c < nh) : WTc T2 (nh + 1) c := by
  obtain ⟨e, e12, e4⟩ := E c hc
  have e2 := e 2 (by decide) (by decide) (by decide)
  have e3 := e 3 (by decide) (by decide) (by decide)
  have e5 := e 5 (by decide) (by decide) (by decide)
  have e6 := e 6 (by decide) (by decide) (by decide)
  have e7 := e 7 (by decide) (by decide) (by decide)
  have e8 := e 8 (by decide) (by decide) (by decide)
  have e9 := e 9 (by decide) (by decide) (by decide)
  have e10 := e 10 (by decide) (by decide) (by decide)
  have e11 := e 11 (by decide) (by decide) (by decide)
  have n3 := E.n hc 3 (by decide) (by decide) (by decide)
  have n6 := E.n hc 6 (by decide) (by decide) (by decide)
  have n7 := E.n hc 7 (by decide) (by decide) (by decide)
  have n8 := E.n hc 8 (by decide) (by decide) (by decide)
  have n9 := E.n hc 9 (by decide) (by decide) (by decide)
  obtain ⟨m1, m2, h⟩ := hW.2 c hc
  unfold WTc
  refine ⟨by rw [e3, n3]; exact m1, by rw [n3]; exact m2, ?_⟩
  rcases h with ⟨j, hj, h⟩ | ⟨h6, h⟩
  · exact Or.inl ⟨j, hj, by rw [e2]; exact h⟩
  refine Or.inr ⟨⟨by rw [e6, n6]; exact h6.1, by rw [n6]; exact Nat.lt_succ_of_lt h6.2⟩, ?_⟩
  have s3 := E.n h6.2 3 (by decide) (by decide) (by decide)
  have s5 := (E _ h6.2).1 5 (by decide) (by decide) (by decide)
  rcases h with ⟨y, w⟩ | ⟨y, w⟩ | ⟨y, w⟩ | ⟨y, w⟩ | ⟨y, w⟩ | ⟨y, w⟩ | ⟨y, w⟩ | ⟨y, w⟩ | ⟨y, w⟩ | ⟨y, w⟩ | ⟨y, w⟩ | ⟨y, w⟩ | ⟨y, w⟩
  · refine Or.inl (⟨by rw [e2]; exact y, ?_⟩)
    simp only [e2, e3, e5, e6, e7, e8, e9, n3, n6, n7, n8, n9, s3, s5]
    exact w
  · refine Or.inr (Or.inl (⟨by rw [e2]; exact y, ?_⟩))
    simp only [e2, e3, e5, e6, e7, e8, e9, n3, n6, n7, n8, n9, s3, s5]
    exact w
  · refine Or.inr (Or.inr (Or.inl (⟨by rw [e2]; exact y, ?_⟩)))
    simp only [e2, e3, e5, e6, e7, e8, e9, n3, n6, n7, n8, n9, s3, s5]
    exact w
  · obtain ⟨h7, w⟩ := w
    have x3 := E.n h7.2 3 (by decide) (by decide) (by decide)
    have x5 := (E _ h7.2).1 5 (by decide) (by decide) (by decide)
    refine Or.inr (Or.inr (Or.inr (Or.inl (⟨by rw [e2]; exact y, ⟨by rw [e7, n7]; exact h7.1, by rw [n7]; exact Nat.lt_succ_of_lt h7.2⟩, ?_⟩))))
    simp only [e2, e3, e5, e6, e7, e8, e9, n3, n6, n7, n8, n9, s3, s5, x3, x5]
    exact w
  · obtain ⟨h7, w⟩ := w
    have x3 := E.n h7.2 3 (by decide) (by decide) (by decide)
    have x5 := (E _ h7.2).1 5 (by decide) (by decide) (by decide)
    refine Or.inr (Or.inr (Or.inr (Or.inr (Or.inl (⟨by rw [e2]; exact y, ⟨by rw [e7, n7]; exact h7.1, by rw [n7]; exact Nat.lt_succ_of_lt h7.2⟩, ?_⟩)))))
    simp only [e2, e3, e5, e6, e7, e8, e9, n3, n6, n7, n8, n9, s3, s5, x3, x5]
    exact w
  · obtain ⟨h7, w⟩ := w
    have x3 := E.n h7.2 3 (by decide) (by decide) (by decide)
    have x5 := (E _ h7.2).1 5 (by decide) (by decide) (by decide)
    refine Or.inr (Or.inr (Or.inr (Or.inr (Or.inr (Or.inl (⟨by rw [e2]; exact y, ⟨by rw [e7, n7]; exact h7.1, by rw [n7]; exact Nat.lt_succ_of_lt h7.2⟩, ?_⟩))))))
    simp only [e2, e3, e5, e6, e7, e8, e9, n3, n6, n7, n8, n9, s3, s5, x3, x5]
    exact w
  · obtain ⟨h7, w⟩ := w
    have x3 := E.n h7.2 3 (by decide) (by decide) (by decide)
    have x5 := (E _ h7.2).1 5 (by decide) (by decide) (by decide)
    obtain ⟨h8, w⟩ := w
    have y3 := E.n h8.2 3 (by decide) (by decide) (by decide)
    refine Or.inr (Or.inr (Or.inr (Or.inr (Or.inr (Or.inr (Or.inl (⟨by rw [e2]; exact y, ⟨by rw [e7, n7]; exact h7.1, by rw [n7]; exact Nat.lt_succ_of_lt h7.2⟩, ⟨by rw [e8, n8]; exact h8.1, by rw [n8]; exact Nat.lt_succ_of_lt h8.2⟩, ?_⟩)))))))
    simp only [e2, e3, e5, e6, e7, e8, e9, n3, n6, n7, n8, n9, s3, s5, x3, x5, y3]
    exact w
  · obtain ⟨h7, w⟩ := w
    have x3 := E.n h7.2 3 (by decide) (by decide) (by decide)
    have x5 := (E _ h7.2).1 5 (by decide) (by decide) (by decide)
    refine Or.inr (Or.inr (Or.inr (Or.inr (Or.inr (Or.inr (Or.inr (Or.inl (⟨by rw [e2]; exact y, ⟨by rw [e7, n7]; exact h7.1, by rw [n7]; exact Nat.lt_succ_of_lt h7.2⟩, ?_⟩))))))))
    simp only [e2, e3, e5, e6, e7, e8, e9, n3, n6, n7, n8, n9, s3, s5, x3, x5]
    exact w
  · obtain ⟨h7, w⟩ := w
    have x3 := E.n h7.2 3 (by decide) (by decide) (by decide)
    have x5 := (E _ h7.2).1 5 (by decide) (by decide) (by decide)
    refine Or.inr (Or.inr (Or.inr (Or.inr (Or.inr (Or.inr (Or.inr (Or.inr (Or.inl (⟨by rw [e2]; exact y, ⟨by rw [e7, n7]; exact h7.1, by rw [n7]; exact Nat.lt_succ_of_lt h7.2⟩, ?_⟩)))))))))
    simp only [e2, e3, e5, e6, e7, e8, e9, n3, n6, n7, n8, n9, s3, s5, x3, x5]
    exact w
  · obtain ⟨h7, w⟩ := w
    have x3 := E.n h7.2 3 (by decide) (by decide) (by decide)
    have x5 := (E _ h7.2).1 5 (by decide) (by decide) (by decide)
    obtain ⟨h8, w⟩ := w
    have y3 := E.n h8.2 3 (by decide) (by decide) (by decide)
    refine Or.inr (Or.inr (Or.inr (Or.inr (Or.inr (Or.inr (Or.inr (Or.inr (Or.inr (Or.inl (⟨by rw [e2]; exact y, ⟨by rw [e7, n7]; exact h7.1, by rw [n7]; exact Nat.lt_succ_of_lt h7.2⟩, ⟨by rw [e8, n8]; exact h8.1, by rw [n8]; exact Nat.lt_succ_of_lt h8.2⟩, ?_⟩))))))))))
    simp only [e2, e3, e5, e6, e7, e8, e9, n3, n6, n7, n8, n9, s3, s5, x3, x5, y3]
    exact w
  · refine Or.inr (Or.inr (Or.inr (Or.inr (Or.inr (Or.inr (Or.inr (Or.inr (Or.inr (Or.inr (Or.inl (⟨by rw [e2]; exact y, ?_⟩)))))))))))
    simp only [e2, e3, e5, e6, e7, e8, e9, n3, n6, n7, n8, n9, s3, s5]
    exact w
  · refine Or.inr (Or.inr (Or.inr (Or.inr (Or.inr (Or.inr (Or.inr (Or.inr (Or.inr (Or.inr (Or.inr (Or.inl (⟨by rw [e2]; exact y, ?_⟩))))))))))))
    simp only [e2, e3, e5, e6, e7, e8, e9, n3, n6, n7, n8, n9, s3, s5]
    exact w
  · refine Or.inr (Or.inr (Or.inr (Or.inr (Or.inr (Or.inr (Or.inr (Or.inr (Or.inr (Or.inr (Or.inr (Or.inr ((⟨by rw [e2]; exact y, ?_⟩)))))))))))))
    simp only [e2, e3, e5, e6, e7, e8, e9, n3, n6, n7, n8, n9, s3, s5]
    exact w
theorem yp_ext {T T2 : mS} {nh nr c : Nat} (E : tE T T2 nh) (hW : WT T nh) (hc : c < nh) (h : YP T nr c) : YP T2 nr c := by
  obtain ⟨e, e12, e4⟩ := E c hc
  have e2 := e 2 (by decide) (by decide) (by decide)
  have e3 := e 3 (by decide) (by decide) (by decide)
  have e5 := e 5 (by decide) (by decide) (by decide)
  have e6 := e 6 (by decide) (by decide) (by decide)
  have e7 := e 7 (by decide) (by decide) (by decide)
  have e8 := e 8 (by decide) (by decide) (by decide)
  have e9 := e 9 (by decide) (by decide) (by decide)
  have e10 := e 10 (by decide) (by decide) (by decide)
  have e11 := e 11 (by decide) (by decide) (by decide)
  have n3 := E.n hc 3 (by decide) (by decide) (by decide)
  have n6 := E.n hc 6 (by decide) (by decide) (by decide)
  have n7 := E.n hc 7 (by decide) (by decide) (by decide)
  have n8 := E.n hc 8 (by decide) (by decide) (by decide)
  have n9 := E.n hc 9 (by decide) (by decide) (by decide)
  have t0 := E.ty hc (hW.m hc).2
  unfold YP at h ⊢
  simp only [e2, e5, e9, e10, t0]
  exact h
theorem yo_ext {T T2 : mS} {nh nr c : Nat} (E : tE T T2 nh) (hW : WT T nh) (hc : c < nh) (h : YO T nr c) : YO T2 nr c := by
  obtain ⟨e, e12, e4⟩ := E c hc
  have e2 := e 2 (by decide) (by decide) (by decide)
  have e3 := e 3 (by decide) (by decide) (by decide)
  have e5 := e 5 (by decide) (by decide) (by decide)
  have e6 := e 6 (by decide) (by decide) (by decide)
  have e7 := e 7 (by decide) (by decide) (by decide)
  have e8 := e 8 (by decide) (by decide) (by decide)
  have e9 := e 9 (by decide) (by decide) (by decide)
  have e10 := e 10 (by decide) (by decide) (by decide)
  have e11 := e 11 (by decide) (by decide) (by decide)
  have n3 := E.n hc 3 (by decide) (by decide) (by decide)
  have n6 := E.n hc 6 (by decide) (by decide) (by decide)
  have n7 := E.n hc 7 (by decide) (by decide) (by decide)
  have n8 := E.n hc 8 (by decide) (by decide) (by decide)
  have n9 := E.n hc 9 (by decide) (by decide) (by decide)
  have t0 := E.ty hc (hW.m hc).2
  have hY := h
  unfold YO at h ⊢
  rcases h with ⟨y, w⟩ | ⟨y, w⟩ | ⟨y, w⟩ | ⟨y, w⟩ | ⟨y, w⟩ | ⟨y, w⟩ | ⟨y, w⟩ | ⟨y, w⟩ | ⟨y, w⟩ | ⟨y, w⟩ | ⟨y, w⟩ | ⟨y, w⟩ | ⟨y, w⟩
  · have ww := wt_20 hW hc y
    have h6 := ww.1.2
    have t6 := E.ty h6 (hW.m h6).2
    have s3 := E.n h6 3 (by decide) (by decide) (by decide)
    have s5 := (E _ h6).1 5 (by decide) (by decide) (by decide)
    refine Or.inl (⟨by rw [e2]; exact y, ?_⟩)
    simp only [e2, e3, e5, e6, e7, e8, e9, e10, e11, e12, n3, n6, n7, n8, n9, t0, t6, s3, s5]
    exact w
  · have ww := wt_21 hW hc y
    have h6 := ww.1.2
    have t6 := E.ty h6 (hW.m h6).2
    have s3 := E.n h6 3 (by decide) (by decide) (by decide)
    have s5 := (E _ h6).1 5 (by decide) (by decide) (by decide)
    refine Or.inr (Or.inl (⟨by rw [e2]; exact y, ?_⟩))
    simp only [e2, e3, e5, e6, e7, e8, e9, e10, e11, e12, n3, n6, n7, n8, n9, t0, t6, s3, s5]
    exact w
  · have ww := wt_22 hW hc y
    have h6 := ww.1.2
    have t6 := E.ty h6 (hW.m h6).2
    have s3 := E.n h6 3 (by decide) (by decide) (by decide)
    have s5 := (E _ h6).1 5 (by decide) (by decide) (by decide)
    refine Or.inr (Or.inr (Or.inl (⟨by rw [e2]; exact y, ?_⟩)))
    simp only [e2, e3, e5, e6, e7, e8, e9, e10, e11, e12, n3, n6, n7, n8, n9, t0, t6, s3, s5]
    exact w
  · have ww := wt_23 hW hc y
    have h6 := ww.1.2
    have t6 := E.ty h6 (hW.m h6).2
    have s3 := E.n h6 3 (by decide) (by decide) (by decide)
    have s5 := (E _ h6).1 5 (by decide) (by decide) (by decide)
    have h7 := ww.2.1.2
    have t7 := E.ty h7 (hW.m h7).2
    have x3 := E.n h7 3 (by decide) (by decide) (by decide)
    have x5 := (E _ h7).1 5 (by decide) (by decide) (by decide)
    refine Or.inr (Or.inr (Or.inr (Or.inl (⟨by rw [e2]; exact y, ?_⟩))))
    simp only [e2, e3, e5, e6, e7, e8, e9, e10, e11, e12, n3, n6, n7, n8, n9, t0, t6, s3, s5, t7, x3, x5]
    exact w
  · have ww := wt_24 hW hc y
    have h6 := ww.1.2
    have t6 := E.ty h6 (hW.m h6).2
    have s3 := E.n h6 3 (by decide) (by decide) (by decide)
    have s5 := (E _ h6).1 5 (by decide) (by decide) (by decide)
    have h7 := ww.2.1.2
    have t7 := E.ty h7 (hW.m h7).2
    have x3 := E.n h7 3 (by decide) (by decide) (by decide)
    have x5 := (E _ h7).1 5 (by decide) (by decide) (by decide)
    refine Or.inr (Or.inr (Or.inr (Or.inr (Or.inl (⟨by rw [e2]; exact y, ?_⟩)))))
    simp only [e2, e3, e5, e6, e7, e8, e9, e10, e11, e12, n3, n6, n7, n8, n9, t0, t6, s3, s5, t7, x3, x5]
    exact w
  · have ww := wt_25 hW hc y
    have h6 := ww.1.2
    have t6 := E.ty h6 (hW.m h6).2
    have s3 := E.n h6 3 (by decide) (by decide) (by decide)
    have s5 := (E _ h6).1 5 (by decide) (by decide) (by decide)
    have h7 := ww.2.1.2
    have t7 := E.ty h7 (hW.m h7).2
    have x3 := E.n h7 3 (by decide) (by decide) (by decide)
    have x5 := (E _ h7).1 5 (by decide) (by decide) (by decide)
    refine Or.inr (Or.inr (Or.inr (Or.inr (Or.inr (Or.inl (⟨by rw [e2]; exact y, ?_⟩))))))
    simp only [e2, e3, e5, e6, e7, e8, e9, e10, e11, e12, n3, n6, n7, n8, n9, t0, t6, s3, s5, t7, x3, x5]
    exact w
  · have ww := wt_26 hW hc y
    have h6 := ww.1.2
    have t6 := E.ty h6 (hW.m h6).2
    have s3 := E.n h6 3 (by decide) (by decide) (by decide)
    have s5 := (E _ h6).1 5 (by decide) (by decide) (by decide)
    have h7 := ww.2.1.2
    have t7 := E.ty h7 (hW.m h7).2
    have x3 := E.n h7 3 (by decide) (by decide) (by decide)
    have x5 := (E _ h7).1 5 (by decide) (by decide) (by decide)
    have h8 := ww.2.2.1.2
    have t8 := E.ty h8 (hW.m h8).2
    have z5 := (E _ h8).1 5 (by decide) (by decide) (by decide)
    refine Or.inr (Or.inr (Or.inr (Or.inr (Or.inr (Or.inr (Or.inl (⟨by rw [e2]; exact y, ?_⟩)))))))
    simp only [e2, e3, e5, e6, e7, e8, e9, e10, e11, e12, n3, n6, n7, n8, n9, t0, t6, s3, s5, t7, x3, x5, t8, z5]
    exact w
  · have ww := wt_27 hW hc y
    have h6 := ww.1.2
    have t6 := E.ty h6 (hW.m h6).2
    have s3 := E.n h6 3 (by decide) (by decide) (by decide)
    have s5 := (E _ h6).1 5 (by decide) (by decide) (by decide)
    have h7 := ww.2.1.2
    have t7 := E.ty h7 (hW.m h7).2
    have x3 := E.n h7 3 (by decide) (by decide) (by decide)
    have x5 := (E _ h7).1 5 (by decide) (by decide) (by decide)
    refine Or.inr (Or.inr (Or.inr (Or.inr (Or.inr (Or.inr (Or.inr (Or.inl (⟨by rw [e2]; exact y, ?_⟩))))))))
    simp only [e2, e3, e5, e6, e7, e8, e9, e10, e11, e12, n3, n6, n7, n8, n9, t0, t6, s3, s5, t7, x3, x5]
    exact w
  · have ww := wt_28 hW hc y
    have h6 := ww.1.2
    have t6 := E.ty h6 (hW.m h6).2
    have s3 := E.n h6 3 (by decide) (by decide) (by decide)
    have s5 := (E _ h6).1 5 (by decide) (by decide) (by decide)
    have h7 := ww.2.1.2
    have t7 := E.ty h7 (hW.m h7).2
    have x3 := E.n h7 3 (by decide) (by decide) (by decide)
    have x5 := (E _ h7).1 5 (by decide) (by decide) (by decide)
    refine Or.inr (Or.inr (Or.inr (Or.inr (Or.inr (Or.inr (Or.inr (Or.inr (Or.inl (⟨by rw [e2]; exact y, ?_⟩)))))))))
    simp only [e2, e3, e5, e6, e7, e8, e9, e10, e11, e12, n3, n6, n7, n8, n9, t0, t6, s3, s5, t7, x3, x5]
    exact w
  · have ww := wt_29 hW hc y
    have h6 := ww.1.2
    have t6 := E.ty h6 (hW.m h6).2
    have s3 := E.n h6 3 (by decide) (by decide) (by decide)
    have s5 := (E _ h6).1 5 (by decide) (by decide) (by decide)
    have h7 := ww.2.1.2
    have t7 := E.ty h7 (hW.m h7).2
    have x3 := E.n h7 3 (by decide) (by decide) (by decide)
    have x5 := (E _ h7).1 5 (by decide) (by decide) (by decide)
    have h8 := ww.2.2.1.2
    have t8 := E.ty h8 (hW.m h8).2
    have z5 := (E _ h8).1 5 (by decide) (by decide) (by decide)
    refine Or.inr (Or.inr (Or.inr (Or.inr (Or.inr (Or.inr (Or.inr (Or.inr (Or.inr (Or.inl (⟨by rw [e2]; exact y, ?_⟩))))))))))
    simp only [e2, e3, e5, e6, e7, e8, e9, e10, e11, e12, n3, n6, n7, n8, n9, t0, t6, s3, s5, t7, x3, x5, t8, z5]
    exact w
  · have ww := wt_30 hW hc y
    have h6 := ww.1.2
    have t6 := E.ty h6 (hW.m h6).2
    have s3 := E.n h6 3 (by decide) (by decide) (by decide)
    have s5 := (E _ h6).1 5 (by decide) (by decide) (by decide)
    refine Or.inr (Or.inr (Or.inr (Or.inr (Or.inr (Or.inr (Or.inr (Or.inr (Or.inr (Or.inr (Or.inl (⟨by rw [e2]; exact y, ?_⟩)))))))))))
    simp only [e2, e3, e5, e6, e7, e8, e9, e10, e11, e12, n3, n6, n7, n8, n9, t0, t6, s3, s5]
    exact w
  · have ww := wt_31 hW hc y
    have h6 := ww.1.2
    have t6 := E.ty h6 (hW.m h6).2
    have s3 := E.n h6 3 (by decide) (by decide) (by decide)
    have s5 := (E _ h6).1 5 (by decide) (by decide) (by decide)
    refine Or.inr (Or.inr (Or.inr (Or.inr (Or.inr (Or.inr (Or.inr (Or.inr (Or.inr (Or.inr (Or.inr (Or.inl (⟨by rw [e2]; exact y, ?_⟩))))))))))))
    simp only [e2, e3, e5, e6, e7, e8, e9, e10, e11, e12, n3, n6, n7, n8, n9, t0, t6, s3, s5]
    exact w
  · have ww := wt_32 hW hc y
    have h6 := ww.1.2
    have t6 := E.ty h6 (hW.m h6).2
    have s3 := E.n h6 3 (by decide) (by decide) (by decide)
    have s5 := (E _ h6).1 5 (by decide) (by decide) (by decide)
    obtain ⟨w1, w2, w3, w4⟩ := w
    have m6 := (hW.m hc).2
    refine Or.inr (Or.inr (Or.inr (Or.inr (Or.inr (Or.inr (Or.inr (Or.inr (Or.inr (Or.inr (Or.inr (Or.inr ((⟨by rw [e2]; exact y, ?_⟩)))))))))))))
    simp only [e2, e3, e5, e6, e7, e8, e9, e10, e11, e12, n3, n6, n7, n8, n9, t0, t6, s3, s5]
    refine ⟨w1, w2, w3, fun k hk => ?_⟩
    rw [e4 k (by omega), (E _ h6).2.2 k (by omega)]
    exact w4 k hk
theorem MI.new {T S S2 : mS} {nh ns : Nat} {vs : List aVl} {R : aRS} {f : Nat → Bool} (M : MI T S nh ns vs R) (q : eqB f S S2) (hf : ∀ k, (12 < k ∧ k < 27) ∨ k = 32 → f k = false) (h60 : nh < 60) (E : tE T S2 nh) (hn : S2.1 1 = nI (nh + 1)) (nW : WTc S2 (nh + 1) nh) (nB : tI S2 2 nh = 12 → 0 ≤ 100 + tI S2 10 nh ∧ 100 + tI S2 10 nh ≠ 0) (nY : YP S2 R.2.1 nh ∨ YO S2 R.2.1 nh) (nA : isT (tI S2 5 nh) ∧ ∀ k, k < tN S2 3 nh → (tI S2 4 (6 * nh + k) = 0 ∨ tI S2 4 (6 * nh + k) = 1 ∨ tI S2 4 (6 * nh + k) = 2 ∨ tI S2 4 (6 * nh + k) = 3)) : MI S2 S2 (nh + 1) ns vs R := by
  obtain ⟨⟨m1, m2⟩, ⟨m3, m4, m5, m6⟩, ⟨m7, m8⟩, ⟨m9, m10⟩, m11, m12, m13⟩ := id M
  have cs : ∀ c, c < nh + 1 → c < nh ∨ c = nh := fun c hc => by omega
  refine ⟨⟨fun k _ _ => ⟨rfl, rfl⟩, hn⟩, ⟨(wt_iff _ _).mpr ⟨h60, fun c hc => ?_⟩, fun c hc => ?_, fun c hc => ?_, fun c hc => ?_⟩, ⟨m7, m8.eq q (hf 32 (by decide)) (hf 13 (by decide)) (hf 14 (by decide)) (hf 15 (by decide)) (hf 25 (by decide))⟩, ⟨m9.eq q (hf 20 (by decide)) (hf 21 (by decide)) (hf 22 (by decide)), m10⟩, m11, by rw [← (q 16 (hf 16 (by decide))).1]; exact m12, fun s hs => ?_⟩
  · rcases cs c hc with h | h
    · exact wtc_ext E m3 h
    · subst h; exact nW
  · rcases cs c hc with h | h
    · obtain ⟨e, -, -⟩ := E c h
      rw [e 2 (by decide) (by decide) (by decide), e 10 (by decide) (by decide) (by decide)]
      exact m4 c h
    · subst h; exact nB
  · rcases cs c hc with h | h
    · rcases m5 c h with y | y
      · exact Or.inl (yp_ext E m3 h y)
      · exact Or.inr (yo_ext E m3 h y)
    · subst h; exact nY
  · rcases cs c hc with h | h
    · obtain ⟨e, -, e4⟩ := E c h
      have m := (m3.m h).2
      rw [e 5 (by decide) (by decide) (by decide), E.n h 3 (by decide) (by decide) (by decide)]
      refine ⟨(m6 c h).1, fun k hk => ?_⟩
      rw [e4 k (by omega)]
      exact (m6 c h).2 k hk
    · subst h; exact nA
  · obtain ⟨h, st, w1, w2, w3, w4, w5, w6, w7⟩ := m13 s hs
    have th := E.ty w1 (m3.m w1).2
    have tst := E.ty w2 (m3.m w2).2
    have g5 := (E h w1).1 5 (by decide) (by decide) (by decide)
    have gs5 := (E st w2).1 5 (by decide) (by decide) (by decide)
    refine ⟨h, st, by omega, by omega, by rw [← (q 17 (hf 17 (by decide))).2.2.1]; exact w3, by rw [← (q 18 (hf 18 (by decide))).2.2.1]; exact w4, by rw [tst]; exact w5, by rw [gs5]; exact w6, ?_⟩
    rw [← (q 19 (hf 19 (by decide))).2.2.1]
    rcases w7 with w7 | ⟨l, l1, l2, l3, l4⟩
    · exact Or.inl w7
    · exact Or.inr ⟨l, by omega, l2, by rw [E.ty l1 (m3.m l1).2, th]; exact l3, by rw [(E l l1).1 5 (by decide) (by decide) (by decide), g5]; exact l4⟩
