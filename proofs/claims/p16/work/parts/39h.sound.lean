/-! TYPES: the well typed table, and plain forms. My own rows. -/
def tys (T : mS) (c : Nat) : List Int32 := (List.range (tN T 3 c)).map fun k => tI T 4 (6 * c + k)
theorem tys_len (T : mS) (c : Nat) : (tys T c).length = tN T 3 c := by simp [tys]
def isT (t : Int32) : Prop := t = 0 ∨ t = 1 ∨ t = 2 ∨ t = 3 ∨ t = 4
/-- the types of the table: handle c, with nr rows -/
def YP (T : mS) (nr c : Nat) : Prop :=
  (tI T 2 c = 0 ∧ tys T c = [] ∧ tI T 5 c = tI T 9 c ∧ isT (tI T 9 c) ∧ (tI T 9 c = 3 → ∃ r, r < nr ∧ tI T 10 c = nI r)) ∨
  (tI T 2 c = 1 ∧ tys T c = [tI T 5 c]) ∨
  ((tI T 2 c = 2 ∨ tI T 2 c = 3 ∨ tI T 2 c = 4 ∨ tI T 2 c = 5 ∨ tI T 2 c = 6) ∧ tys T c = [0, 0] ∧ tI T 5 c = 0) ∨
  (tI T 2 c = 7 ∧ tys T c = [1, 1] ∧ tI T 5 c = 1) ∨
  (tI T 2 c = 8 ∧ tys T c = [3, 0] ∧ tI T 5 c = 0) ∨
  (tI T 2 c = 9 ∧ tys T c = [3, 0, 0] ∧ tI T 5 c = 4) ∨
  (tI T 2 c = 10 ∧ tys T c = [3] ∧ tI T 5 c = 0) ∨
  (tI T 2 c = 11 ∧ tys T c = [0] ∧ tI T 5 c = 3) ∨
  (tI T 2 c = 12 ∧ tys T c = []) ∨
  (tI T 2 c = 13 ∧ tys T c = [] ∧ tI T 5 c = 0)
def YO (T : mS) (nr c : Nat) : Prop :=
  (tI T 2 c = 20 ∧ tI T 5 c = tI T 5 (tN T 6 c) ∧ ∃ t, tys T (tN T 6 c) = (tys T c).take (tN T 9 c) ++ t :: (tys T c).drop (tN T 9 c) ∧ VT nr t (tI T 11 c, T.2.2.2 12 c)) ∨
  (tI T 2 c = 21 ∧ tI T 5 c = tI T 5 (tN T 6 c) ∧ tys T (tN T 6 c) = (tys T c).take (tN T 9 c) ++ (tys T c).drop (tN T 9 c + 1)) ∨
  (tI T 2 c = 22 ∧ tI T 5 c = tI T 5 (tN T 6 c) ∧ (∀ k, k < tN T 3 c → dgt (tI T 9 c) (tN T 3 c) k < tN T 3 c) ∧ tys T (tN T 6 c) = (List.range (tN T 3 c)).map fun k => (tys T c).getD (dgt (tI T 9 c) (tN T 3 c) k) 0) ∨
  (tI T 2 c = 23 ∧ tI T 5 c = tI T 5 (tN T 6 c) ∧ tys T (tN T 7 c) = (tys T c).take (tN T 3 (tN T 7 c)) ∧ tys T (tN T 6 c) = (if tI T 5 (tN T 7 c) = 4 then [] else [tI T 5 (tN T 7 c)]) ++ tys T c) ∨
  (tI T 2 c = 24 ∧ tI T 5 c = tI T 5 (tN T 6 c) ∧ tys T (tN T 7 c) = ((tys T c).drop (tN T 9 c)).take 1 ∧ tys T (tN T 6 c) = (tys T c).take (tN T 9 c) ++ tI T 5 (tN T 7 c) :: (tys T c).drop (tN T 9 c + 1)) ∨
  (tI T 2 c = 25 ∧ tI T 5 c = tI T 5 (tN T 7 c) ∧ tys T (tN T 6 c) = tys T c ∧ tys T (tN T 7 c) = (if tI T 5 (tN T 6 c) = 4 then [] else [tI T 5 (tN T 6 c)])) ∨
  (tI T 2 c = 26 ∧ tI T 5 c = tI T 5 (tN T 7 c) ∧ tI T 5 c = tI T 5 (tN T 8 c) ∧ tys T (tN T 6 c) = (tys T c).take (tN T 3 (tN T 6 c)) ∧ tys T (tN T 7 c) = tys T c ∧ tys T (tN T 8 c) = tys T c) ∨
  (tI T 2 c = 27 ∧ tI T 5 c = tI T 5 (tN T 6 c) ∧ tI T 5 c = tI T 5 (tN T 7 c) ∧ tys T (tN T 6 c) = tys T c ∧ tys T (tN T 7 c) = 0 :: tys T c) ∨
  (tI T 2 c = 28 ∧ tI T 5 c = tI T 5 (tN T 6 c) ∧ tys T (tN T 6 c) = tys T c ∧ tys T (tN T 7 c) = 0 :: tys T c) ∨
  (tI T 2 c = 29 ∧ tI T 5 c = tI T 5 (tN T 7 c) ∧ tI T 5 c = tI T 5 (tN T 8 c) ∧ tys T c = [] ∧ tys T (tN T 6 c) = [] ∧ tI T 5 (tN T 6 c) = 0 ∧ tys T (tN T 7 c) = [tI T 5 c, 0] ∧ tys T (tN T 8 c) = []) ∨
  (tI T 2 c = 30 ∧ tI T 5 c = tI T 5 (tN T 6 c) ∧ ∃ ts, tys T c = ts ++ [3] ∧ tys T (tN T 6 c) = ts ++ (List.range (tN T 9 c)).map fun _ => 0) ∨
  (tI T 2 c = 31 ∧ tI T 5 c = tI T 5 (tN T 6 c) ∧ tN T 9 c ≤ 5 ∧ ∃ ts, tys T c = ts ++ (List.range (tN T 9 c)).map (fun _ => 0) ∧ tys T (tN T 6 c) = ts ++ [3]) ∨
  (tI T 2 c = 32 ∧ CA (tI T 5 (tN T 6 c)) (tI T 5 c) ∧ isT (tI T 5 c) ∧ tN T 3 (tN T 6 c) = tN T 3 c ∧ ∀ k, k < tN T 3 c → CA (tI T 4 (6 * c + k)) (tI T 4 (6 * tN T 6 c + k)) ∧ isT (tI T 4 (6 * tN T 6 c + k)))
def WY (T : mS) (nh nr : Nat) : Prop := ∀ c, c < nh → YP T nr c ∨ YO T nr c
theorem row_of {R : aRS} {v : aVl} (hR : RT R) (h : VT R.2.1 3 v) (h3 : ¬ v.1 = 3) : ∃ r m : Nat, r < R.2.1 ∧ r < 60 ∧ m ≤ 20 ∧ v.1 = 2 ∧ v.2 = (nI r).toInt64 ∧ v.2.toInt32 = nI r ∧ R.2.2.1 r = nI m ∧ rrl R v.2.toInt32 = some (nI m) := by
  rcases h.2.2.2.1 rfl with ⟨a, r, b, c⟩ | a
  · obtain ⟨m, hm, e⟩ := hR.2 r b
    have h60 : r < 60 := Nat.lt_of_lt_of_le b hR.1
    have e2 : v.2.toInt32 = nI r := by rw [c, Int32.toInt32_toInt64]
    refine ⟨r, m, b, h60, hm, a, c, e2, e, ?_⟩
    rw [e2, rrl, nI_clamp (by omega), if_pos ⟨nI_pos (by omega), h60⟩, e]
  · exact absurd (by rw [a]) h3
theorem rt_new {R : aRS} {m : Nat} (hR : RT R) (h : R.2.1 < 60) (hm : m ≤ 20) : RT (rnew R m) := by
  refine ⟨h, fun r hr => ?_⟩
  by_cases e : r = R.2.1
  · exact ⟨m, hm, by simp [rnew, va_up, e]⟩
  · obtain ⟨k, hk, e2⟩ := hR.2 r (by have : r < R.2.1 + 1 := hr; omega)
    exact ⟨k, hk, by simp only [rnew, va_up, if_neg e]; exact e2⟩
theorem lN_of {y : Int64} {m : Nat} (h0 : ¬ y < 0) (h : ¬ lN m < y) (hm : m < 2 ^ 31) : ∃ k : Nat, k ≤ m ∧ y = lN k := by
  rw [Int64.lt_iff_toInt_lt] at h0 h
  rw [lN_toInt hm] at h
  have z : (0 : Int64).toInt = 0 := rfl
  rw [z] at h0
  refine ⟨y.toInt.toNat, by omega, ?_⟩
  apply Int64.toInt_inj.mp
  rw [lN_toInt (by omega)]
  omega
theorem in_lN {y : Int64} {n : Nat} (h : ¬ inI y 0 (nI n - 1).toInt64 = 0) (hn : n ≤ 60) : ∃ k : Nat, k < n ∧ y = lN k := by
  unfold inI at h
  have h1 : ¬ lg_cmp y 0 < 0 := fun z => h (by rw [if_pos z])
  have h2 : ¬ 0 < lg_cmp y (nI n - 1).toInt64 := fun z => h (by rw [if_neg h1, if_pos z])
  rw [lg_cmp_lt] at h1
  rw [lg_cmp_gt] at h2
  cases n with
  | zero =>
    exfalso
    have e : (nI 0 - 1).toInt64 = -1 := by decide
    rw [e] at h2
    rw [Int64.lt_iff_toInt_lt] at h1 h2
    have z : (0 : Int64).toInt = 0 := rfl
    have z1 : (-1 : Int64).toInt = -1 := rfl
    rw [z] at h1
    rw [z1] at h2
    omega
  | succ m =>
    rw [nI_p1, nI_l (by omega)] at h2
    obtain ⟨k, hk, e⟩ := lN_of h1 h2 (by omega)
    exact ⟨k, by omega, e⟩
theorem pi_so {R : aRS} {F : Int32} {x y : Int64} (hR : RT R) (hF : F = 2 ∨ F = 3 ∨ F = 4 ∨ F = 5 ∨ F = 6) : SO R 0 (sp2 F x y R) := by
  unfold sp2
  refine so_ite (fun _ => so_is hR (vt0 (vi_32 _))) fun n2 => so_ite (fun _ => so_is hR (vt0 (vi_32 _))) fun n3 => so_ite (fun _ => so_is hR (vt0 (vi_32 _))) fun n4 => so_ite (fun _ => so_ite (fun _ => so_bad hR (by decide)) fun _ => so_is hR (vt0 (vi_32 _))) fun n5 => so_ite (fun _ => so_is hR (vt0 ?_)) fun n6 => ?_
  · by_cases h : 0 ≤ lg_cmp x y
    · rw [if_pos h]; show (0 : Int64).toInt32.toInt64 = 0; decide
    · rw [if_neg h]; show (1 : Int64).toInt32.toInt64 = 1; decide
  · exfalso
    rcases hF with z | z | z | z | z
    · exact n2 z
    · exact n3 z
    · exact n4 z
    · exact n5 z
    · exact n6 z
theorem pr_so {R : aRS} {F t : Int32} {x y : aVl} {l : List aVl} (hR : RT R) (hx : VT R.2.1 3 x) (hF : (F = 8 ∧ t = 0) ∨ (F = 9 ∧ t = 4 ∧ l ≠ [])) : SO R t (spO F (x :: y :: l) R) := by
  unfold spO
  rw [show (x :: y :: l)[0]? = some x from rfl, o_bs]
  refine so_ite (fun _ => so_bad hR (by decide)) fun h3 => ?_
  obtain ⟨r, m, hr, hr60, hm, hk, hv, hv2, hlen, hrr⟩ := row_of hR hx h3
  rw [if_neg (by rcases hF with ⟨z, -⟩ | ⟨z, -⟩ <;> rw [z] <;> decide), hrr, o_bs, show (x :: y :: l)[1]? = some y from rfl, o_bs]
  refine so_ite (fun _ => so_bad hR (by decide)) fun hin => ?_
  obtain ⟨k, hkm, ey⟩ := in_lN hin (by omega)
  have eix : 20 * x.2.toInt32 + y.2.toInt32 = nI (20 * r + k) := by rw [hv2, ey, lN_i, nI_20]
  rw [eix]
  rcases hF with ⟨z, z2⟩ | ⟨z, z2, z3⟩
  · subst z; subst z2
    rw [if_pos rfl, rri, nI_clamp (by omega), if_pos ⟨nI_pos (by omega), by omega⟩, o_bs]
    exact so_is hR (vt0 (vi_32 _))
  · subst z; subst z2
    cases l with
    | nil => exact absurd rfl z3
    | cons u l =>
      rw [if_neg (by decide), show (x :: y :: u :: l)[2]? = some u from rfl, o_bs, rwi, nI_clamp (by omega), if_pos ⟨nI_pos (by omega), by omega⟩, o_bs]
      exact so_ok ⟨hR.1, hR.2⟩ (Nat.le_refl _) (Nat.le_refl _) vt4
theorem pl_so {T : mS} {c nr : Nat} {as : List aVl} {R : aRS} (hY : YP T nr c) (hb : tI T 2 c = 12 → 100 + tI T 10 c ≠ 0) (hn : nr ≤ R.2.1) (hA : VTs R.2.1 (tys T c) as) (hR : RT R) : SO R (tI T 5 c) (spP T c as R) := by
  rcases hY with ⟨hF, ht, hg, hi, hr⟩ | ⟨hF, ht⟩ | ⟨hF, ht, hg⟩ | ⟨hF, ht, hg⟩ | ⟨hF, ht, hg⟩ | ⟨hF, ht, hg⟩ | ⟨hF, ht, hg⟩ | ⟨hF, ht, hg⟩ | ⟨hF, ht⟩ | ⟨hF, ht, hg⟩
  · unfold spP
    rw [if_pos hF, hg]
    refine so_is hR ?_
    rcases hi with z | z | z | z | z
    · rw [z, if_neg (by decide), if_neg (by decide), if_neg (by decide)]; exact vt0 (vi_32 _)
    · rw [z, if_pos rfl]; exact vt1
    · rw [z, if_neg (by decide), if_neg (by decide), if_neg (by decide)]; exact vt2i (vi_32 _)
    · obtain ⟨r, h1, h2⟩ := hr z
      rw [z, if_neg (by decide), if_pos rfl, h2]; exact vt3 (by omega)
    · rw [z, if_neg (by decide), if_neg (by decide), if_pos rfl]; exact vt4
  · rw [ht] at hA
    obtain ⟨v, ws, rfl, hv, -⟩ := hA.one
    unfold spP
    rw [if_neg (by rw [hF]; decide), if_pos hF, show (v :: ws)[0]? = some v from rfl, o_bs]
    exact so_is hR hv
  · rw [ht] at hA
    obtain ⟨v, ws, rfl, hv, hA⟩ := hA.one
    obtain ⟨w, ws, rfl, hw, -⟩ := hA.one
    unfold spP
    have hd : ∀ z : Int32, z = 0 ∨ z = 1 ∨ z = 12 ∨ z = 13 ∨ z = 11 ∨ z = 8 ∨ z = 9 ∨ z = 10 → ¬ tI T 2 c = z := by
      intro z hz e
      rw [e] at hF
      rcases hz with h | h | h | h | h | h | h | h <;> rw [h] at hF <;> revert hF <;> decide
    rw [if_neg (hd 0 (by simp)), if_neg (hd 1 (by simp)), if_neg (hd 12 (by simp)), if_neg (hd 13 (by simp)), if_neg (hd 11 (by simp)), if_neg (by
      intro hz
      rcases hz with h | h | h
      · exact hd 8 (by simp) h
      · exact hd 9 (by simp) h
      · exact hd 10 (by simp) h), show (v :: w :: ws)[0]? = some v from rfl, o_bs, show (v :: w :: ws)[1]? = some w from rfl, o_bs, hg]
    exact pi_so hR hF
  · rw [ht] at hA
    obtain ⟨v, ws, rfl, hv, hA⟩ := hA.one
    obtain ⟨w, ws, rfl, hw, -⟩ := hA.one
    unfold spP
    rw [hF, if_neg (by decide), if_neg (by decide), if_neg (by decide), if_neg (by decide), if_neg (by decide), if_neg (by decide), show (v :: w :: ws)[0]? = some v from rfl, o_bs, show (v :: w :: ws)[1]? = some w from rfl, o_bs, hg]
    unfold sp2
    rw [if_neg (by decide), if_neg (by decide), if_neg (by decide), if_neg (by decide), if_neg (by decide), if_pos rfl]
    exact so_is hR vt1
  · rw [ht] at hA
    obtain ⟨v, ws, rfl, hv, hA⟩ := hA.one
    obtain ⟨w, ws, rfl, hw, -⟩ := hA.one
    unfold spP
    rw [hF, if_neg (by decide), if_neg (by decide), if_neg (by decide), if_neg (by decide), if_neg (by decide), if_pos (by decide), hg]
    exact pr_so hR hv (Or.inl ⟨rfl, rfl⟩)
  · rw [ht] at hA
    obtain ⟨v, ws, rfl, hv, hA⟩ := hA.one
    obtain ⟨w, ws, rfl, hw, hA⟩ := hA.one
    obtain ⟨u, ws, rfl, hu, -⟩ := hA.one
    unfold spP
    rw [hF, if_neg (by decide), if_neg (by decide), if_neg (by decide), if_neg (by decide), if_neg (by decide), if_pos (by decide), hg]
    exact pr_so hR hv (Or.inr ⟨rfl, rfl, by simp⟩)
  · rw [ht] at hA
    obtain ⟨v, ws, rfl, hv, -⟩ := hA.one
    unfold spP
    rw [hF, if_neg (by decide), if_neg (by decide), if_neg (by decide), if_neg (by decide), if_neg (by decide), if_pos (by decide), hg]
    unfold spO
    rw [show (v :: ws)[0]? = some v from rfl, o_bs]
    refine so_ite (fun _ => so_bad hR (by decide)) fun h3 => ?_
    obtain ⟨r, m, -, -, -, -, -, -, -, hrr⟩ := row_of hR hv h3
    rw [if_pos rfl, hrr, o_bs]
    exact so_is hR (vt0 (vi_32 _))
  · rw [ht] at hA
    obtain ⟨v, ws, rfl, hv, -⟩ := hA.one
    unfold spP
    rw [hF, if_neg (by decide), if_neg (by decide), if_neg (by decide), if_neg (by decide), if_pos rfl, hg, show (v :: ws)[0]? = some v from rfl, o_bs]
    refine so_ite (fun _ => so_bad hR (by decide)) fun h1 => so_ite (fun _ => so_bad hR (by decide)) fun h2 => so_ite (fun _ => so_bad hR (by decide)) fun h60 => ?_
    rw [lg_cmp_lt] at h1
    rw [lg_cmp_gt] at h2
    obtain ⟨k, hk, e⟩ := lN_of (m := 20) h1 h2 (by decide)
    have hlt : R.2.1 < 60 := by have := hR.1; omega
    rw [e, lN_i, nI_clamp (by omega)]
    exact so_ok (rt_new hR hlt hk) (Nat.le_succ _) (Nat.le_refl _) (vt3 (Nat.lt_succ_self _))
  · unfold spP
    rw [if_neg (by rw [hF]; decide), if_neg (by rw [hF]; decide), if_pos hF]
    exact so_bad hR (hb hF)
  · unfold spP
    rw [hF, if_neg (by decide), if_neg (by decide), if_neg (by decide), if_pos rfl, hg]
    exact so_ok ⟨hR.1, hR.2⟩ (Nat.le_refl _) (Nat.le_refl _) (vt0 (vi_32 _))
