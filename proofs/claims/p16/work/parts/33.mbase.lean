/-! THE REFERENCE'S SMALL METHODS. My own rows. -/
theorem mrA_n (S : mS) (k n : Nat) (h : n < mLen k) (h2 : n < 2 ^ 31) : mrA S k (nI n) = some (S.2.2.1 k n) := by
  rw [mrA, nI_clamp h2, if_pos ⟨nI_pos h2, h⟩]
theorem mrB_n (S : mS) (k n : Nat) (h : n < mLen k) (h2 : n < 2 ^ 31) : mrB S k (nI n) = some (S.2.2.2 k n) := by
  rw [mrB, nI_clamp h2, if_pos ⟨nI_pos h2, h⟩]
theorem mwA_n (S : mS) (k n : Nat) (v : Int32) (h : n < mLen k) (h2 : n < 2 ^ 31) : mwA S k (nI n) v = some (sA S k n v) := by
  rw [mwA, nI_clamp h2, if_pos ⟨nI_pos h2, h⟩]
theorem mwB_n (S : mS) (k n : Nat) (v : Int64) (h : n < mLen k) (h2 : n < 2 ^ 31) : mwB S k (nI n) v = some (sB S k n v) := by
  rw [mwB, nI_clamp h2, if_pos ⟨nI_pos h2, h⟩]
theorem ml_35 : mLen 35 = 81 := by decide +kernel
theorem ml_36 : mLen 36 = 81 := by decide +kernel
theorem ml_37 : mLen 37 = 567 := by decide +kernel
theorem ml_38 : mLen 38 = 567 := by decide +kernel
theorem ml_39 : mLen 39 = 81 := by decide +kernel
theorem ml_40 : mLen 40 = 81 := by decide +kernel
theorem ml_41 : mLen 41 = 81 := by decide +kernel
theorem ml_42 : mLen 42 = 81 := by decide +kernel
theorem ml_43 : mLen 43 = 81 := by decide +kernel
theorem ml_44 : mLen 44 = 12 := by decide +kernel
theorem ml_45 : mLen 45 = 12 := by decide +kernel
theorem ml_2 : mLen 2 = 60 := by decide +kernel
theorem ml_3 : mLen 3 = 60 := by decide +kernel
theorem ml_4 : mLen 4 = 360 := by decide +kernel
theorem ml_5 : mLen 5 = 60 := by decide +kernel
theorem ml_6 : mLen 6 = 60 := by decide +kernel
theorem ml_7 : mLen 7 = 60 := by decide +kernel
theorem ml_8 : mLen 8 = 60 := by decide +kernel
theorem ml_9 : mLen 9 = 60 := by decide +kernel
theorem ml_10 : mLen 10 = 60 := by decide +kernel
theorem ml_11 : mLen 11 = 60 := by decide +kernel
theorem ml_12 : mLen 12 = 60 := by decide +kernel
theorem ml_14 : mLen 14 = 60 := by decide +kernel
theorem ml_15 : mLen 15 = 1200 := by decide +kernel
theorem ml_17 : mLen 17 = 10 := by decide +kernel
theorem ml_18 : mLen 18 = 10 := by decide +kernel
theorem ml_19 : mLen 19 = 10 := by decide +kernel
theorem ml_21 : mLen 21 = 6 := by decide +kernel
theorem ml_22 : mLen 22 = 6 := by decide +kernel
theorem ml_27 : mLen 27 = 12 := by decide +kernel
/-- all fields but those of f are the same -/
def eqB (f : Nat → Bool) (S S2 : mS) : Prop := ∀ k, f k = false → S.1 k = S2.1 k ∧ S.2.1 k = S2.2.1 k ∧ S.2.2.1 k = S2.2.2.1 k ∧ S.2.2.2 k = S2.2.2.2 k
theorem eqB.rf {f : Nat → Bool} {S : mS} : eqB f S S := fun _ _ => ⟨rfl, rfl, rfl, rfl⟩
theorem eqB.tr {f : Nat → Bool} {S S2 S3 : mS} (h : eqB f S S2) (h2 : eqB f S2 S3) : eqB f S S3 := fun k hk => ⟨(h k hk).1.trans (h2 k hk).1, (h k hk).2.1.trans (h2 k hk).2.1, (h k hk).2.2.1.trans (h2 k hk).2.2.1, (h k hk).2.2.2.trans (h2 k hk).2.2.2⟩
theorem eqB.mono {f f2 : Nat → Bool} {S S2 : mS} (h : eqB f S S2) (hf : ∀ k, f2 k = false → f k = false) : eqB f2 S S2 := fun k hk => h k (hf k hk)
theorem va_up_n {α : Type} {f : Nat → α} {k j : Nat} {v : α} (h : j ≠ k) : va_up f k v j = f j := by rw [va_up, if_neg h]
theorem va_up_s {α : Type} {f : Nat → α} {k : Nat} {v : α} : va_up f k v k = v := by rw [va_up, if_pos rfl]
theorem eqB.I {f : Nat → Bool} {S : mS} {k : Nat} {v : Int32} (h : f k = true) : eqB f S (sI S k v) := fun j hj => by
  have hjk : j ≠ k := fun q => by rw [q, h] at hj; cases hj
  exact ⟨(va_up_n hjk).symm, rfl, rfl, rfl⟩
theorem eqB.J {f : Nat → Bool} {S : mS} {k : Nat} {v : Int64} (h : f k = true) : eqB f S (sJ S k v) := fun j hj => by
  have hjk : j ≠ k := fun q => by rw [q, h] at hj; cases hj
  exact ⟨rfl, (va_up_n hjk).symm, rfl, rfl⟩
theorem eqB.A {f : Nat → Bool} {S : mS} {k i : Nat} {v : Int32} (h : f k = true) : eqB f S (sA S k i v) := fun j hj => by
  have hjk : j ≠ k := fun q => by rw [q, h] at hj; cases hj
  exact ⟨rfl, rfl, (va_up_n hjk).symm, rfl⟩
theorem eqB.B {f : Nat → Bool} {S : mS} {k i : Nat} {v : Int64} (h : f k = true) : eqB f S (sB S k i v) := fun j hj => by
  have hjk : j ≠ k := fun q => by rw [q, h] at hj; cases hj
  exact ⟨rfl, rfl, rfl, (va_up_n hjk).symm⟩
abbrev aVl : Type := Int32 × Int64
/-- the arguments that are laid ready -/
def AB (S : mS) (as : List aVl) : Prop := S.1 46 = nI as.length ∧ ∀ (i : Nat) (v : aVl), as[i]? = some v → S.2.2.1 44 i = v.1 ∧ S.2.2.2 45 i = v.2
def fArg (k : Nat) : Bool := k == 44 || k == 45 || k == 46
theorem g_begin (S : mS) : ∃ S2, gX11_begin S = some S2 ∧ AB S2 [] ∧ eqB fArg S S2 := ⟨_, rfl, ⟨by simp [sI, va_up]; rfl, fun i v h => by simp at h⟩, eqB.I rfl⟩
theorem g_add {S : mS} {as : List aVl} (h : AB S as) (hl : as.length < 12) (kd : Int32) (v : Int64) : ∃ S2, gX11_add kd v S = some S2 ∧ AB S2 (as ++ [(kd, v)]) ∧ eqB fArg S S2 := by
  unfold gX11_add
  rw [h.1, mwA_n S 44 _ kd (by rw [ml_44]; exact hl) (by omega), o_bs]
  have e1 : (sA S 44 as.length kd).1 46 = nI as.length := h.1
  rw [e1, mwB_n _ 45 _ v (by rw [ml_45]; exact hl) (by omega), o_bs]
  refine ⟨_, rfl, ⟨?_, fun i w hw => ?_⟩, (eqB.A rfl).tr ((eqB.B rfl).tr (eqB.I rfl))⟩
  · have e2 : (sB (sA S 44 as.length kd) 45 as.length v).1 46 = nI as.length := h.1
    simp only [sI, e2, va_up, if_true, nI_1, List.length_append, List.length_singleton]
  · by_cases hi : i < as.length
    · rw [List.getElem?_append_left hi] at hw
      obtain ⟨g1, g2⟩ := h.2 i w hw
      have hne : i ≠ as.length := by omega
      exact ⟨by simp [sI, sA, sB, va_up, hne, g1], by simp [sI, sA, sB, va_up, hne, g2]⟩
    · rw [List.getElem?_append_right (by omega)] at hw
      have hz : i - as.length < 1 := (List.getElem?_eq_some_iff.mp hw).1
      have hi2 : i = as.length := by omega
      subst hi2
      simp at hw
      subst hw
      exact ⟨by simp [sI, sA, sB, va_up], by simp [sI, sA, sB, va_up]⟩
/-- the values of frame p -/
def FV (S : mS) (p : Nat) (as : List aVl) : Prop := ∀ (i : Nat) (v : aVl), as[i]? = some v → S.2.2.1 37 (7 * p + i) = v.1 ∧ S.2.2.2 38 (7 * p + i) = v.2
theorem FV.eq {S S2 : mS} {f : Nat → Bool} {p : Nat} {as : List aVl} (h : FV S p as) (he : eqB f S S2) (h1 : f 37 = false) (h2 : f 38 = false) : FV S2 p as := fun i v hi => ⟨by rw [← (he 37 h1).2.2.1]; exact (h i v hi).1, by rw [← (he 38 h2).2.2.2]; exact (h i v hi).2⟩
theorem nI7 (p i : Nat) : 7 * nI p + nI i = nI (7 * p + i) := by
  rw [show (7 : Int32) = nI 7 from rfl, pk_mul, nI_add]
/-- addOwn: the values from place a up to b of the frame come behind -/
theorem g_addOwn_3 {p : Nat} (hp : p < 81) (as : List aVl) (b : Nat) (hb : b ≤ as.length) (h7 : as.length ≤ 7) : ∀ (m : Nat) (n a : Nat) (S : mS) (bs : List aVl), a + m = b → m < n → AB S bs → bs.length + m ≤ 12 → FV S p as → ∃ S2, gX11_addOwn_3 n (nI p) (nI b) (nI a) S = some S2 ∧ AB S2 (bs ++ (as.drop a).take m) ∧ eqB fArg S S2 := by
  intro m
  induction m with
  | zero =>
    intro n a S bs ha hn hA hl hF
    obtain ⟨n, rfl⟩ : ∃ q, n = q + 1 := ⟨n - 1, by omega⟩
    rw [gX11_addOwn_3, if_pos (nI_le (by omega) (by omega))]
    exact ⟨S, rfl, by simpa using hA, eqB.rf⟩
  | succ m ih =>
    intro n a S bs ha hn hA hl hF
    obtain ⟨n, rfl⟩ : ∃ q, n = q + 1 := ⟨n - 1, by omega⟩
    have hal : a < as.length := by omega
    have hv := List.getElem?_eq_getElem hal
    obtain ⟨f1, f2⟩ := hF a _ hv
    rw [gX11_addOwn_3, if_neg (nI_ge (by omega) (by omega)), nI7, mrA_n S 37 _ (by rw [ml_37]; omega) (by omega), o_bs, mrB_n S 38 _ (by rw [ml_38]; omega) (by omega), o_bs, f1, f2]
    obtain ⟨S2, e1, hA2, q2⟩ := g_add hA (by omega) as[a].1 as[a].2
    rw [e1, o_bs, nI_1]
    obtain ⟨S3, e3, hA3, q3⟩ := ih n (a + 1) S2 (bs ++ [(as[a].1, as[a].2)]) (by omega) (by omega) hA2 (by simp; omega) (hF.eq q2 rfl rfl)
    refine ⟨S3, e3, ?_, q2.tr q3⟩
    have e4 : (as.drop a).take (m + 1) = as[a] :: (as.drop (a + 1)).take m := by
      rw [List.drop_eq_getElem_cons hal, List.take_succ_cons]
    rw [e4]
    simpa using hA3
theorem g_addOwn {S : mS} {p a b : Nat} {as bs : List aVl} (hp : p < 81) (hA : AB S bs) (hF : FV S p as) (hab : a ≤ b) (hb : b ≤ as.length) (h7 : as.length ≤ 7) (hl : bs.length + (b - a) ≤ 12) : ∃ S2, gX11_addOwn (nI p) (nI a) (nI b) S = some S2 ∧ AB S2 (bs ++ (as.drop a).take (b - a)) ∧ eqB fArg S S2 :=
  g_addOwn_3 hp as b hb h7 (b - a) 4000 a S bs (by omega) (by omega) hA hl hF
