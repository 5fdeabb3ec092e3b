/-! CLASS AND REFERENCE: the places of a moved handle. My own rows. -/
theorem bit_t : ∀ m, m < 64 → ∀ d, d < 6 → (((nI m >>> (nI d &&& 31)) &&& 1) = 1 ↔ m.testBit d = true) := by decide +kernel
theorem bit_o : ∀ m, m < 64 → ∀ d, d < 6 → (nI m ||| (1 <<< (nI d &&& 31))) = nI (m ||| 2 ^ d) ∧ m ||| 2 ^ d < 64 := by decide +kernel
/-- from k on the places are within n, not in the mask, and each once -/
def PL (D : Nat → Nat) (n k m : Nat) : Prop := ∀ i, k ≤ i → i < n → D i < n ∧ m.testBit (D i) = false ∧ ∀ j, k ≤ j → j < i → D j ≠ D i
theorem pl_step {D : Nat → Nat} {n k m : Nat} (hk : k < n) : PL D n k m ↔ D k < n ∧ m.testBit (D k) = false ∧ PL D n (k + 1) (m ||| 2 ^ D k) := by
  constructor
  · intro h
    obtain ⟨h1, h2, -⟩ := h k (Nat.le_refl _) hk
    refine ⟨h1, h2, fun i hi hin => ?_⟩
    obtain ⟨a1, a2, a3⟩ := h i (by omega) hin
    refine ⟨a1, ?_, fun j hj hji => a3 j (by omega) hji⟩
    rw [Nat.testBit_or, a2, Nat.testBit_two_pow, decide_eq_false (a3 k (Nat.le_refl _) (by omega))]
    rfl
  · rintro ⟨h1, h2, h3⟩ i hi hin
    by_cases hik : i = k
    · subst hik
      exact ⟨h1, h2, fun j hj hji => by omega⟩
    · obtain ⟨a1, a2, a3⟩ := h3 i (by omega) hin
      rw [Nat.testBit_or, Nat.testBit_two_pow, Bool.or_eq_false_iff] at a2
      refine ⟨a1, a2.1, fun j hj hji => ?_⟩
      by_cases hjk : j = k
      · rw [hjk]; exact of_decide_eq_false a2.2
      · exact a3 j (by omega) hji
theorem pl_inj {D : Nat → Nat} {n : Nat} : PL D n 0 0 ↔ (∀ k, k < n → D k < n) ∧ ∀ i k, i < n → k < n → D i = D k → i = k := by
  constructor
  · intro h
    refine ⟨fun k hk => (h k (Nat.zero_le _) hk).1, fun i k hi hk e => ?_⟩
    rcases Nat.lt_trichotomy i k with q | q | q
    · exact absurd e ((h k (Nat.zero_le _) hk).2.2 i (Nat.zero_le _) q)
    · exact q
    · exact absurd e.symm ((h i (Nat.zero_le _) hi).2.2 k (Nat.zero_le _) q)
  · rintro ⟨h1, h2⟩ i hi hin
    exact ⟨h1 i hin, Nat.zero_testBit _, fun j hj hji e => by have := h2 j i (by omega) hin e; omega⟩
/-- a number that tells the places -/
def oP (A : Int32) (n : Nat) : Prop := ∃ a, A = nI a ∧ a < 10 ^ n ∧ (∀ k, k < n → dgt (nI a) n k < n) ∧ ∀ i k, i < n → k < n → dgt (nI a) n i = dgt (nI a) n k → i = k
theorem g_pl36 {S : mS} {a n : Nat} (ha : a < 2 ^ 31) (hn : n ≤ 6) : ∀ (u f k m : Nat), k + u = n → u < f → m < 64 → (PL (dgt (nI a) n) n k m → gX11_arePlaces_36 f (nI a) (nI n) (nI m) (nI k) S = some (1, S)) ∧ (¬ PL (dgt (nI a) n) n k m → gX11_arePlaces_36 f (nI a) (nI n) (nI m) (nI k) S = some (0, S)) := by
  intro u
  induction u with
  | zero =>
    intro f k m hk hf hm
    obtain ⟨f, rfl⟩ : ∃ q, f = q + 1 := ⟨f - 1, by omega⟩
    rw [gX11_arePlaces_36, if_pos (nI_le (by omega) (by omega))]
    exact ⟨fun _ => rfl, fun h => absurd (fun i h1 h2 => by omega) h⟩
  | succ u ih =>
    intro f k m hk hf hm
    obtain ⟨f, rfl⟩ : ∃ q, f = q + 1 := ⟨f - 1, by omega⟩
    have ed : gX11_digit (nI a) (nI n) (nI k) S = some (nI (dgt (nI a) n k), S) := by
      rw [g_digit (by omega) hn ha]
      unfold dgt
      rw [nI_clamp ha]
    have hd10 : dgt (nI a) n k < 10 := Nat.mod_lt _ (by decide)
    rw [gX11_arePlaces_36, if_neg (nI_ge (by omega) (by omega)), ed, o_bs]
    simp only
    rw [pl_step (show k < n by omega)]
    by_cases h1 : dgt (nI a) n k < n
    · rw [if_neg (nI_ge h1 (by omega))]
      have bt := bit_t m hm (dgt (nI a) n k) (by omega)
      obtain ⟨bo, bl⟩ := bit_o m hm (dgt (nI a) n k) (by omega)
      by_cases h2 : m.testBit (dgt (nI a) n k) = true
      · rw [if_pos (bt.mpr h2)]
        exact ⟨fun q => absurd q.2.1 (by rw [h2]; decide), fun _ => rfl⟩
      · rw [if_neg (fun q => h2 (bt.mp q)), bo, nI_1]
        obtain ⟨i1, i2⟩ := ih f (k + 1) (m ||| 2 ^ dgt (nI a) n k) (by omega) (by omega) bl
        exact ⟨fun q => i1 q.2.2, fun q => i2 fun q2 => q ⟨h1, by simpa using h2, q2⟩⟩
    · rw [if_pos (nI_le (by omega) (by omega))]
      exact ⟨fun q => absurd q.1 h1, fun _ => rfl⟩
theorem g_pl4 {S : mS} {A : Int32} {n : Nat} (hn : n ≤ 6) : ∀ (u f k : Nat), k + u = n → u < f → gX11_arePlaces_4 f A (nI n) (nI (10 ^ k)) (nI k) S = if A < 0 then some (0, S) else if A < nI (10 ^ n) then gX11_arePlaces_36 4000 A (nI n) 0 0 S else some (0, S) := by
  intro u
  induction u with
  | zero =>
    intro f k hk hf
    obtain ⟨f, rfl⟩ : ∃ q, f = q + 1 := ⟨f - 1, by omega⟩
    obtain rfl : k = n := by omega
    rw [gX11_arePlaces_4, if_pos (nI_le (Nat.le_refl _) (by omega))]
  | succ u ih =>
    intro f k hk hf
    obtain ⟨f, rfl⟩ : ∃ q, f = q + 1 := ⟨f - 1, by omega⟩
    rw [gX11_arePlaces_4, if_neg (nI_ge (by omega) (by omega)), show (10 : Int32) = nI 10 from rfl, pk_mul, ← Nat.pow_succ, nI_1]
    exact ih f (k + 1) (by omega) (by omega)
theorem g_places {S : mS} {A : Int32} {n : Nat} (hn : n ≤ 6) : (oP A n → gX11_arePlaces A (nI n) S = some (1, S)) ∧ (¬ oP A n → gX11_arePlaces A (nI n) S = some (0, S)) := by
  have hp : (10 : Nat) ^ n ≤ 10 ^ 6 := Nat.pow_le_pow_right (by decide) hn
  have e := g_pl4 (S := S) (A := A) hn n 4000 0 (by omega) (by omega)
  unfold gX11_arePlaces gX11_arePlaces_e
  rw [show gX11_arePlaces_4 4000 A (nI n) 1 0 S = _ from e]
  by_cases h0 : A < 0
  · rw [if_pos h0, chkm0]
    exact ⟨fun q => by obtain ⟨a, rfl, ha, -⟩ := q; exact absurd h0 (nI_pos (by omega)), fun _ => rfl⟩
  · rw [if_neg h0]
    obtain ⟨a, ha, rfl⟩ := nI_of h0
    by_cases hl : a < 10 ^ n
    · rw [if_pos (nI_lt hl (by omega))]
      obtain ⟨i1, i2⟩ := g_pl36 (S := S) (a := a) ha hn n 4000 0 0 (by omega) (by omega) (by decide)
      rw [nI_0] at i1 i2
      refine ⟨fun q => ?_, fun q => ?_⟩
      · obtain ⟨a2, e2, l2, q3⟩ := q
        have : a = a2 := (nI_eq ha (by omega)).mp e2
        subst this
        rw [i1 (pl_inj.mpr q3), chkm1]
      · rw [i2 fun z => q ⟨a, rfl, hl, pl_inj.mp z⟩, chkm0]
    · rw [if_neg (nI_nlt (by omega) ha), chkm0]
      refine ⟨fun q => ?_, fun _ => rfl⟩
      obtain ⟨a2, e2, l2, -⟩ := q
      have : a = a2 := (nI_eq ha (by omega)).mp e2
      omega
/-- the class reads the digits from behind -/
theorem low_dgt {a n k : Nat} (ha : a < 2 ^ 31) (hk : k < n) : (a / 10 ^ k) % 10 = dgt (nI a) n (n - 1 - k) := by
  unfold dgt
  rw [nI_clamp ha, show n - 1 - (n - 1 - k) = k by omega]
theorem c_ord7 {z : Nat → Nat} {h : aH} {a n : Nat} (ha : a < 2 ^ 31) (hn : n ≤ 6) : ∀ (u f k m : Nat), k + u = n → u < f → m < 64 → ((PL (fun i => (a / 10 ^ i) % 10) n k m ∧ a / 10 ^ n = 0) → fX6_isOrder_7 z f (nI n) (nI m) (nI (a / 10 ^ k)) (nI k) h = some (1, h)) ∧ (¬ (PL (fun i => (a / 10 ^ i) % 10) n k m ∧ a / 10 ^ n = 0) → fX6_isOrder_7 z f (nI n) (nI m) (nI (a / 10 ^ k)) (nI k) h = some (0, h)) := by
  intro u
  induction u with
  | zero =>
    intro f k m hk hf hm
    obtain ⟨f, rfl⟩ : ∃ q, f = q + 1 := ⟨f - 1, by omega⟩
    obtain rfl : k = n := by omega
    have hq : a / 10 ^ k < 2 ^ 31 := Nat.lt_of_le_of_lt (Nat.div_le_self _ _) ha
    rw [fX6_isOrder_7, if_pos (nI_le (Nat.le_refl _) (by omega))]
    by_cases h0 : a / 10 ^ k = 0
    · rw [if_pos (show nI (a / 10 ^ k) = 0 by rw [h0]; rfl)]
      exact ⟨fun _ => rfl, fun q => absurd ⟨fun i h1 h2 => by omega, h0⟩ q⟩
    · rw [if_neg (nI_ne0 (Nat.pos_of_ne_zero h0) hq)]
      exact ⟨fun q => absurd q.2 h0, fun _ => rfl⟩
  | succ u ih =>
    intro f k m hk hf hm
    obtain ⟨f, rfl⟩ : ∃ q, f = q + 1 := ⟨f - 1, by omega⟩
    have hq : a / 10 ^ k < 2 ^ 31 := Nat.lt_of_le_of_lt (Nat.div_le_self _ _) ha
    have hd10 : (a / 10 ^ k) % 10 < 10 := Nat.mod_lt _ (by decide)
    rw [fX6_isOrder_7, if_neg (nI_ge (by omega) (by omega)), show (10 : Int32) = nI 10 from rfl, pk_rem hq (by decide) (by decide), if_neg (nI_pos (by omega)), pk_div hq (by decide) (by decide)]
    rw [pl_step (show k < n by omega)]
    have e10 : a / 10 ^ k / 10 = a / 10 ^ (k + 1) := by rw [Nat.div_div_eq_div_mul, Nat.pow_succ]
    by_cases h1 : (a / 10 ^ k) % 10 < n
    · rw [if_neg (nI_ge h1 (by omega))]
      have bt := bit_t m hm ((a / 10 ^ k) % 10) (by omega)
      obtain ⟨bo, bl⟩ := bit_o m hm ((a / 10 ^ k) % 10) (by omega)
      by_cases h2 : m.testBit ((a / 10 ^ k) % 10) = true
      · rw [if_pos (bt.mpr h2)]
        exact ⟨fun q => absurd q.1.2.1 (by rw [h2]; decide), fun _ => rfl⟩
      · rw [if_neg (fun q => h2 (bt.mp q)), bo, nI_1, e10]
        obtain ⟨i1, i2⟩ := ih f (k + 1) (m ||| 2 ^ ((a / 10 ^ k) % 10)) (by omega) (by omega) bl
        exact ⟨fun q => i1 ⟨q.1.2.2, q.2⟩, fun q => i2 fun q2 => q ⟨⟨h1, by simpa using h2, q2.1⟩, q2.2⟩⟩
    · rw [if_pos (nI_le (by omega) (by omega))]
      exact ⟨fun q => absurd q.1.1 h1, fun _ => rfl⟩
theorem c_ordneg {z : Nat → Nat} {h : aH} {n : Nat} (hn : n ≤ 6) : ∀ (u f k : Nat) (m A : Int32), k + u = n → u < f → A < 0 → fX6_isOrder_7 z f (nI n) m A (nI k) h = some (0, h) := by
  intro u
  induction u with
  | zero =>
    intro f k m A hk hf hA
    obtain ⟨f, rfl⟩ : ∃ q, f = q + 1 := ⟨f - 1, by omega⟩
    rw [fX6_isOrder_7, if_pos (nI_le (by omega) (by omega)), if_neg (fun e => by rw [e] at hA; exact absurd hA (by decide))]
  | succ u ih =>
    intro f k m A hk hf hA
    obtain ⟨f, rfl⟩ : ∃ q, f = q + 1 := ⟨f - 1, by omega⟩
    rw [fX6_isOrder_7, if_neg (nI_ge (by omega) (by omega))]
    by_cases h0 : A - A / 10 * 10 < 0
    · rw [if_pos h0]
    · rw [if_neg h0]
      split
      · rfl
      · split
        · rfl
        · rw [nI_1]
          refine ih f (k + 1) _ (A / 10) (by omega) (by omega) ?_
          rw [Int32.lt_iff_toInt_lt] at hA h0 ⊢
          have z0 : (0 : Int32).toInt = 0 := rfl
          have z10 : (10 : Int32).toInt = 10 := rfl
          have lo := Int32.le_toInt A
          have hi := Int32.toInt_lt A
          rw [z0] at hA h0 ⊢
          obtain ⟨B, hB⟩ : ∃ B : Nat, A.toInt = -(B : Int) := ⟨(-A.toInt).toNat, by omega⟩
          have tb : A.toInt.tdiv 10 = -((B / 10 : Nat) : Int) := by
            rw [hB, Int.neg_tdiv]
            rfl
          have ed : (A / 10).toInt = -((B / 10 : Nat) : Int) := by
            rw [Int32.toInt_div, z10, tb]
            rw [Int.bmod_eq_of_le] <;> omega
          rw [Int32.toInt_sub, Int32.toInt_mul, ed, z10] at h0
          rw [ed]
          rw [Int.bmod_eq_of_le (n := -((B / 10 : Nat) : Int) * 10) (by omega) (by omega), Int.bmod_eq_of_le (by omega) (by omega)] at h0
          omega
theorem c_order {z : Nat → Nat} {h : aH} {A : Int32} {n : Nat} (hn : n ≤ 6) : (oP A n → fX6_isOrder z A (nI n) h = some (1, h)) ∧ (¬ oP A n → fX6_isOrder z A (nI n) h = some (0, h)) := by
  have hp : (10 : Nat) ^ n ≤ 10 ^ 6 := Nat.pow_le_pow_right (by decide) hn
  unfold fX6_isOrder fX6_isOrder_e
  by_cases h0 : A < 0
  · have := c_ordneg (z := z) (h := h) hn n 4000 0 0 A (by omega) (by omega) h0
    rw [nI_0] at this
    rw [this, chk_0]
    exact ⟨fun q => by obtain ⟨a, rfl, ha, -⟩ := q; exact absurd h0 (nI_pos (by omega)), fun _ => rfl⟩
  · obtain ⟨a, ha, rfl⟩ := nI_of h0
    obtain ⟨i1, i2⟩ := c_ord7 (z := z) (h := h) (a := a) ha hn n 4000 0 0 (by omega) (by omega) (by decide)
    rw [Nat.pow_zero, Nat.div_one, nI_0] at i1 i2
    have key : oP (nI a) n ↔ PL (fun i => (a / 10 ^ i) % 10) n 0 0 ∧ a / 10 ^ n = 0 := by
      rw [pl_inj]
      have dz : a / 10 ^ n = 0 ↔ a < 10 ^ n := by rw [Nat.div_eq_zero_iff]; have : 0 < 10 ^ n := Nat.pow_pos (by decide); omega
      constructor
      · rintro ⟨a2, e2, l2, d2, j2⟩
        have : a = a2 := (nI_eq ha (by omega)).mp e2
        subst this
        refine ⟨⟨fun k hk => ?_, fun i k hi hk e => ?_⟩, dz.mpr l2⟩
        · show (a / 10 ^ k) % 10 < n
          rw [low_dgt ha hk]
          exact d2 _ (by omega)
        · have e : (a / 10 ^ i) % 10 = (a / 10 ^ k) % 10 := e
          rw [low_dgt ha hi, low_dgt ha hk] at e
          have := j2 _ _ (by omega) (by omega) e
          omega
      · rintro ⟨⟨d2, j2⟩, l2⟩
        have up : ∀ k, k < n → dgt (nI a) n k = (a / 10 ^ (n - 1 - k)) % 10 := fun k hk => by
          rw [low_dgt ha (show n - 1 - k < n by omega), show n - 1 - (n - 1 - k) = k by omega]
        refine ⟨a, rfl, dz.mp l2, fun k hk => ?_, fun i k hi hk e => ?_⟩
        · rw [up k hk]
          exact d2 _ (by omega)
        · rw [up i hi, up k hk] at e
          have := j2 (n - 1 - i) (n - 1 - k) (by omega) (by omega) e
          omega
    refine ⟨fun q => by rw [i1 (key.mp q), chk_1], fun q => by rw [i2 fun w => q (key.mpr w), chk_0]⟩
