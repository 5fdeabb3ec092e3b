/-! ANOTHER HANDLE IN THE TABLE is well made. My own rows. -/
def okT (t : Int32) : Prop := t = 0 ∨ t = 1 ∨ t = 2 ∨ t = 3
theorem wt_n {T : mS} {nh c : Nat} (hW : WT T nh) (hc : c < nh) : tN T 3 c ≤ 6 := (hW.2 c hc).2.1
theorem wa_ok {T : mS} {nh c : Nat} (hA : WA T nh) (hc : c < nh) : ∀ t, t ∈ tys T c → okT t := by
  intro t ht
  unfold tys at ht
  rw [List.mem_map] at ht
  obtain ⟨k, hk, rfl⟩ := ht
  exact (hA c hc).2 k (List.mem_range.mp hk)
theorem tys_split (T : mS) {h a : Nat} (ha : a < tN T 3 h) : tys T h = (tys T h).take a ++ tI T 4 (6 * h + a) :: (tys T h).drop (a + 1) := by
  have hl : a < (tys T h).length := by rw [tys_len]; exact ha
  have e : (tys T h)[a] = tI T 4 (6 * h + a) := by
    have q := tys_at T ha
    rw [List.getElem?_eq_getElem hl] at q
    exact Option.some.inj q
  rw [← e, ← List.drop_eq_getElem_cons hl]
  exact (List.take_append_drop a _).symm
theorem tys_nil {T : mS} {h : Nat} (e : tN T 3 h = 0) : tys T h = [] := List.eq_nil_of_length_eq_zero ((tys_len T h).trans e)
theorem tys_one {T : mS} {h : Nat} (e : tN T 3 h = 1) : tys T h = [tI T 4 (6 * h)] := by unfold tys; rw [e]; rfl
theorem tys_two {T : mS} {h : Nat} (e : tN T 3 h = 2) : tys T h = [tI T 4 (6 * h), tI T 4 (6 * h + 1)] := by unfold tys; rw [e]; rfl
theorem map_z (n : Nat) : (List.range n).map (fun _ => (0 : Int32)) = List.replicate n 0 := by
  rw [List.map_const', List.length_range]
/-- how many types, and which -/
theorem o_len {T : mS} {nh h x y a j : Nat} {ts : List Int32} {A b : Int32} {vs : List aVl} (hW : WT T nh) (hA : WA T nh) (hj : j < 13) (hh : h < nh) (hx : x < nh) (hV : oV T j h a A b) (hC : oC T vs j h x y a) (hT : oT T j h x a b ts) : ts.length ≤ 6 ∧ ∀ t, t ∈ ts → okT t := by
  have hn := wt_n hW hh
  have xn := wt_n hW hx
  have kh := wa_ok hA hh
  have kx := wa_ok hA hx
  have tk : ∀ (n : Nat) (t : Int32), t ∈ (tys T h).take n → okT t := fun n t ht => kh t (List.mem_of_mem_take ht)
  have dp : ∀ (n : Nat) (t : Int32), t ∈ (tys T h).drop n → okT t := fun n t ht => kh t (List.mem_of_mem_drop ht)
  have ok0 : okT 0 := Or.inl rfl
  have ok3 : okT 3 := Or.inr (Or.inr (Or.inr rfl))
  obtain rfl | rfl | rfl | rfl | rfl | rfl | rfl | rfl | rfl | rfl | rfl | rfl | rfl : j = 0 ∨ j = 1 ∨ j = 2 ∨ j = 3 ∨ j = 4 ∨ j = 5 ∨ j = 6 ∨ j = 7 ∨ j = 8 ∨ j = 9 ∨ j = 10 ∨ j = 11 ∨ j = 12 := by omega
  · rw [hT.1 rfl]
    obtain ⟨-, hal⟩ := hV.1 (Or.inl rfl)
    refine ⟨by rw [List.length_append, List.length_take, List.length_drop, tys_len]; omega, fun t ht => ?_⟩
    rcases List.mem_append.mp ht with q | q
    · exact tk _ t q
    · exact dp _ t q
  · rw [hT.2.1 rfl]
    have c1 := oC_1.mp hC
    obtain ⟨-, hal, hb⟩ := hV.2.1 rfl
    refine ⟨by rw [List.length_append, List.length_take, List.length_cons, List.length_drop, tys_len]; omega, fun t ht => ?_⟩
    rcases List.mem_append.mp ht with q | q
    · exact tk _ t q
    · rcases List.mem_cons.mp q with q | q
      · rw [q]; exact hb
      · exact dp _ t q
  · obtain ⟨l1, l2⟩ := hT.2.2.1 rfl
    obtain ⟨-, -, hD, hI⟩ := hV.2.2.1 rfl
    refine ⟨by omega, fun t ht => ?_⟩
    obtain ⟨i, hi, e⟩ := List.getElem_of_mem ht
    obtain ⟨k, hk, ek⟩ := onto (tN T 3 h) (dgt (nI a) (tN T 3 h)) hD hI i (by omega)
    have q := l2 k hk
    rw [ek, List.getElem?_eq_getElem hi, e] at q
    rw [Option.some.inj q]
    exact (hA h hh).2 k hk
  · rw [hT.2.2.2.1 rfl]
    exact ⟨by rw [List.length_drop, tys_len]; omega, dp _⟩
  · rw [hT.2.2.2.2.1 rfl]
    obtain ⟨c1, c2⟩ := oC_4.mp hC
    obtain ⟨-, hal⟩ := hV.1 (Or.inr rfl)
    refine ⟨by rw [List.length_append, List.length_take, List.length_cons, List.length_drop, tys_len]; omega, fun t ht => ?_⟩
    rcases List.mem_append.mp ht with q | q
    · exact tk _ t q
    · rcases List.mem_cons.mp q with q | q
      · rw [q]; exact (hA x hx).2 0 (by omega)
      · exact dp _ t q
  · rw [hT.2.2.2.2.2.1 (Or.inl rfl)]
    exact ⟨by rw [tys_len]; exact hn, kh⟩
  · rw [hT.2.2.2.2.2.2.1 (Or.inl rfl)]
    exact ⟨by rw [tys_len]; exact xn, kx⟩
  · rw [hT.2.2.2.2.2.1 (Or.inr (Or.inl rfl))]
    exact ⟨by rw [tys_len]; exact hn, kh⟩
  · rw [hT.2.2.2.2.2.1 (Or.inr (Or.inr (Or.inl rfl)))]
    exact ⟨by rw [tys_len]; exact hn, kh⟩
  · rw [hT.2.2.2.2.2.1 (Or.inr (Or.inr (Or.inr rfl)))]
    exact ⟨by rw [tys_len]; exact hn, kh⟩
  · rw [hT.2.2.2.2.2.2.2.1 rfl]
    obtain ⟨-, a1, a6⟩ := hV.2.2.2.1 rfl
    obtain ⟨c1, -⟩ := oC_10.mp hC
    refine ⟨by rw [List.length_append, List.length_take, tys_len]; show min _ _ + 1 ≤ 6; omega, fun t ht => ?_⟩
    rcases List.mem_append.mp ht with q | q
    · exact tk _ t q
    · rw [List.mem_singleton.mp q]; exact ok3
  · rw [hT.2.2.2.2.2.2.2.2 rfl]
    obtain ⟨c1, c2, c3⟩ := oC_11.mp hC
    refine ⟨by rw [List.length_append, List.length_take, tys_len, List.length_replicate]; omega, fun t ht => ?_⟩
    rcases List.mem_append.mp ht with q | q
    · exact tk _ t q
    · rw [List.eq_of_mem_replicate q]; exact ok0
  · rw [hT.2.2.2.2.2.2.1 (Or.inr rfl)]
    exact ⟨by rw [tys_len]; exact xn, kx⟩
theorem vt_bV {T : mS} {vs : List aVl} {nr h a : Nat} (hK : ∀ v, v ∈ vs → VK nr v) (hB : bOK T vs h a) (ht : okT (tI T 4 (6 * h + a))) : VT nr (tI T 4 (6 * h + a)) (bV T vs h a) := by
  obtain ⟨v, ws, rfl, h1, h2⟩ := hB
  have hv := hK v List.mem_cons_self
  have e := ad_ly (t := tI T 4 (6 * h + a)) (x := v.2) (vk_k hv)
  have e2 : bV T (v :: ws) h a = (adS (lyF v.1 (tI T 4 (6 * h + a))) (tI T 4 (6 * h + a)) v.1 v.2).2 := by rw [← e]; rfl
  rw [e2]
  rw [e] at h2
  refine ly_vt (ex := 0) hv ht ?_ h2
  unfold wv
  rw [if_pos rfl, h1]
  rfl
set_option maxHeartbeats 4000000 in
theorem p_newO {T T2 : mS} {nh nr h x y a j : Nat} {ts : List Int32} {A b : Int32} {vs : List aVl} (hW : WT T nh) (hA : WA T nh) (hK : ∀ v, v ∈ vs → VK nr v) (E : tE T T2 nh) (hj : j < 13) (hh : h < nh) (hx : x < nh) (hy : y < nh) (hV : oV T j h a A b) (hC : oC T vs j h x y a) (hT : oT T j h x a b ts) (n2 : tI T2 2 nh = nI (20 + j)) (n3 : tI T2 3 nh = nI ts.length) (n4 : ∀ k, k < ts.length → tI T2 4 (6 * nh + k) = ts.getD k 0) (n5 : tI T2 5 nh = oG T j h x y) (n6 : tI T2 6 nh = nI h) (n7 : lkX j → tI T2 7 nh = nI x) (n8 : lkY j → tI T2 8 nh = nI y) (n9 : tI T2 9 nh = A) (n11 : j = 0 → tI T2 11 nh = (bV T vs h a).1 ∧ T2.2.2.2 12 nh = (bV T vs h a).2) : tys T2 nh = ts ∧ WTc T2 (nh + 1) nh ∧ YO T2 nr nh ∧ (isT (tI T2 5 nh) ∧ ∀ k, k < tN T2 3 nh → (tI T2 4 (6 * nh + k) = 0 ∨ tI T2 4 (6 * nh + k) = 1 ∨ tI T2 4 (6 * nh + k) = 2 ∨ tI T2 4 (6 * nh + k) = 3)) := by
  have h60 := hW.1
  have hn := wt_n hW hh
  have xn := wt_n hW hx
  have yn := wt_n hW hy
  obtain ⟨h6, hok⟩ := o_len hW hA hj hh hx hV hC hT
  have l3 : tN T2 3 nh = ts.length := by show (tI T2 3 nh).toNatClampNeg = _; rw [n3]; exact nI_clamp (by omega)
  have lt : tys T2 nh = ts := by
    apply List.ext_getElem?
    intro i
    by_cases hi : i < ts.length
    · rw [tys_at T2 (show i < tN T2 3 nh by omega), n4 i hi, List.getD_eq_getElem?_getD, List.getElem?_eq_getElem hi]
      rfl
    · rw [List.getElem?_eq_none (by rw [tys_len]; omega), List.getElem?_eq_none (by omega)]
  have m6 : tN T2 6 nh = h := by show (tI T2 6 nh).toNatClampNeg = _; rw [n6]; exact nI_clamp (by omega)
  have m7 : lkX j → tN T2 7 nh = x := fun q => by show (tI T2 7 nh).toNatClampNeg = _; rw [n7 q]; exact nI_clamp (by omega)
  have m8 : lkY j → tN T2 8 nh = y := fun q => by show (tI T2 8 nh).toNatClampNeg = _; rw [n8 q]; exact nI_clamp (by omega)
  have p6 : tP T2 (nh + 1) 6 nh := ⟨by rw [m6]; exact n6, by omega⟩
  have p7 : lkX j → tP T2 (nh + 1) 7 nh := fun q => ⟨by rw [m7 q]; exact n7 q, by have := m7 q; omega⟩
  have p8 : lkY j → tP T2 (nh + 1) 8 nh := fun q => ⟨by rw [m8 q]; exact n8 q, by have := m8 q; omega⟩
  have eh := E.n hh 3 (by decide) (by decide) (by decide)
  have ex := E.n hx 3 (by decide) (by decide) (by decide)
  have ey := E.n hy 3 (by decide) (by decide) (by decide)
  have th := E.ty hh hn
  have tx := E.ty hx xn
  have ty := E.ty hy yn
  have gh : tI T2 5 h = tI T 5 h := (E h hh).1 5 (by decide) (by decide) (by decide)
  have gx : tI T2 5 x = tI T 5 x := (E x hx).1 5 (by decide) (by decide) (by decide)
  have gy : tI T2 5 y = tI T 5 y := (E y hy).1 5 (by decide) (by decide) (by decide)
  have w9 : ∀ n : Nat, A = nI n → n < 2 ^ 31 → tN T2 9 nh = n ∧ tI T2 9 nh = nI (tN T2 9 nh) := fun n e hl => by
    have q : tN T2 9 nh = n := by show (tI T2 9 nh).toNatClampNeg = _; rw [n9, e]; exact nI_clamp hl
    exact ⟨q, by rw [q, n9, e]⟩
  have hg : isT (tI T2 5 nh) := by
    rw [n5]
    unfold oG
    split
    · exact (hA x hx).1
    · split
      · exact (hA y hy).1
      · exact (hA h hh).1
  have hok4 : ∀ k, k < tN T2 3 nh → (tI T2 4 (6 * nh + k) = 0 ∨ tI T2 4 (6 * nh + k) = 1 ∨ tI T2 4 (6 * nh + k) = 2 ∨ tI T2 4 (6 * nh + k) = 3) := fun k hk => by
    rw [l3] at hk
    rw [n4 k hk, List.getD_eq_getElem?_getD, List.getElem?_eq_getElem hk]
    exact hok _ (List.getElem_mem hk)
  refine ⟨lt, ?_⟩
  suffices hs : (tP T2 (nh + 1) 6 nh → WTc T2 (nh + 1) nh) ∧ YO T2 nr nh from ⟨hs.1 p6, hs.2, hg, hok4⟩
  have wt : ∀ P : Prop, P → P := fun _ p => p
  have w3 : tI T2 3 nh = nI (tN T2 3 nh) := by rw [l3]; exact n3
  obtain rfl | rfl | rfl | rfl | rfl | rfl | rfl | rfl | rfl | rfl | rfl | rfl | rfl : j = 0 ∨ j = 1 ∨ j = 2 ∨ j = 3 ∨ j = 4 ∨ j = 5 ∨ j = 6 ∨ j = 7 ∨ j = 8 ∨ j = 9 ∨ j = 10 ∨ j = 11 ∨ j = 12 := by omega
  · obtain ⟨eA, hal⟩ := hV.1 (Or.inl rfl)
    obtain ⟨q9, r9⟩ := w9 a eA (by omega)
    have et := hT.1 rfl
    have el : ts.length + 1 = tN T 3 h := by rw [et, List.length_append, List.length_take, List.length_drop, tys_len]; omega
    refine ⟨fun p => ⟨w3, by omega, Or.inr ⟨p, Or.inl ⟨n2, r9, by omega, by rw [m6, eh]; omega⟩⟩⟩, Or.inl ⟨n2, by rw [n5, m6, gh]; simp [oG], tI T 4 (6 * h + a), ?_, ?_⟩⟩
    · rw [m6, th, lt, q9, et, List.take_left' (by rw [List.length_take, tys_len]; omega), List.drop_left' (by rw [List.length_take, tys_len]; omega)]
      exact tys_split T hal
    · rw [(n11 rfl).1, (n11 rfl).2]
      exact vt_bV hK (oC_0.mp hC) ((hA h hh).2 a hal)
  · obtain ⟨eA, hal, hb⟩ := hV.2.1 rfl
    obtain ⟨q9, r9⟩ := w9 a eA (by omega)
    have et := hT.2.1 rfl
    have el : ts.length = tN T 3 h + 1 := by rw [et, List.length_append, List.length_take, List.length_cons, List.length_drop, tys_len]; omega
    refine ⟨fun p => ⟨w3, by omega, Or.inr ⟨p, Or.inr (Or.inl ⟨n2, r9, by omega, by rw [m6, eh]; omega⟩)⟩⟩, Or.inr (Or.inl ⟨n2, by rw [n5, m6, gh]; simp [oG], ?_⟩)⟩
    rw [m6, th, lt, q9, et, List.take_left' (by rw [List.length_take, tys_len]; omega), ← List.drop_drop, List.drop_left' (by rw [List.length_take, tys_len]; omega)]
    exact (List.take_append_drop a _).symm
  · obtain ⟨eA, hal, hD, hI⟩ := hV.2.2.1 rfl
    have h10 : 10 ^ tN T 3 h ≤ 10 ^ 6 := Nat.pow_le_pow_right (by decide) hn
    obtain ⟨q9, r9⟩ := w9 a eA (by omega)
    obtain ⟨l1, l2⟩ := hT.2.2.1 rfl
    refine ⟨fun p => ⟨w3, by omega, Or.inr ⟨p, Or.inr (Or.inr (Or.inl ⟨n2, r9, by omega, by rw [m6, eh]; omega, ?_⟩))⟩⟩, Or.inr (Or.inr (Or.inl ⟨n2, by rw [n5, m6, gh]; simp [oG], ?_, ?_⟩))⟩
    · rw [n9, eA, l3, l1]; exact hD
    · rw [n9, eA, l3, l1]; exact hD
    · rw [m6, th, lt, n9, eA, l3, l1]
      unfold tys
      apply List.map_congr_left
      intro k hk
      rw [List.getD_eq_getElem?_getD, l2 k (List.mem_range.mp hk)]
      rfl
  · obtain ⟨c1, c2, c3⟩ := oC_3.mp hC
    have et := hT.2.2.2.1 rfl
    have k7 := m7 (Or.inl (by decide))
    have el : ts.length = tN T 3 h - (if tI T 5 x = 4 then 0 else 1) := by rw [et, List.length_drop, tys_len]
    refine ⟨fun p => ⟨w3, by omega, Or.inr ⟨p, Or.inr (Or.inr (Or.inr (Or.inl ⟨n2, p7 (Or.inl (by decide)), by rw [k7, ex]; omega, by rw [m6, eh, k7, gx]; omega⟩)))⟩⟩, Or.inr (Or.inr (Or.inr (Or.inl ⟨n2, by rw [n5, m6, gh]; simp [oG], ?_, ?_⟩)))⟩
    · rw [k7, tx, ex, lt, et]; exact c3
    · rw [m6, th, k7, gx, lt, et]
      by_cases h4 : tI T 5 x = 4
      · rw [if_pos h4, if_pos h4]; rfl
      · rw [if_neg h4, if_neg h4]
        have hp : 0 < tN T 3 h := by rw [if_neg h4] at c1; omega
        have q := tys_split T hp
        rw [List.take_zero, List.nil_append, Nat.add_zero, c2 h4] at q
        exact q
  · obtain ⟨eA, hal⟩ := hV.1 (Or.inr rfl)
    obtain ⟨q9, r9⟩ := w9 a eA (by omega)
    obtain ⟨c1, c2⟩ := oC_4.mp hC
    have et := hT.2.2.2.2.1 rfl
    have k7 := m7 (Or.inl (by decide))
    have el : ts.length = tN T 3 h := by rw [et, List.length_append, List.length_take, List.length_cons, List.length_drop, tys_len]; omega
    have lk : ((tys T h).take a).length = a := by rw [List.length_take, tys_len]; omega
    refine ⟨fun p => ⟨w3, by omega, Or.inr ⟨p, Or.inr (Or.inr (Or.inr (Or.inr (Or.inl ⟨n2, p7 (Or.inl (by decide)), r9, by omega, by rw [k7, ex]; exact c1, by rw [m6, eh]; omega⟩))))⟩⟩, Or.inr (Or.inr (Or.inr (Or.inr (Or.inl ⟨n2, by rw [n5, m6, gh]; simp [oG], ?_, ?_⟩))))⟩
    · rw [k7, tx, lt, q9, et, List.drop_left' lk, tys_one c1]; rfl
    · rw [m6, th, k7, gx, lt, q9, et, List.take_left' lk, ← List.drop_drop, List.drop_left' lk, c2]
      exact tys_split T hal
  · obtain ⟨c1, c2⟩ := oC_5.mp hC
    have et := hT.2.2.2.2.2.1 (Or.inl rfl)
    have k7 := m7 (Or.inl (by decide))
    have el : ts.length = tN T 3 h := by rw [et, tys_len]
    refine ⟨fun p => ⟨w3, by omega, Or.inr ⟨p, Or.inr (Or.inr (Or.inr (Or.inr (Or.inr (Or.inl ⟨n2, p7 (Or.inl (by decide)), by rw [m6, eh]; omega, by rw [k7, ex, m6, gh]; exact c1⟩)))))⟩⟩, Or.inr (Or.inr (Or.inr (Or.inr (Or.inr (Or.inl ⟨n2, by rw [n5, k7, gx]; simp [oG], by rw [m6, th, lt, et], ?_⟩)))))⟩
    rw [k7, tx, m6, gh]
    by_cases h4 : tI T 5 h = 4
    · rw [if_pos h4] at c1 ⊢
      exact tys_nil c1
    · rw [if_neg h4] at c1 c2 ⊢
      rw [tys_one c1, c2 rfl]
  · obtain ⟨c1, ⟨c2, c3⟩, c4, c5⟩ := oC_6.mp hC
    have et := hT.2.2.2.2.2.2.1 (Or.inl rfl)
    have k7 := m7 (Or.inl (by decide))
    have k8 := m8 (Or.inl rfl)
    have el : ts.length = tN T 3 x := by rw [et, tys_len]
    have exy : tN T 3 x = tN T 3 y := by rw [← tys_len, c4, tys_len]
    refine ⟨fun p => ⟨w3, by omega, Or.inr ⟨p, Or.inr (Or.inr (Or.inr (Or.inr (Or.inr (Or.inr (Or.inl ⟨n2, p7 (Or.inl (by decide)), p8 (Or.inl rfl), by rw [m6, eh]; omega, by rw [k7, ex]; omega, by rw [k8, ey]; omega⟩))))))⟩⟩, Or.inr (Or.inr (Or.inr (Or.inr (Or.inr (Or.inr (Or.inl ⟨n2, by rw [n5, k7, gx]; simp [oG], by rw [n5, k8, gy, ← c5]; simp [oG], by rw [m6, th, eh, lt, et]; exact c3, by rw [k7, tx, lt, et], by rw [k8, ty, lt, et, c4]⟩))))))⟩
  · obtain ⟨c1, c2, c3, c4⟩ := oC_7.mp hC
    have et := hT.2.2.2.2.2.1 (Or.inr (Or.inl rfl))
    have k7 := m7 (Or.inl (by decide))
    have el : ts.length = tN T 3 h := by rw [et, tys_len]
    refine ⟨fun p => ⟨w3, by omega, Or.inr ⟨p, Or.inr (Or.inr (Or.inr (Or.inr (Or.inr (Or.inr (Or.inr (Or.inl ⟨n2, p7 (Or.inl (by decide)), by rw [m6, eh]; omega, by rw [k7, ex]; omega⟩)))))))⟩⟩, Or.inr (Or.inr (Or.inr (Or.inr (Or.inr (Or.inr (Or.inr (Or.inl ⟨n2, by rw [n5, m6, gh]; simp [oG], by rw [n5, k7, gx, c4]; simp [oG], by rw [m6, th, lt, et], ?_⟩)))))))⟩
    rw [k7, tx, lt, et]
    have q := tys_split T (show 0 < tN T 3 x by omega)
    rw [List.take_zero, List.nil_append, Nat.add_zero, c2, Nat.zero_add, c3] at q
    exact q
  · obtain ⟨c1, c2, c3, c4⟩ := oC_8.mp hC
    have et := hT.2.2.2.2.2.1 (Or.inr (Or.inr (Or.inl rfl)))
    have k7 := m7 (Or.inl (by decide))
    have el : ts.length = tN T 3 h := by rw [et, tys_len]
    refine ⟨fun p => ⟨w3, by omega, Or.inr ⟨p, Or.inr (Or.inr (Or.inr (Or.inr (Or.inr (Or.inr (Or.inr (Or.inr (Or.inl ⟨n2, p7 (Or.inl (by decide)), by rw [m6, eh]; omega, by rw [k7, ex]; omega⟩))))))))⟩⟩, Or.inr (Or.inr (Or.inr (Or.inr (Or.inr (Or.inr (Or.inr (Or.inr (Or.inl ⟨n2, by rw [n5, m6, gh]; simp [oG], by rw [m6, th, lt, et], ?_⟩))))))))⟩
    rw [k7, tx, lt, et]
    have q := tys_split T (show 0 < tN T 3 x by omega)
    rw [List.take_zero, List.nil_append, Nat.add_zero, c2, Nat.zero_add, c3] at q
    exact q
  · obtain ⟨c1, c2, c3, c4, c5, c6, c7, c8⟩ := oC_9.mp hC
    have et := hT.2.2.2.2.2.1 (Or.inr (Or.inr (Or.inr rfl)))
    have k7 := m7 (Or.inl (by decide))
    have k8 := m8 (Or.inr rfl)
    have el : ts.length = tN T 3 h := by rw [et, tys_len]
    have e5 : tI T2 5 nh = tI T 5 y := by rw [n5]; simp [oG]
    refine ⟨fun p => ⟨w3, by omega, Or.inr ⟨p, Or.inr (Or.inr (Or.inr (Or.inr (Or.inr (Or.inr (Or.inr (Or.inr (Or.inr (Or.inl ⟨n2, p7 (Or.inl (by decide)), p8 (Or.inr rfl), by omega, by rw [m6, eh]; omega, by rw [k7, ex]; omega, by rw [k8, ey]; omega⟩)))))))))⟩⟩, Or.inr (Or.inr (Or.inr (Or.inr (Or.inr (Or.inr (Or.inr (Or.inr (Or.inr (Or.inl ⟨n2, by rw [e5, k7, gx, c8], by rw [e5, k8, gy], by rw [lt, et]; exact tys_nil c1, by rw [m6, th]; exact tys_nil c1, by rw [m6, gh]; exact c2, ?_, by rw [k8, ty]; exact tys_nil c3⟩)))))))))⟩
    rw [k7, tx, e5, tys_two c5, c6, c7]
  · obtain ⟨eA, a1, a6⟩ := hV.2.2.2.1 rfl
    obtain ⟨q9, r9⟩ := w9 a eA (by omega)
    obtain ⟨c1, c2⟩ := oC_10.mp hC
    have et := hT.2.2.2.2.2.2.2.1 rfl
    have el : ts.length = tN T 3 h - a + 1 := by rw [et, List.length_append, List.length_take, tys_len]; show min _ _ + 1 = _; omega
    refine ⟨fun p => ⟨w3, by omega, Or.inr ⟨p, Or.inr (Or.inr (Or.inr (Or.inr (Or.inr (Or.inr (Or.inr (Or.inr (Or.inr (Or.inr (Or.inl ⟨n2, r9, by omega, by omega, by rw [m6, eh]; omega⟩))))))))))⟩⟩, Or.inr (Or.inr (Or.inr (Or.inr (Or.inr (Or.inr (Or.inr (Or.inr (Or.inr (Or.inr (Or.inl ⟨n2, by rw [n5, m6, gh]; simp [oG], (tys T h).take (tN T 3 h - a), by rw [lt, et], ?_⟩))))))))))⟩
    rw [m6, th, q9, map_z]
    have q : (tys T h).drop (tN T 3 h - a) = List.replicate a 0 := by
      apply List.ext_getElem?
      intro i
      rw [List.getElem?_drop]
      by_cases hi : i < a
      · rw [tys_at T (show tN T 3 h - a + i < tN T 3 h by omega), c2 _ (by omega) (by omega), List.getElem?_replicate, if_pos hi]
      · rw [List.getElem?_eq_none (by rw [tys_len]; omega), List.getElem?_eq_none (by rw [List.length_replicate]; omega)]
    rw [← q]
    exact (List.take_append_drop _ _).symm
  · obtain ⟨eA, a5⟩ := hV.2.2.2.2 rfl
    obtain ⟨q9, r9⟩ := w9 a eA (by omega)
    obtain ⟨c1, c2, c3⟩ := oC_11.mp hC
    have et := hT.2.2.2.2.2.2.2.2 rfl
    have el : ts.length = tN T 3 h - 1 + a := by rw [et, List.length_append, List.length_take, tys_len, List.length_replicate]; omega
    refine ⟨fun p => ⟨w3, by omega, Or.inr ⟨p, Or.inr (Or.inr (Or.inr (Or.inr (Or.inr (Or.inr (Or.inr (Or.inr (Or.inr (Or.inr (Or.inr (Or.inl ⟨n2, r9, by omega, by omega, by rw [m6, eh]; omega⟩)))))))))))⟩⟩, Or.inr (Or.inr (Or.inr (Or.inr (Or.inr (Or.inr (Or.inr (Or.inr (Or.inr (Or.inr (Or.inr (Or.inl ⟨n2, by rw [n5, m6, gh]; simp [oG], by omega, (tys T h).take (tN T 3 h - 1), by rw [lt, q9, map_z, et], ?_⟩)))))))))))⟩
    rw [m6, th]
    have q := tys_split T (show tN T 3 h - 1 < tN T 3 h by omega)
    rw [c2, List.drop_eq_nil_of_le (show (tys T h).length ≤ tN T 3 h - 1 + 1 by rw [tys_len]; omega)] at q
    exact q
  · obtain ⟨c1, c2, c3⟩ := oC_12.mp hC
    have et := hT.2.2.2.2.2.2.1 (Or.inr rfl)
    have el : ts.length = tN T 3 x := by rw [et, tys_len]
    have e5 : tI T2 5 nh = tI T 5 x := by rw [n5]; simp [oG]
    refine ⟨fun p => ⟨w3, by omega, Or.inr ⟨p, Or.inr (Or.inr (Or.inr (Or.inr (Or.inr (Or.inr (Or.inr (Or.inr (Or.inr (Or.inr (Or.inr (Or.inr ⟨n2, by rw [m6, eh]; omega⟩)))))))))))⟩⟩, Or.inr (Or.inr (Or.inr (Or.inr (Or.inr (Or.inr (Or.inr (Or.inr (Or.inr (Or.inr (Or.inr (Or.inr ⟨n2, by rw [m6, gh, e5]; exact (caB_iff _ _).mp c2, hg, by rw [m6, eh]; omega, fun k hk => ?_⟩)))))))))))⟩
    rw [l3] at hk
    have e4 : tI T2 4 (6 * h + k) = tI T 4 (6 * h + k) := (E h hh).2.2 k (by omega)
    have e4x : tI T2 4 (6 * nh + k) = tI T 4 (6 * x + k) := by
      rw [n4 k hk, et, List.getD_eq_getElem?_getD, tys_at T (by omega)]
      rfl
    rw [m6, e4, e4x]
    refine ⟨(caB_iff _ _).mp (c3 k (by omega)), ?_⟩
    rcases (hA h hh).2 k (by omega) with q | q | q | q
    · exact Or.inl q
    · exact Or.inr (Or.inl q)
    · exact Or.inr (Or.inr (Or.inl q))
    · exact Or.inr (Or.inr (Or.inr (Or.inl q)))
