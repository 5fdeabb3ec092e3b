def gX11_in_e (j0 : Int64) (j2 : Int64) (j4 : Int64) (S : mS) : Option (Int32 × mS) :=
  (if (lg_cmp j0 j2) < 0 then
  some (0, S)
  else
  (if 0 < (lg_cmp j0 j4) then
  some (0, S)
  else
  some (1, S)))
def gX11_in (j0 : Int64) (j2 : Int64) (j4 : Int64) (S : mS) : Option (Int32 × mS) := chkM (gX11_in_e j0 j2 j4 S)
set_option maxHeartbeats 4000000 in
set_option maxRecDepth 100000 in
theorem GX11_in (z : Nat → Nat) (am : Nat) (r : aH) (j0 : Int64) (j2 : Int64) (j4 : Int64) (S : mS) : fX11_in z j0 j2 j4 (mo am S r) = (gX11_in j0 j2 j4 S).map (fun q2 => (q2.1, mo am q2.2 r)) := by
  unfold fX11_in gX11_in
  rw [← chk_map]
  congr 1
  unfold fX11_in_e gX11_in_e
  simp only [m_rdI, m_rdJ, m_rdR, m_obO, m_wrI, m_wrJ, m_arI2, m_arJ2, m_awI2, m_awJ2, o_bs, o_bm, o_mb, o_ms, o_mn, o_mi, o_bi, o_bn, mk_0, mk_1, mk_2, mk_3, mk_4, mk_5, mk_6, mk_7, mk_8, mk_9, mk_10, mk_11, mk_12, mk_13, mk_14, mk_15, mk_16, mk_17, mk_18, mk_19, mk_20, mk_21, mk_22, mk_23, mk_24, mk_25, mk_26, mk_27, mk_28, mk_29, mk_30, mk_31, mk_32, mk_33, mk_34, mk_35, mk_36, mk_37, mk_38, mk_39, mk_40, mk_41, mk_42, mk_43, mk_44, mk_45, mk_46, true_or, or_true]
def gX11_isHandle_e (x1 : Int32) (S : mS) : Option (Int32 × mS) :=
  (gX11_in (Int32.toInt64 x1) 0 (Int32.toInt64 ((S.1 1) - 1)) S).bind fun q101 =>
  some (q101.1, q101.2)
def gX11_isHandle (x1 : Int32) (S : mS) : Option (Int32 × mS) := chkM (gX11_isHandle_e x1 S)
set_option maxHeartbeats 4000000 in
set_option maxRecDepth 100000 in
theorem GX11_isHandle (z : Nat → Nat) (am : Nat) (r : aH) (x1 : Int32) (S : mS) : fX11_isHandle z am x1 (mo am S r) = (gX11_isHandle x1 S).map (fun q2 => (q2.1, mo am q2.2 r)) := by
  unfold fX11_isHandle gX11_isHandle
  rw [← chk_map]
  congr 1
  unfold fX11_isHandle_e gX11_isHandle_e
  simp only [m_rdI, m_rdJ, m_rdR, m_obO, m_wrI, m_wrJ, m_arI2, m_arJ2, m_awI2, m_awJ2, o_bs, o_bm, o_mb, o_ms, o_mn, o_mi, o_bi, o_bn, mk_0, mk_1, mk_2, mk_3, mk_4, mk_5, mk_6, mk_7, mk_8, mk_9, mk_10, mk_11, mk_12, mk_13, mk_14, mk_15, mk_16, mk_17, mk_18, mk_19, mk_20, mk_21, mk_22, mk_23, mk_24, mk_25, mk_26, mk_27, mk_28, mk_29, mk_30, mk_31, mk_32, mk_33, mk_34, mk_35, mk_36, mk_37, mk_38, mk_39, mk_40, mk_41, mk_42, mk_43, mk_44, mk_45, mk_46, true_or, or_true, GX11_in]
def gX11_about (x1 : Int32) (x2 : Int32) (S : mS) : Option (Int32 × mS) :=
  (gX11_isHandle x1 (sI S 0 0)).bind fun q101 =>
  (if q101.1 = 0 then
  some ((-2), q101.2)
  else
  (if x2 = 0 then
  (mrA q101.2 3 x1).bind fun x106 =>
  some (x106, q101.2)
  else
  (if x2 = 7 then
  (mrA q101.2 5 x1).bind fun x105 =>
  some (x105, q101.2)
  else
  (mrA q101.2 3 x1).bind fun x102 =>
  (gX11_in (Int32.toInt64 x2) 1 (Int32.toInt64 x102) q101.2).bind fun q103 =>
  (if q103.1 = 0 then
  some ((-3), q103.2)
  else
  (mrA q103.2 4 (((6 * x1) + x2) - 1)).bind fun x104 =>
  some (x104, q103.2)))))
set_option maxHeartbeats 4000000 in
set_option maxRecDepth 100000 in
theorem GX11_about (z : Nat → Nat) (am : Nat) (r : aH) (x1 : Int32) (x2 : Int32) (S : mS) : fX11_about z am x1 x2 (mo am S r) = (gX11_about x1 x2 S).map (fun q2 => (q2.1, mo am q2.2 r)) := by
  unfold fX11_about gX11_about
  simp only [m_rdI, m_rdJ, m_rdR, m_obO, m_wrI, m_wrJ, m_arI2, m_arJ2, m_awI2, m_awJ2, o_bs, o_bm, o_mb, o_ms, o_mn, o_mi, o_bi, o_bn, mk_0, mk_1, mk_2, mk_3, mk_4, mk_5, mk_6, mk_7, mk_8, mk_9, mk_10, mk_11, mk_12, mk_13, mk_14, mk_15, mk_16, mk_17, mk_18, mk_19, mk_20, mk_21, mk_22, mk_23, mk_24, mk_25, mk_26, mk_27, mk_28, mk_29, mk_30, mk_31, mk_32, mk_33, mk_34, mk_35, mk_36, mk_37, mk_38, mk_39, mk_40, mk_41, mk_42, mk_43, mk_44, mk_45, mk_46, true_or, or_true, GX11_in, GX11_isHandle]
def gX11_clear (S : mS) : Option (Int32 × mS) :=
  some (((sI S 0 0).1 20), (sI (sI S 0 0) 20 0))
set_option maxHeartbeats 4000000 in
set_option maxRecDepth 100000 in
theorem GX11_clear (z : Nat → Nat) (am : Nat) (r : aH) (S : mS) : fX11_clear z am (mo am S r) = (gX11_clear  S).map (fun q2 => (q2.1, mo am q2.2 r)) := by
  unfold fX11_clear gX11_clear
  simp only [m_rdI, m_rdJ, m_rdR, m_obO, m_wrI, m_wrJ, m_arI2, m_arJ2, m_awI2, m_awJ2, o_bs, o_bm, o_mb, o_ms, o_mn, o_mi, o_bi, o_bn, mk_0, mk_1, mk_2, mk_3, mk_4, mk_5, mk_6, mk_7, mk_8, mk_9, mk_10, mk_11, mk_12, mk_13, mk_14, mk_15, mk_16, mk_17, mk_18, mk_19, mk_20, mk_21, mk_22, mk_23, mk_24, mk_25, mk_26, mk_27, mk_28, mk_29, mk_30, mk_31, mk_32, mk_33, mk_34, mk_35, mk_36, mk_37, mk_38, mk_39, mk_40, mk_41, mk_42, mk_43, mk_44, mk_45, mk_46, true_or, or_true]
def gX11_isRow_e (j1 : Int64) (S : mS) : Option (Int32 × mS) :=
  (gX11_in j1 0 (Int32.toInt64 ((S.1 13) - 1)) S).bind fun q101 =>
  some (q101.1, q101.2)
def gX11_isRow (j1 : Int64) (S : mS) : Option (Int32 × mS) := chkM (gX11_isRow_e j1 S)
set_option maxHeartbeats 4000000 in
set_option maxRecDepth 100000 in
theorem GX11_isRow (z : Nat → Nat) (am : Nat) (r : aH) (j1 : Int64) (S : mS) : fX11_isRow z am j1 (mo am S r) = (gX11_isRow j1 S).map (fun q2 => (q2.1, mo am q2.2 r)) := by
  unfold fX11_isRow gX11_isRow
  rw [← chk_map]
  congr 1
  unfold fX11_isRow_e gX11_isRow_e
  simp only [m_rdI, m_rdJ, m_rdR, m_obO, m_wrI, m_wrJ, m_arI2, m_arJ2, m_awI2, m_awJ2, o_bs, o_bm, o_mb, o_ms, o_mn, o_mi, o_bi, o_bn, mk_0, mk_1, mk_2, mk_3, mk_4, mk_5, mk_6, mk_7, mk_8, mk_9, mk_10, mk_11, mk_12, mk_13, mk_14, mk_15, mk_16, mk_17, mk_18, mk_19, mk_20, mk_21, mk_22, mk_23, mk_24, mk_25, mk_26, mk_27, mk_28, mk_29, mk_30, mk_31, mk_32, mk_33, mk_34, mk_35, mk_36, mk_37, mk_38, mk_39, mk_40, mk_41, mk_42, mk_43, mk_44, mk_45, mk_46, true_or, or_true, GX11_in]
def gX11_item (x1 : Int32) (x2 : Int32) (S : mS) : Option (Int32 × mS) :=
  (gX11_isRow (Int32.toInt64 x1) (sI S 0 0)).bind fun q101 =>
  (if q101.1 = 0 then
  some ((-2), q101.2)
  else
  (mrA q101.2 14 x1).bind fun x102 =>
  (gX11_in (Int32.toInt64 x2) 0 (Int32.toInt64 (x102 - 1)) q101.2).bind fun q103 =>
  (if q103.1 = 0 then
  some ((-2), q103.2)
  else
  (mrA (sI q103.2 23 0) 15 ((20 * x1) + x2)).bind fun x104 =>
  some (1, (sJ (sI q103.2 23 0) 24 (Int32.toInt64 x104)))))
set_option maxHeartbeats 4000000 in
set_option maxRecDepth 100000 in
theorem GX11_item (z : Nat → Nat) (am : Nat) (r : aH) (x1 : Int32) (x2 : Int32) (S : mS) : fX11_item z am x1 x2 (mo am S r) = (gX11_item x1 x2 S).map (fun q2 => (q2.1, mo am q2.2 r)) := by
  unfold fX11_item gX11_item
  simp only [m_rdI, m_rdJ, m_rdR, m_obO, m_wrI, m_wrJ, m_arI2, m_arJ2, m_awI2, m_awJ2, o_bs, o_bm, o_mb, o_ms, o_mn, o_mi, o_bi, o_bn, mk_0, mk_1, mk_2, mk_3, mk_4, mk_5, mk_6, mk_7, mk_8, mk_9, mk_10, mk_11, mk_12, mk_13, mk_14, mk_15, mk_16, mk_17, mk_18, mk_19, mk_20, mk_21, mk_22, mk_23, mk_24, mk_25, mk_26, mk_27, mk_28, mk_29, mk_30, mk_31, mk_32, mk_33, mk_34, mk_35, mk_36, mk_37, mk_38, mk_39, mk_40, mk_41, mk_42, mk_43, mk_44, mk_45, mk_46, true_or, or_true, GX11_in, GX11_isRow]
def gX11_linked (x1 : Int32) (S : mS) : Option (Int32 × mS) :=
  (gX11_in (Int32.toInt64 x1) 0 (Int32.toInt64 (((sI S 0 0).1 16) - 1)) (sI S 0 0)).bind fun q101 =>
  (if q101.1 = 0 then
  some ((-2), q101.2)
  else
  (mrA q101.2 19 x1).bind fun x102 =>
  some (x102, q101.2))
set_option maxHeartbeats 4000000 in
set_option maxRecDepth 100000 in
theorem GX11_linked (z : Nat → Nat) (am : Nat) (r : aH) (x1 : Int32) (S : mS) : fX11_linked z am x1 (mo am S r) = (gX11_linked x1 S).map (fun q2 => (q2.1, mo am q2.2 r)) := by
  unfold fX11_linked gX11_linked
  simp only [m_rdI, m_rdJ, m_rdR, m_obO, m_wrI, m_wrJ, m_arI2, m_arJ2, m_awI2, m_awJ2, o_bs, o_bm, o_mb, o_ms, o_mn, o_mi, o_bi, o_bn, mk_0, mk_1, mk_2, mk_3, mk_4, mk_5, mk_6, mk_7, mk_8, mk_9, mk_10, mk_11, mk_12, mk_13, mk_14, mk_15, mk_16, mk_17, mk_18, mk_19, mk_20, mk_21, mk_22, mk_23, mk_24, mk_25, mk_26, mk_27, mk_28, mk_29, mk_30, mk_31, mk_32, mk_33, mk_34, mk_35, mk_36, mk_37, mk_38, mk_39, mk_40, mk_41, mk_42, mk_43, mk_44, mk_45, mk_46, true_or, or_true, GX11_in]
def gX11_digit_7 : Nat → Int32 → Int32 → Int32 → mS → Option (Int32 × mS)
  | 0, _, _, _, _ => none
  | n + 1, x2, x3, x4, S => (if x4 ≤ x2 then
  some ((x3 - x3 / 10 * 10), S)
  else
  gX11_digit_7 n x2 (x3 / 10) (x4 + (-1)) S)
set_option maxHeartbeats 4000000 in
set_option maxRecDepth 100000 in
theorem GX11_digit_7 (z : Nat → Nat) (am : Nat) (r : aH) : ∀ (n : Nat) (x2 : Int32) (x3 : Int32) (x4 : Int32) (S : mS), fX11_digit_7 z n x2 x3 x4 (mo am S r) = (gX11_digit_7 n x2 x3 x4 S).map (fun q2 => (q2.1, mo am q2.2 r)) := by
  intro n
  induction n with
  | zero => intros; rfl
  | succ n ih =>
    intro x2 x3 x4 S
    rw [fX11_digit_7, gX11_digit_7]
    simp only [m_rdI, m_rdJ, m_rdR, m_obO, m_wrI, m_wrJ, m_arI2, m_arJ2, m_awI2, m_awJ2, o_bs, o_bm, o_mb, o_ms, o_mn, o_mi, o_bi, o_bn, mk_0, mk_1, mk_2, mk_3, mk_4, mk_5, mk_6, mk_7, mk_8, mk_9, mk_10, mk_11, mk_12, mk_13, mk_14, mk_15, mk_16, mk_17, mk_18, mk_19, mk_20, mk_21, mk_22, mk_23, mk_24, mk_25, mk_26, mk_27, mk_28, mk_29, mk_30, mk_31, mk_32, mk_33, mk_34, mk_35, mk_36, mk_37, mk_38, mk_39, mk_40, mk_41, mk_42, mk_43, mk_44, mk_45, mk_46, true_or, or_true, ih]
def gX11_digit (x0 : Int32) (x1 : Int32) (x2 : Int32) (S : mS) : Option (Int32 × mS) :=
  gX11_digit_7 4000 x2 x0 (x1 - 1) S
set_option maxHeartbeats 4000000 in
set_option maxRecDepth 100000 in
theorem GX11_digit (z : Nat → Nat) (am : Nat) (r : aH) (x0 : Int32) (x1 : Int32) (x2 : Int32) (S : mS) : fX11_digit z x0 x1 x2 (mo am S r) = (gX11_digit x0 x1 x2 S).map (fun q2 => (q2.1, mo am q2.2 r)) := by
  unfold fX11_digit gX11_digit
  simp only [m_rdI, m_rdJ, m_rdR, m_obO, m_wrI, m_wrJ, m_arI2, m_arJ2, m_awI2, m_awJ2, o_bs, o_bm, o_mb, o_ms, o_mn, o_mi, o_bi, o_bn, mk_0, mk_1, mk_2, mk_3, mk_4, mk_5, mk_6, mk_7, mk_8, mk_9, mk_10, mk_11, mk_12, mk_13, mk_14, mk_15, mk_16, mk_17, mk_18, mk_19, mk_20, mk_21, mk_22, mk_23, mk_24, mk_25, mk_26, mk_27, mk_28, mk_29, mk_30, mk_31, mk_32, mk_33, mk_34, mk_35, mk_36, mk_37, mk_38, mk_39, mk_40, mk_41, mk_42, mk_43, mk_44, mk_45, mk_46, true_or, or_true, (GX11_digit_7 z am r)]
def gX11_arePlaces_36 : Nat → Int32 → Int32 → Int32 → Int32 → mS → Option (Int32 × mS)
  | 0, _, _, _, _, _ => none
  | n + 1, x0, x1, x3, x4, S => (if x1 ≤ x4 then
  some (1, S)
  else
  (gX11_digit x0 x1 x4 S).bind fun q101 =>
  (if x1 ≤ q101.1 then
  some (0, q101.2)
  else
  (if ((x3 >>> (q101.1 &&& 31)) &&& 1) = 1 then
  some (0, q101.2)
  else
  gX11_arePlaces_36 n x0 x1 (x3 ||| (1 <<< (q101.1 &&& 31))) (x4 + 1) q101.2)))
set_option maxHeartbeats 4000000 in
set_option maxRecDepth 100000 in
theorem GX11_arePlaces_36 (z : Nat → Nat) (am : Nat) (r : aH) : ∀ (n : Nat) (x0 : Int32) (x1 : Int32) (x3 : Int32) (x4 : Int32) (S : mS), fX11_arePlaces_36 z n x0 x1 x3 x4 (mo am S r) = (gX11_arePlaces_36 n x0 x1 x3 x4 S).map (fun q2 => (q2.1, mo am q2.2 r)) := by
  intro n
  induction n with
  | zero => intros; rfl
  | succ n ih =>
    intro x0 x1 x3 x4 S
    rw [fX11_arePlaces_36, gX11_arePlaces_36]
    simp only [m_rdI, m_rdJ, m_rdR, m_obO, m_wrI, m_wrJ, m_arI2, m_arJ2, m_awI2, m_awJ2, o_bs, o_bm, o_mb, o_ms, o_mn, o_mi, o_bi, o_bn, mk_0, mk_1, mk_2, mk_3, mk_4, mk_5, mk_6, mk_7, mk_8, mk_9, mk_10, mk_11, mk_12, mk_13, mk_14, mk_15, mk_16, mk_17, mk_18, mk_19, mk_20, mk_21, mk_22, mk_23, mk_24, mk_25, mk_26, mk_27, mk_28, mk_29, mk_30, mk_31, mk_32, mk_33, mk_34, mk_35, mk_36, mk_37, mk_38, mk_39, mk_40, mk_41, mk_42, mk_43, mk_44, mk_45, mk_46, true_or, or_true, GX11_digit, ih]
def gX11_arePlaces_4 : Nat → Int32 → Int32 → Int32 → Int32 → mS → Option (Int32 × mS)
  | 0, _, _, _, _, _ => none
  | n + 1, x0, x1, x2, x3, S => (if x1 ≤ x3 then
  (if x0 < 0 then
  some (0, S)
  else
  (if x0 < x2 then
  gX11_arePlaces_36 4000 x0 x1 0 0 S
  else
  some (0, S)))
  else
  gX11_arePlaces_4 n x0 x1 (x2 * 10) (x3 + 1) S)
set_option maxHeartbeats 4000000 in
set_option maxRecDepth 100000 in
theorem GX11_arePlaces_4 (z : Nat → Nat) (am : Nat) (r : aH) : ∀ (n : Nat) (x0 : Int32) (x1 : Int32) (x2 : Int32) (x3 : Int32) (S : mS), fX11_arePlaces_4 z n x0 x1 x2 x3 (mo am S r) = (gX11_arePlaces_4 n x0 x1 x2 x3 S).map (fun q2 => (q2.1, mo am q2.2 r)) := by
  intro n
  induction n with
  | zero => intros; rfl
  | succ n ih =>
    intro x0 x1 x2 x3 S
    rw [fX11_arePlaces_4, gX11_arePlaces_4]
    simp only [m_rdI, m_rdJ, m_rdR, m_obO, m_wrI, m_wrJ, m_arI2, m_arJ2, m_awI2, m_awJ2, o_bs, o_bm, o_mb, o_ms, o_mn, o_mi, o_bi, o_bn, mk_0, mk_1, mk_2, mk_3, mk_4, mk_5, mk_6, mk_7, mk_8, mk_9, mk_10, mk_11, mk_12, mk_13, mk_14, mk_15, mk_16, mk_17, mk_18, mk_19, mk_20, mk_21, mk_22, mk_23, mk_24, mk_25, mk_26, mk_27, mk_28, mk_29, mk_30, mk_31, mk_32, mk_33, mk_34, mk_35, mk_36, mk_37, mk_38, mk_39, mk_40, mk_41, mk_42, mk_43, mk_44, mk_45, mk_46, true_or, or_true, (GX11_arePlaces_36 z am r), ih]
def gX11_arePlaces_e (x0 : Int32) (x1 : Int32) (S : mS) : Option (Int32 × mS) :=
  gX11_arePlaces_4 4000 x0 x1 1 0 S
def gX11_arePlaces (x0 : Int32) (x1 : Int32) (S : mS) : Option (Int32 × mS) := chkM (gX11_arePlaces_e x0 x1 S)
set_option maxHeartbeats 4000000 in
set_option maxRecDepth 100000 in
theorem GX11_arePlaces (z : Nat → Nat) (am : Nat) (r : aH) (x0 : Int32) (x1 : Int32) (S : mS) : fX11_arePlaces z x0 x1 (mo am S r) = (gX11_arePlaces x0 x1 S).map (fun q2 => (q2.1, mo am q2.2 r)) := by
  unfold fX11_arePlaces gX11_arePlaces
  rw [← chk_map]
  congr 1
  unfold fX11_arePlaces_e gX11_arePlaces_e
  simp only [m_rdI, m_rdJ, m_rdR, m_obO, m_wrI, m_wrJ, m_arI2, m_arJ2, m_awI2, m_awJ2, o_bs, o_bm, o_mb, o_ms, o_mn, o_mi, o_bi, o_bn, mk_0, mk_1, mk_2, mk_3, mk_4, mk_5, mk_6, mk_7, mk_8, mk_9, mk_10, mk_11, mk_12, mk_13, mk_14, mk_15, mk_16, mk_17, mk_18, mk_19, mk_20, mk_21, mk_22, mk_23, mk_24, mk_25, mk_26, mk_27, mk_28, mk_29, mk_30, mk_31, mk_32, mk_33, mk_34, mk_35, mk_36, mk_37, mk_38, mk_39, mk_40, mk_41, mk_42, mk_43, mk_44, mk_45, mk_46, true_or, or_true, (GX11_arePlaces_4 z am r)]
def gX11_isOutside_72 (x3 : Int32) (x5 : Int32) (S : mS) : Option (Int32 × mS) :=
  (gX11_in (Int32.toInt64 x3) 0 (Int32.toInt64 (x5 - 1)) S).bind fun q101 =>
  (if q101.1 = 0 then
  some (1, q101.2)
  else
  some (0, q101.2))
set_option maxHeartbeats 4000000 in
set_option maxRecDepth 100000 in
theorem GX11_isOutside_72 (z : Nat → Nat) (am : Nat) (r : aH) (x3 : Int32) (x5 : Int32) (S : mS) : fX11_isOutside_72 z x3 x5 (mo am S r) = (gX11_isOutside_72 x3 x5 S).map (fun q2 => (q2.1, mo am q2.2 r)) := by
  unfold fX11_isOutside_72 gX11_isOutside_72
  simp only [m_rdI, m_rdJ, m_rdR, m_obO, m_wrI, m_wrJ, m_arI2, m_arJ2, m_awI2, m_awJ2, o_bs, o_bm, o_mb, o_ms, o_mn, o_mi, o_bi, o_bn, mk_0, mk_1, mk_2, mk_3, mk_4, mk_5, mk_6, mk_7, mk_8, mk_9, mk_10, mk_11, mk_12, mk_13, mk_14, mk_15, mk_16, mk_17, mk_18, mk_19, mk_20, mk_21, mk_22, mk_23, mk_24, mk_25, mk_26, mk_27, mk_28, mk_29, mk_30, mk_31, mk_32, mk_33, mk_34, mk_35, mk_36, mk_37, mk_38, mk_39, mk_40, mk_41, mk_42, mk_43, mk_44, mk_45, mk_46, true_or, or_true, GX11_in]
def gX11_isOutside_206 (x1 : Int32) (S : mS) : Option (Int32 × mS) :=
  (gX11_in (Int32.toInt64 x1) 0 12 S).bind fun q101 =>
  (if q101.1 = 0 then
  some (1, q101.2)
  else
  some (0, q101.2))
set_option maxHeartbeats 4000000 in
set_option maxRecDepth 100000 in
theorem GX11_isOutside_206 (z : Nat → Nat) (am : Nat) (r : aH) (x1 : Int32) (S : mS) : fX11_isOutside_206 z x1 (mo am S r) = (gX11_isOutside_206 x1 S).map (fun q2 => (q2.1, mo am q2.2 r)) := by
  unfold fX11_isOutside_206 gX11_isOutside_206
  simp only [m_rdI, m_rdJ, m_rdR, m_obO, m_wrI, m_wrJ, m_arI2, m_arJ2, m_awI2, m_awJ2, o_bs, o_bm, o_mb, o_ms, o_mn, o_mi, o_bi, o_bn, mk_0, mk_1, mk_2, mk_3, mk_4, mk_5, mk_6, mk_7, mk_8, mk_9, mk_10, mk_11, mk_12, mk_13, mk_14, mk_15, mk_16, mk_17, mk_18, mk_19, mk_20, mk_21, mk_22, mk_23, mk_24, mk_25, mk_26, mk_27, mk_28, mk_29, mk_30, mk_31, mk_32, mk_33, mk_34, mk_35, mk_36, mk_37, mk_38, mk_39, mk_40, mk_41, mk_42, mk_43, mk_44, mk_45, mk_46, true_or, or_true, GX11_in]
def gX11_isOutside_e (x1 : Int32) (x2 : Int32) (x3 : Int32) (x4 : Int32) (S : mS) : Option (Int32 × mS) :=
  (mrA S 3 x2).bind fun x101 =>
  (if x1 = 0 then
  gX11_isOutside_72 x3 x101 S
  else
  (if x1 = 1 then
  (gX11_in (Int32.toInt64 x3) 0 (Int32.toInt64 x101) S).bind fun q102 =>
  (if q102.1 = 0 then
  some (1, q102.2)
  else
  (gX11_in (Int32.toInt64 x4) 0 3 q102.2).bind fun q103 =>
  (if q103.1 = 0 then
  some (1, q103.2)
  else
  some (0, q103.2)))
  else
  (if x1 = 2 then
  (gX11_arePlaces x3 x101 S).bind fun q104 =>
  (if q104.1 = 0 then
  some (1, q104.2)
  else
  some (0, q104.2))
  else
  (if x1 = 3 then
  gX11_isOutside_206 x1 S
  else
  (if x1 = 4 then
  gX11_isOutside_72 x3 x101 S
  else
  (if x1 = 5 then
  gX11_isOutside_206 x1 S
  else
  (if x1 = 6 then
  gX11_isOutside_206 x1 S
  else
  (if x1 = 7 then
  (gX11_in (Int32.toInt64 x3) 0 6 S).bind fun q105 =>
  (if q105.1 = 0 then
  (gX11_in (Int32.toInt64 x3) 100 199 q105.2).bind fun q106 =>
  (if q106.1 = 0 then
  some (1, q106.2)
  else
  some (0, q106.2))
  else
  some (0, q105.2))
  else
  (if x1 = 8 then
  gX11_isOutside_206 x1 S
  else
  (if x1 = 9 then
  gX11_isOutside_206 x1 S
  else
  (if x1 = 10 then
  (gX11_in (Int32.toInt64 x3) 1 6 S).bind fun q107 =>
  (if q107.1 = 0 then
  some (1, q107.2)
  else
  some (0, q107.2))
  else
  (if x1 = 11 then
  (gX11_in (Int32.toInt64 x3) 0 5 S).bind fun q108 =>
  (if q108.1 = 0 then
  some (1, q108.2)
  else
  some (0, q108.2))
  else
  gX11_isOutside_206 x1 S))))))))))))
def gX11_isOutside (x1 : Int32) (x2 : Int32) (x3 : Int32) (x4 : Int32) (S : mS) : Option (Int32 × mS) := chkM (gX11_isOutside_e x1 x2 x3 x4 S)
set_option maxHeartbeats 4000000 in
set_option maxRecDepth 100000 in
theorem GX11_isOutside (z : Nat → Nat) (am : Nat) (r : aH) (x1 : Int32) (x2 : Int32) (x3 : Int32) (x4 : Int32) (S : mS) : fX11_isOutside z am x1 x2 x3 x4 (mo am S r) = (gX11_isOutside x1 x2 x3 x4 S).map (fun q2 => (q2.1, mo am q2.2 r)) := by
  unfold fX11_isOutside gX11_isOutside
  rw [← chk_map]
  congr 1
  unfold fX11_isOutside_e gX11_isOutside_e
  simp only [m_rdI, m_rdJ, m_rdR, m_obO, m_wrI, m_wrJ, m_arI2, m_arJ2, m_awI2, m_awJ2, o_bs, o_bm, o_mb, o_ms, o_mn, o_mi, o_bi, o_bn, mk_0, mk_1, mk_2, mk_3, mk_4, mk_5, mk_6, mk_7, mk_8, mk_9, mk_10, mk_11, mk_12, mk_13, mk_14, mk_15, mk_16, mk_17, mk_18, mk_19, mk_20, mk_21, mk_22, mk_23, mk_24, mk_25, mk_26, mk_27, mk_28, mk_29, mk_30, mk_31, mk_32, mk_33, mk_34, mk_35, mk_36, mk_37, mk_38, mk_39, mk_40, mk_41, mk_42, mk_43, mk_44, mk_45, mk_46, true_or, or_true, (GX11_isOutside_206 z am r), (GX11_isOutside_72 z am r), GX11_arePlaces, GX11_in]
def gX11_newHandle_38 : Nat → Int32 → Int32 → Int32 → Int32 → Int32 → Int32 → Int32 → Int32 → mS → Option (Int32 × mS)
  | 0, _, _, _, _, _, _, _, _, _ => none
  | n + 1, x2, x3, x4, x5, x6, x7, x8, x9, S => (if (S.1 28) ≤ x9 then
  (mwA S 5 x8 x2).bind fun S101 =>
  (mwA S101 6 x8 x3).bind fun S102 =>
  (mwA S102 7 x8 x4).bind fun S103 =>
  (mwA S103 8 x8 x5).bind fun S104 =>
  (mwA S104 9 x8 x6).bind fun S105 =>
  (mwA S105 10 x8 x7).bind fun S106 =>
  some (x8, S106)
  else
  (mrA S 27 x9).bind fun x107 =>
  (mwA S 4 ((6 * x8) + x9) x107).bind fun S108 =>
  gX11_newHandle_38 n x2 x3 x4 x5 x6 x7 x8 (x9 + 1) S108)
set_option maxHeartbeats 4000000 in
set_option maxRecDepth 100000 in
theorem GX11_newHandle_38 (z : Nat → Nat) (am : Nat) (r : aH) : ∀ (n : Nat) (x2 : Int32) (x3 : Int32) (x4 : Int32) (x5 : Int32) (x6 : Int32) (x7 : Int32) (x8 : Int32) (x9 : Int32) (S : mS), fX11_newHandle_38 z n am x2 x3 x4 x5 x6 x7 x8 x9 (mo am S r) = (gX11_newHandle_38 n x2 x3 x4 x5 x6 x7 x8 x9 S).map (fun q2 => (q2.1, mo am q2.2 r)) := by
  intro n
  induction n with
  | zero => intros; rfl
  | succ n ih =>
    intro x2 x3 x4 x5 x6 x7 x8 x9 S
    rw [fX11_newHandle_38, gX11_newHandle_38]
    simp only [m_rdI, m_rdJ, m_rdR, m_obO, m_wrI, m_wrJ, m_arI2, m_arJ2, m_awI2, m_awJ2, o_bs, o_bm, o_mb, o_ms, o_mn, o_mi, o_bi, o_bn, mk_0, mk_1, mk_2, mk_3, mk_4, mk_5, mk_6, mk_7, mk_8, mk_9, mk_10, mk_11, mk_12, mk_13, mk_14, mk_15, mk_16, mk_17, mk_18, mk_19, mk_20, mk_21, mk_22, mk_23, mk_24, mk_25, mk_26, mk_27, mk_28, mk_29, mk_30, mk_31, mk_32, mk_33, mk_34, mk_35, mk_36, mk_37, mk_38, mk_39, mk_40, mk_41, mk_42, mk_43, mk_44, mk_45, mk_46, true_or, or_true, ih]
def gX11_newHandle (x1 : Int32) (x2 : Int32) (x3 : Int32) (x4 : Int32) (x5 : Int32) (x6 : Int32) (x7 : Int32) (S : mS) : Option (Int32 × mS) :=
  (mwA (sI S 1 ((S.1 1) + 1)) 2 (S.1 1) x1).bind fun S101 =>
  (mwA S101 3 (S.1 1) (S101.1 28)).bind fun S102 =>
  gX11_newHandle_38 4000 x2 x3 x4 x5 x6 x7 (S.1 1) 0 S102
set_option maxHeartbeats 4000000 in
set_option maxRecDepth 100000 in
theorem GX11_newHandle (z : Nat → Nat) (am : Nat) (r : aH) (x1 : Int32) (x2 : Int32) (x3 : Int32) (x4 : Int32) (x5 : Int32) (x6 : Int32) (x7 : Int32) (S : mS) : fX11_newHandle z am x1 x2 x3 x4 x5 x6 x7 (mo am S r) = (gX11_newHandle x1 x2 x3 x4 x5 x6 x7 S).map (fun q2 => (q2.1, mo am q2.2 r)) := by
  unfold fX11_newHandle gX11_newHandle
  simp only [m_rdI, m_rdJ, m_rdR, m_obO, m_wrI, m_wrJ, m_arI2, m_arJ2, m_awI2, m_awJ2, o_bs, o_bm, o_mb, o_ms, o_mn, o_mi, o_bi, o_bn, mk_0, mk_1, mk_2, mk_3, mk_4, mk_5, mk_6, mk_7, mk_8, mk_9, mk_10, mk_11, mk_12, mk_13, mk_14, mk_15, mk_16, mk_17, mk_18, mk_19, mk_20, mk_21, mk_22, mk_23, mk_24, mk_25, mk_26, mk_27, mk_28, mk_29, mk_30, mk_31, mk_32, mk_33, mk_34, mk_35, mk_36, mk_37, mk_38, mk_39, mk_40, mk_41, mk_42, mk_43, mk_44, mk_45, mk_46, true_or, or_true, (GX11_newHandle_38 z am r)]
def gX11_begins_30 : Nat → Int32 → Int32 → Int32 → Int32 → Int32 → Int32 → mS → Option (Int32 × mS)
  | 0, _, _, _, _, _, _, _ => none
  | n + 1, x1, x2, x3, x4, x5, x6, S => (mrA S 3 x1).bind fun x101 =>
  (if (x101 - x2) ≤ x6 then
  some (x5, S)
  else
  (if x5 = 0 then
  some (x5, S)
  else
  (mrA S 4 (((6 * x1) + x2) + x6)).bind fun x102 =>
  (mrA S 4 (((6 * x3) + x4) + x6)).bind fun x103 =>
  (if x102 = x103 then
  gX11_begins_30 n x1 x2 x3 x4 1 (x6 + 1) S
  else
  gX11_begins_30 n x1 x2 x3 x4 0 (x6 + 1) S)))
set_option maxHeartbeats 4000000 in
set_option maxRecDepth 100000 in
theorem GX11_begins_30 (z : Nat → Nat) (am : Nat) (r : aH) : ∀ (n : Nat) (x1 : Int32) (x2 : Int32) (x3 : Int32) (x4 : Int32) (x5 : Int32) (x6 : Int32) (S : mS), fX11_begins_30 z n am x1 x2 x3 x4 x5 x6 (mo am S r) = (gX11_begins_30 n x1 x2 x3 x4 x5 x6 S).map (fun q2 => (q2.1, mo am q2.2 r)) := by
  intro n
  induction n with
  | zero => intros; rfl
  | succ n ih =>
    intro x1 x2 x3 x4 x5 x6 S
    rw [fX11_begins_30, gX11_begins_30]
    simp only [m_rdI, m_rdJ, m_rdR, m_obO, m_wrI, m_wrJ, m_arI2, m_arJ2, m_awI2, m_awJ2, o_bs, o_bm, o_mb, o_ms, o_mn, o_mi, o_bi, o_bn, mk_0, mk_1, mk_2, mk_3, mk_4, mk_5, mk_6, mk_7, mk_8, mk_9, mk_10, mk_11, mk_12, mk_13, mk_14, mk_15, mk_16, mk_17, mk_18, mk_19, mk_20, mk_21, mk_22, mk_23, mk_24, mk_25, mk_26, mk_27, mk_28, mk_29, mk_30, mk_31, mk_32, mk_33, mk_34, mk_35, mk_36, mk_37, mk_38, mk_39, mk_40, mk_41, mk_42, mk_43, mk_44, mk_45, mk_46, true_or, or_true, ih]
def gX11_begins_e (x1 : Int32) (x2 : Int32) (x3 : Int32) (x4 : Int32) (S : mS) : Option (Int32 × mS) :=
  (mrA S 3 x1).bind fun x101 =>
  (mrA S 3 x3).bind fun x102 =>
  (if (x102 - x4) < (x101 - x2) then
  gX11_begins_30 4000 x1 x2 x3 x4 0 0 S
  else
  gX11_begins_30 4000 x1 x2 x3 x4 1 0 S)
def gX11_begins (x1 : Int32) (x2 : Int32) (x3 : Int32) (x4 : Int32) (S : mS) : Option (Int32 × mS) := chkM (gX11_begins_e x1 x2 x3 x4 S)
set_option maxHeartbeats 4000000 in
set_option maxRecDepth 100000 in
theorem GX11_begins (z : Nat → Nat) (am : Nat) (r : aH) (x1 : Int32) (x2 : Int32) (x3 : Int32) (x4 : Int32) (S : mS) : fX11_begins z am x1 x2 x3 x4 (mo am S r) = (gX11_begins x1 x2 x3 x4 S).map (fun q2 => (q2.1, mo am q2.2 r)) := by
  unfold fX11_begins gX11_begins
  rw [← chk_map]
  congr 1
  unfold fX11_begins_e gX11_begins_e
  simp only [m_rdI, m_rdJ, m_rdR, m_obO, m_wrI, m_wrJ, m_arI2, m_arJ2, m_awI2, m_awJ2, o_bs, o_bm, o_mb, o_ms, o_mn, o_mi, o_bi, o_bn, mk_0, mk_1, mk_2, mk_3, mk_4, mk_5, mk_6, mk_7, mk_8, mk_9, mk_10, mk_11, mk_12, mk_13, mk_14, mk_15, mk_16, mk_17, mk_18, mk_19, mk_20, mk_21, mk_22, mk_23, mk_24, mk_25, mk_26, mk_27, mk_28, mk_29, mk_30, mk_31, mk_32, mk_33, mk_34, mk_35, mk_36, mk_37, mk_38, mk_39, mk_40, mk_41, mk_42, mk_43, mk_44, mk_45, mk_46, true_or, or_true, (GX11_begins_30 z am r)]
def gX11_canAdapt_39 (x0 : Int32) (x1 : Int32) (S : mS) : Option (Int32 × mS) :=
  (if x0 = 2 then
  (if x1 = 0 then
  some (1, S)
  else
  (if x1 = 1 then
  some (1, S)
  else
  some (0, S)))
  else
  some (0, S))
set_option maxHeartbeats 4000000 in
set_option maxRecDepth 100000 in
theorem GX11_canAdapt_39 (z : Nat → Nat) (am : Nat) (r : aH) (x0 : Int32) (x1 : Int32) (S : mS) : fX11_canAdapt_39 z x0 x1 (mo am S r) = (gX11_canAdapt_39 x0 x1 S).map (fun q2 => (q2.1, mo am q2.2 r)) := by
  unfold fX11_canAdapt_39 gX11_canAdapt_39
  simp only [m_rdI, m_rdJ, m_rdR, m_obO, m_wrI, m_wrJ, m_arI2, m_arJ2, m_awI2, m_awJ2, o_bs, o_bm, o_mb, o_ms, o_mn, o_mi, o_bi, o_bn, mk_0, mk_1, mk_2, mk_3, mk_4, mk_5, mk_6, mk_7, mk_8, mk_9, mk_10, mk_11, mk_12, mk_13, mk_14, mk_15, mk_16, mk_17, mk_18, mk_19, mk_20, mk_21, mk_22, mk_23, mk_24, mk_25, mk_26, mk_27, mk_28, mk_29, mk_30, mk_31, mk_32, mk_33, mk_34, mk_35, mk_36, mk_37, mk_38, mk_39, mk_40, mk_41, mk_42, mk_43, mk_44, mk_45, mk_46, true_or, or_true]
def gX11_canAdapt_29 (x0 : Int32) (x1 : Int32) (S : mS) : Option (Int32 × mS) :=
  (if x0 = 1 then
  (if x1 = 2 then
  some (1, S)
  else
  gX11_canAdapt_39 x0 x1 S)
  else
  gX11_canAdapt_39 x0 x1 S)
set_option maxHeartbeats 4000000 in
set_option maxRecDepth 100000 in
theorem GX11_canAdapt_29 (z : Nat → Nat) (am : Nat) (r : aH) (x0 : Int32) (x1 : Int32) (S : mS) : fX11_canAdapt_29 z x0 x1 (mo am S r) = (gX11_canAdapt_29 x0 x1 S).map (fun q2 => (q2.1, mo am q2.2 r)) := by
  unfold fX11_canAdapt_29 gX11_canAdapt_29
  simp only [m_rdI, m_rdJ, m_rdR, m_obO, m_wrI, m_wrJ, m_arI2, m_arJ2, m_awI2, m_awJ2, o_bs, o_bm, o_mb, o_ms, o_mn, o_mi, o_bi, o_bn, mk_0, mk_1, mk_2, mk_3, mk_4, mk_5, mk_6, mk_7, mk_8, mk_9, mk_10, mk_11, mk_12, mk_13, mk_14, mk_15, mk_16, mk_17, mk_18, mk_19, mk_20, mk_21, mk_22, mk_23, mk_24, mk_25, mk_26, mk_27, mk_28, mk_29, mk_30, mk_31, mk_32, mk_33, mk_34, mk_35, mk_36, mk_37, mk_38, mk_39, mk_40, mk_41, mk_42, mk_43, mk_44, mk_45, mk_46, true_or, or_true, (GX11_canAdapt_39 z am r)]
def gX11_canAdapt_e (x0 : Int32) (x1 : Int32) (S : mS) : Option (Int32 × mS) :=
  (if x0 = x1 then
  some (1, S)
  else
  (if x1 = 4 then
  some (1, S)
  else
  (if x0 = 4 then
  some (1, S)
  else
  (if x0 = 0 then
  (if x1 = 1 then
  some (1, S)
  else
  (if x1 = 2 then
  some (1, S)
  else
  gX11_canAdapt_29 x0 x1 S))
  else
  gX11_canAdapt_29 x0 x1 S))))
def gX11_canAdapt (x0 : Int32) (x1 : Int32) (S : mS) : Option (Int32 × mS) := chkM (gX11_canAdapt_e x0 x1 S)
set_option maxHeartbeats 4000000 in
set_option maxRecDepth 100000 in
theorem GX11_canAdapt (z : Nat → Nat) (am : Nat) (r : aH) (x0 : Int32) (x1 : Int32) (S : mS) : fX11_canAdapt z x0 x1 (mo am S r) = (gX11_canAdapt x0 x1 S).map (fun q2 => (q2.1, mo am q2.2 r)) := by
  unfold fX11_canAdapt gX11_canAdapt
  rw [← chk_map]
  congr 1
  unfold fX11_canAdapt_e gX11_canAdapt_e
  simp only [m_rdI, m_rdJ, m_rdR, m_obO, m_wrI, m_wrJ, m_arI2, m_arJ2, m_awI2, m_awJ2, o_bs, o_bm, o_mb, o_ms, o_mn, o_mi, o_bi, o_bn, mk_0, mk_1, mk_2, mk_3, mk_4, mk_5, mk_6, mk_7, mk_8, mk_9, mk_10, mk_11, mk_12, mk_13, mk_14, mk_15, mk_16, mk_17, mk_18, mk_19, mk_20, mk_21, mk_22, mk_23, mk_24, mk_25, mk_26, mk_27, mk_28, mk_29, mk_30, mk_31, mk_32, mk_33, mk_34, mk_35, mk_36, mk_37, mk_38, mk_39, mk_40, mk_41, mk_42, mk_43, mk_44, mk_45, mk_46, true_or, or_true, (GX11_canAdapt_29 z am r)]
def gX11_comes (x1 : Int32) (j2 : Int64) (S : mS) : Option mS :=
  some (sJ (sI (sI S 29 0) 30 x1) 31 j2)
set_option maxHeartbeats 4000000 in
set_option maxRecDepth 100000 in
theorem GX11_comes (z : Nat → Nat) (am : Nat) (r : aH) (x1 : Int32) (j2 : Int64) (S : mS) : fX11_comes z am x1 j2 (mo am S r) = (gX11_comes x1 j2 S).map (fun S2 => mo am S2 r) := by
  unfold fX11_comes gX11_comes
  simp only [m_rdI, m_rdJ, m_rdR, m_obO, m_wrI, m_wrJ, m_arI2, m_arJ2, m_awI2, m_awJ2, o_bs, o_bm, o_mb, o_ms, o_mn, o_mi, o_bi, o_bn, mk_0, mk_1, mk_2, mk_3, mk_4, mk_5, mk_6, mk_7, mk_8, mk_9, mk_10, mk_11, mk_12, mk_13, mk_14, mk_15, mk_16, mk_17, mk_18, mk_19, mk_20, mk_21, mk_22, mk_23, mk_24, mk_25, mk_26, mk_27, mk_28, mk_29, mk_30, mk_31, mk_32, mk_33, mk_34, mk_35, mk_36, mk_37, mk_38, mk_39, mk_40, mk_41, mk_42, mk_43, mk_44, mk_45, mk_46, true_or, or_true]
def gX11_adapt (x1 : Int32) (x2 : Int32) (x3 : Int32) (j4 : Int64) (S : mS) : Option mS :=
  (gX11_comes x3 j4 S).bind fun q101 =>
  (if x1 = x2 then
  some q101
  else
  (if x2 = 4 then
  (gX11_comes 3 0 q101).bind fun q105 =>
  some q105
  else
  (if x1 = 4 then
  (if x2 = 0 then
  (gX11_comes 0 0 q101).bind fun q104 =>
  some q104
  else
  (if x2 = 1 then
  (gX11_comes 1 0 q101).bind fun q103 =>
  some q103
  else
  (gX11_comes 3 0 q101).bind fun q102 =>
  some q102))
  else
  (if x1 = 2 then
  (if x3 = 3 then
  some (sI (sI q101 29 3) 30 x2)
  else
  (if x2 = 0 then
  (if x3 = 1 then
  some (sI (sI q101 29 2) 30 x2)
  else
  some (sI (sI q101 29 0) 30 x2))
  else
  some (sI (sI q101 29 0) 30 x2)))
  else
  (if x2 = 1 then
  some (sI q101 30 1)
  else
  some q101)))))
set_option maxHeartbeats 4000000 in
set_option maxRecDepth 100000 in
theorem GX11_adapt (z : Nat → Nat) (am : Nat) (r : aH) (x1 : Int32) (x2 : Int32) (x3 : Int32) (j4 : Int64) (S : mS) : fX11_adapt z am x1 x2 x3 j4 (mo am S r) = (gX11_adapt x1 x2 x3 j4 S).map (fun S2 => mo am S2 r) := by
  unfold fX11_adapt gX11_adapt
  simp only [m_rdI, m_rdJ, m_rdR, m_obO, m_wrI, m_wrJ, m_arI2, m_arJ2, m_awI2, m_awJ2, o_bs, o_bm, o_mb, o_ms, o_mn, o_mi, o_bi, o_bn, mk_0, mk_1, mk_2, mk_3, mk_4, mk_5, mk_6, mk_7, mk_8, mk_9, mk_10, mk_11, mk_12, mk_13, mk_14, mk_15, mk_16, mk_17, mk_18, mk_19, mk_20, mk_21, mk_22, mk_23, mk_24, mk_25, mk_26, mk_27, mk_28, mk_29, mk_30, mk_31, mk_32, mk_33, mk_34, mk_35, mk_36, mk_37, mk_38, mk_39, mk_40, mk_41, mk_42, mk_43, mk_44, mk_45, mk_46, true_or, or_true, GX11_comes]
def gX11_typeOfValue (x1 : Int32) (x2 : Int32) (S : mS) : Option (Int32 × mS) :=
  (mrA S 21 x1).bind fun x101 =>
  (if x101 = 3 then
  (if x2 = 3 then
  some (3, S)
  else
  some (2, S))
  else
  (mrA S 21 x1).bind fun x102 =>
  (if x102 = 2 then
  some (3, S)
  else
  (mrA S 21 x1).bind fun x103 =>
  some (x103, S)))
set_option maxHeartbeats 4000000 in
set_option maxRecDepth 100000 in
theorem GX11_typeOfValue (z : Nat → Nat) (am : Nat) (r : aH) (x1 : Int32) (x2 : Int32) (S : mS) : fX11_typeOfValue z am x1 x2 (mo am S r) = (gX11_typeOfValue x1 x2 S).map (fun q2 => (q2.1, mo am q2.2 r)) := by
  unfold fX11_typeOfValue gX11_typeOfValue
  simp only [m_rdI, m_rdJ, m_rdR, m_obO, m_wrI, m_wrJ, m_arI2, m_arJ2, m_awI2, m_awJ2, o_bs, o_bm, o_mb, o_ms, o_mn, o_mi, o_bi, o_bn, mk_0, mk_1, mk_2, mk_3, mk_4, mk_5, mk_6, mk_7, mk_8, mk_9, mk_10, mk_11, mk_12, mk_13, mk_14, mk_15, mk_16, mk_17, mk_18, mk_19, mk_20, mk_21, mk_22, mk_23, mk_24, mk_25, mk_26, mk_27, mk_28, mk_29, mk_30, mk_31, mk_32, mk_33, mk_34, mk_35, mk_36, mk_37, mk_38, mk_39, mk_40, mk_41, mk_42, mk_43, mk_44, mk_45, mk_46, true_or, or_true]
def gX11_isBound_e (x1 : Int32) (x2 : Int32) (S : mS) : Option (Int32 × mS) :=
  (if (S.1 20) = 0 then
  some (0, S)
  else
  (mrA S 4 ((6 * x1) + x2)).bind fun x101 =>
  (gX11_typeOfValue 0 x101 S).bind fun q102 =>
  (gX11_canAdapt q102.1 x101 q102.2).bind fun q103 =>
  (if q103.1 = 0 then
  some (0, q103.2)
  else
  (mrA q103.2 21 0).bind fun x104 =>
  (mrB q103.2 22 0).bind fun j105 =>
  (gX11_adapt q102.1 x101 x104 j105 q103.2).bind fun q106 =>
  (if (q106.1 29) = 0 then
  some (1, q106)
  else
  some (0, q106))))
def gX11_isBound (x1 : Int32) (x2 : Int32) (S : mS) : Option (Int32 × mS) := chkM (gX11_isBound_e x1 x2 S)
set_option maxHeartbeats 4000000 in
set_option maxRecDepth 100000 in
theorem GX11_isBound (z : Nat → Nat) (am : Nat) (r : aH) (x1 : Int32) (x2 : Int32) (S : mS) : fX11_isBound z am x1 x2 (mo am S r) = (gX11_isBound x1 x2 S).map (fun q2 => (q2.1, mo am q2.2 r)) := by
  unfold fX11_isBound gX11_isBound
  rw [← chk_map]
  congr 1
  unfold fX11_isBound_e gX11_isBound_e
  simp only [m_rdI, m_rdJ, m_rdR, m_obO, m_wrI, m_wrJ, m_arI2, m_arJ2, m_awI2, m_awJ2, o_bs, o_bm, o_mb, o_ms, o_mn, o_mi, o_bi, o_bn, mk_0, mk_1, mk_2, mk_3, mk_4, mk_5, mk_6, mk_7, mk_8, mk_9, mk_10, mk_11, mk_12, mk_13, mk_14, mk_15, mk_16, mk_17, mk_18, mk_19, mk_20, mk_21, mk_22, mk_23, mk_24, mk_25, mk_26, mk_27, mk_28, mk_29, mk_30, mk_31, mk_32, mk_33, mk_34, mk_35, mk_36, mk_37, mk_38, mk_39, mk_40, mk_41, mk_42, mk_43, mk_44, mk_45, mk_46, true_or, or_true, GX11_adapt, GX11_canAdapt, GX11_typeOfValue]
def gX11_takeFrom_7 : Nat → Int32 → Int32 → mS → Option mS
  | 0, _, _, _ => none
  | n + 1, x1, x3, S => (mrA S 3 x1).bind fun x101 =>
  (if x101 ≤ x3 then
  some S
  else
  (mrA S 4 ((6 * x1) + x3)).bind fun x102 =>
  (mwA S 27 (S.1 28) x102).bind fun S103 =>
  gX11_takeFrom_7 n x1 (x3 + 1) (sI S103 28 ((S103.1 28) + 1)))
set_option maxHeartbeats 4000000 in
set_option maxRecDepth 100000 in
theorem GX11_takeFrom_7 (z : Nat → Nat) (am : Nat) (r : aH) : ∀ (n : Nat) (x1 : Int32) (x3 : Int32) (S : mS), fX11_takeFrom_7 z n am x1 x3 (mo am S r) = (gX11_takeFrom_7 n x1 x3 S).map (fun S2 => mo am S2 r) := by
  intro n
  induction n with
  | zero => intros; rfl
  | succ n ih =>
    intro x1 x3 S
    rw [fX11_takeFrom_7, gX11_takeFrom_7]
    simp only [m_rdI, m_rdJ, m_rdR, m_obO, m_wrI, m_wrJ, m_arI2, m_arJ2, m_awI2, m_awJ2, o_bs, o_bm, o_mb, o_ms, o_mn, o_mi, o_bi, o_bn, mk_0, mk_1, mk_2, mk_3, mk_4, mk_5, mk_6, mk_7, mk_8, mk_9, mk_10, mk_11, mk_12, mk_13, mk_14, mk_15, mk_16, mk_17, mk_18, mk_19, mk_20, mk_21, mk_22, mk_23, mk_24, mk_25, mk_26, mk_27, mk_28, mk_29, mk_30, mk_31, mk_32, mk_33, mk_34, mk_35, mk_36, mk_37, mk_38, mk_39, mk_40, mk_41, mk_42, mk_43, mk_44, mk_45, mk_46, true_or, or_true, ih]
def gX11_takeFrom (x1 : Int32) (x2 : Int32) (S : mS) : Option mS :=
  gX11_takeFrom_7 4000 x1 x2 (sI S 28 0)
set_option maxHeartbeats 4000000 in
set_option maxRecDepth 100000 in
theorem GX11_takeFrom (z : Nat → Nat) (am : Nat) (r : aH) (x1 : Int32) (x2 : Int32) (S : mS) : fX11_takeFrom z am x1 x2 (mo am S r) = (gX11_takeFrom x1 x2 S).map (fun S2 => mo am S2 r) := by
  unfold fX11_takeFrom gX11_takeFrom
  simp only [m_rdI, m_rdJ, m_rdR, m_obO, m_wrI, m_wrJ, m_arI2, m_arJ2, m_awI2, m_awJ2, o_bs, o_bm, o_mb, o_ms, o_mn, o_mi, o_bi, o_bn, mk_0, mk_1, mk_2, mk_3, mk_4, mk_5, mk_6, mk_7, mk_8, mk_9, mk_10, mk_11, mk_12, mk_13, mk_14, mk_15, mk_16, mk_17, mk_18, mk_19, mk_20, mk_21, mk_22, mk_23, mk_24, mk_25, mk_26, mk_27, mk_28, mk_29, mk_30, mk_31, mk_32, mk_33, mk_34, mk_35, mk_36, mk_37, mk_38, mk_39, mk_40, mk_41, mk_42, mk_43, mk_44, mk_45, mk_46, true_or, or_true, (GX11_takeFrom_7 z am r)]
def gX11_with_5 : Nat → Int32 → Int32 → Int32 → mS → Option mS
  | 0, _, _, _, _ => none
  | n + 1, x1, x2, x3, S => (if x3 ≤ x1 then
  (mwA S 27 x1 x2).bind fun S101 =>
  some (sI S101 28 ((S101.1 28) + 1))
  else
  (mrA S 27 (x3 - 1)).bind fun x102 =>
  (mwA S 27 x3 x102).bind fun S103 =>
  gX11_with_5 n x1 x2 (x3 + (-1)) S103)
set_option maxHeartbeats 4000000 in
set_option maxRecDepth 100000 in
theorem GX11_with_5 (z : Nat → Nat) (am : Nat) (r : aH) : ∀ (n : Nat) (x1 : Int32) (x2 : Int32) (x3 : Int32) (S : mS), fX11_with_5 z n am x1 x2 x3 (mo am S r) = (gX11_with_5 n x1 x2 x3 S).map (fun S2 => mo am S2 r) := by
  intro n
  induction n with
  | zero => intros; rfl
  | succ n ih =>
    intro x1 x2 x3 S
    rw [fX11_with_5, gX11_with_5]
    simp only [m_rdI, m_rdJ, m_rdR, m_obO, m_wrI, m_wrJ, m_arI2, m_arJ2, m_awI2, m_awJ2, o_bs, o_bm, o_mb, o_ms, o_mn, o_mi, o_bi, o_bn, mk_0, mk_1, mk_2, mk_3, mk_4, mk_5, mk_6, mk_7, mk_8, mk_9, mk_10, mk_11, mk_12, mk_13, mk_14, mk_15, mk_16, mk_17, mk_18, mk_19, mk_20, mk_21, mk_22, mk_23, mk_24, mk_25, mk_26, mk_27, mk_28, mk_29, mk_30, mk_31, mk_32, mk_33, mk_34, mk_35, mk_36, mk_37, mk_38, mk_39, mk_40, mk_41, mk_42, mk_43, mk_44, mk_45, mk_46, true_or, or_true, ih]
def gX11_with (x1 : Int32) (x2 : Int32) (S : mS) : Option mS :=
  gX11_with_5 4000 x1 x2 (S.1 28) S
set_option maxHeartbeats 4000000 in
set_option maxRecDepth 100000 in
theorem GX11_with (z : Nat → Nat) (am : Nat) (r : aH) (x1 : Int32) (x2 : Int32) (S : mS) : fX11_with z am x1 x2 (mo am S r) = (gX11_with x1 x2 S).map (fun S2 => mo am S2 r) := by
  unfold fX11_with gX11_with
  simp only [m_rdI, m_rdJ, m_rdR, m_obO, m_wrI, m_wrJ, m_arI2, m_arJ2, m_awI2, m_awJ2, o_bs, o_bm, o_mb, o_ms, o_mn, o_mi, o_bi, o_bn, mk_0, mk_1, mk_2, mk_3, mk_4, mk_5, mk_6, mk_7, mk_8, mk_9, mk_10, mk_11, mk_12, mk_13, mk_14, mk_15, mk_16, mk_17, mk_18, mk_19, mk_20, mk_21, mk_22, mk_23, mk_24, mk_25, mk_26, mk_27, mk_28, mk_29, mk_30, mk_31, mk_32, mk_33, mk_34, mk_35, mk_36, mk_37, mk_38, mk_39, mk_40, mk_41, mk_42, mk_43, mk_44, mk_45, mk_46, true_or, or_true, (GX11_with_5 z am r)]
def gX11_without_2 : Nat → Int32 → mS → Option mS
  | 0, _, _ => none
  | n + 1, x2, S => (if ((S.1 28) - 1) ≤ x2 then
  some (sI S 28 ((S.1 28) - 1))
  else
  (mrA S 27 (x2 + 1)).bind fun x101 =>
  (mwA S 27 x2 x101).bind fun S102 =>
  gX11_without_2 n (x2 + 1) S102)
set_option maxHeartbeats 4000000 in
set_option maxRecDepth 100000 in
theorem GX11_without_2 (z : Nat → Nat) (am : Nat) (r : aH) : ∀ (n : Nat) (x2 : Int32) (S : mS), fX11_without_2 z n am x2 (mo am S r) = (gX11_without_2 n x2 S).map (fun S2 => mo am S2 r) := by
  intro n
  induction n with
  | zero => intros; rfl
  | succ n ih =>
    intro x2 S
    rw [fX11_without_2, gX11_without_2]
    simp only [m_rdI, m_rdJ, m_rdR, m_obO, m_wrI, m_wrJ, m_arI2, m_arJ2, m_awI2, m_awJ2, o_bs, o_bm, o_mb, o_ms, o_mn, o_mi, o_bi, o_bn, mk_0, mk_1, mk_2, mk_3, mk_4, mk_5, mk_6, mk_7, mk_8, mk_9, mk_10, mk_11, mk_12, mk_13, mk_14, mk_15, mk_16, mk_17, mk_18, mk_19, mk_20, mk_21, mk_22, mk_23, mk_24, mk_25, mk_26, mk_27, mk_28, mk_29, mk_30, mk_31, mk_32, mk_33, mk_34, mk_35, mk_36, mk_37, mk_38, mk_39, mk_40, mk_41, mk_42, mk_43, mk_44, mk_45, mk_46, true_or, or_true, ih]
def gX11_without (x1 : Int32) (S : mS) : Option mS :=
  gX11_without_2 4000 x1 S
set_option maxHeartbeats 4000000 in
set_option maxRecDepth 100000 in
theorem GX11_without (z : Nat → Nat) (am : Nat) (r : aH) (x1 : Int32) (S : mS) : fX11_without z am x1 (mo am S r) = (gX11_without x1 S).map (fun S2 => mo am S2 r) := by
  unfold fX11_without gX11_without
  simp only [m_rdI, m_rdJ, m_rdR, m_obO, m_wrI, m_wrJ, m_arI2, m_arJ2, m_awI2, m_awJ2, o_bs, o_bm, o_mb, o_ms, o_mn, o_mi, o_bi, o_bn, mk_0, mk_1, mk_2, mk_3, mk_4, mk_5, mk_6, mk_7, mk_8, mk_9, mk_10, mk_11, mk_12, mk_13, mk_14, mk_15, mk_16, mk_17, mk_18, mk_19, mk_20, mk_21, mk_22, mk_23, mk_24, mk_25, mk_26, mk_27, mk_28, mk_29, mk_30, mk_31, mk_32, mk_33, mk_34, mk_35, mk_36, mk_37, mk_38, mk_39, mk_40, mk_41, mk_42, mk_43, mk_44, mk_45, mk_46, true_or, or_true, (GX11_without_2 z am r)]
def gX11_shape_132 : Nat → Int32 → Int32 → Int32 → Int32 → mS → Option (Int32 × mS)
  | 0, _, _, _, _, _ => none
  | n + 1, x2, x5, x7, x8, S => (if x7 ≤ x8 then
  (mrA S 5 x2).bind fun x101 =>
  some (x101, S)
  else
  (gX11_digit x5 x7 x8 S).bind fun q102 =>
  (mrA q102.2 4 ((6 * x2) + x8)).bind fun x103 =>
  (mwA q102.2 27 q102.1 x103).bind fun S104 =>
  gX11_shape_132 n x2 x5 x7 (x8 + 1) S104)
set_option maxHeartbeats 4000000 in
set_option maxRecDepth 100000 in
theorem GX11_shape_132 (z : Nat → Nat) (am : Nat) (r : aH) : ∀ (n : Nat) (x2 : Int32) (x5 : Int32) (x7 : Int32) (x8 : Int32) (S : mS), fX11_shape_132 z n am x2 x5 x7 x8 (mo am S r) = (gX11_shape_132 n x2 x5 x7 x8 S).map (fun q2 => (q2.1, mo am q2.2 r)) := by
  intro n
  induction n with
  | zero => intros; rfl
  | succ n ih =>
    intro x2 x5 x7 x8 S
    rw [fX11_shape_132, gX11_shape_132]
    simp only [m_rdI, m_rdJ, m_rdR, m_obO, m_wrI, m_wrJ, m_arI2, m_arJ2, m_awI2, m_awJ2, o_bs, o_bm, o_mb, o_ms, o_mn, o_mi, o_bi, o_bn, mk_0, mk_1, mk_2, mk_3, mk_4, mk_5, mk_6, mk_7, mk_8, mk_9, mk_10, mk_11, mk_12, mk_13, mk_14, mk_15, mk_16, mk_17, mk_18, mk_19, mk_20, mk_21, mk_22, mk_23, mk_24, mk_25, mk_26, mk_27, mk_28, mk_29, mk_30, mk_31, mk_32, mk_33, mk_34, mk_35, mk_36, mk_37, mk_38, mk_39, mk_40, mk_41, mk_42, mk_43, mk_44, mk_45, mk_46, true_or, or_true, GX11_digit, ih]
def gX11_shape_233 (x2 : Int32) (x3 : Int32) (x8 : Int32) (S : mS) : Option (Int32 × mS) :=
  (gX11_begins x3 0 x2 x8 S).bind fun q101 =>
  (if q101.1 = 0 then
  some ((-1), q101.2)
  else
  (mrA q101.2 5 x2).bind fun x102 =>
  some (x102, q101.2))
set_option maxHeartbeats 4000000 in
set_option maxRecDepth 100000 in
theorem GX11_shape_233 (z : Nat → Nat) (am : Nat) (r : aH) (x2 : Int32) (x3 : Int32) (x8 : Int32) (S : mS) : fX11_shape_233 z am x2 x3 x8 (mo am S r) = (gX11_shape_233 x2 x3 x8 S).map (fun q2 => (q2.1, mo am q2.2 r)) := by
  unfold fX11_shape_233 gX11_shape_233
  simp only [m_rdI, m_rdJ, m_rdR, m_obO, m_wrI, m_wrJ, m_arI2, m_arJ2, m_awI2, m_awJ2, o_bs, o_bm, o_mb, o_ms, o_mn, o_mi, o_bi, o_bn, mk_0, mk_1, mk_2, mk_3, mk_4, mk_5, mk_6, mk_7, mk_8, mk_9, mk_10, mk_11, mk_12, mk_13, mk_14, mk_15, mk_16, mk_17, mk_18, mk_19, mk_20, mk_21, mk_22, mk_23, mk_24, mk_25, mk_26, mk_27, mk_28, mk_29, mk_30, mk_31, mk_32, mk_33, mk_34, mk_35, mk_36, mk_37, mk_38, mk_39, mk_40, mk_41, mk_42, mk_43, mk_44, mk_45, mk_46, true_or, or_true, GX11_begins]
def gX11_shape_193 (x2 : Int32) (x3 : Int32) (x7 : Int32) (sx0 : Int32) (S : mS) : Option (Int32 × mS) :=
  (gX11_takeFrom x2 sx0 S).bind fun q101 =>
  (if x7 < sx0 then
  some ((-1), q101)
  else
  (if sx0 = 1 then
  (mrA q101 4 (6 * x2)).bind fun x102 =>
  (mrA q101 5 x3).bind fun x103 =>
  (if x102 = x103 then
  gX11_shape_233 x2 x3 sx0 q101
  else
  some ((-1), q101))
  else
  gX11_shape_233 x2 x3 sx0 q101))
set_option maxHeartbeats 4000000 in
set_option maxRecDepth 100000 in
theorem GX11_shape_193 (z : Nat → Nat) (am : Nat) (r : aH) (x2 : Int32) (x3 : Int32) (x7 : Int32) (sx0 : Int32) (S : mS) : fX11_shape_193 z am x2 x3 x7 sx0 (mo am S r) = (gX11_shape_193 x2 x3 x7 sx0 S).map (fun q2 => (q2.1, mo am q2.2 r)) := by
  unfold fX11_shape_193 gX11_shape_193
  simp only [m_rdI, m_rdJ, m_rdR, m_obO, m_wrI, m_wrJ, m_arI2, m_arJ2, m_awI2, m_awJ2, o_bs, o_bm, o_mb, o_ms, o_mn, o_mi, o_bi, o_bn, mk_0, mk_1, mk_2, mk_3, mk_4, mk_5, mk_6, mk_7, mk_8, mk_9, mk_10, mk_11, mk_12, mk_13, mk_14, mk_15, mk_16, mk_17, mk_18, mk_19, mk_20, mk_21, mk_22, mk_23, mk_24, mk_25, mk_26, mk_27, mk_28, mk_29, mk_30, mk_31, mk_32, mk_33, mk_34, mk_35, mk_36, mk_37, mk_38, mk_39, mk_40, mk_41, mk_42, mk_43, mk_44, mk_45, mk_46, true_or, or_true, (GX11_shape_233 z am r), GX11_takeFrom]
def gX11_shape_329 (x2 : Int32) (x3 : Int32) (sx0 : Int32) (S : mS) : Option (Int32 × mS) :=
  (mrA S 3 x3).bind fun x101 =>
  (if x101 = sx0 then
  (if sx0 = 1 then
  (mrA S 4 (6 * x3)).bind fun x103 =>
  (mrA S 5 x2).bind fun x104 =>
  (if x103 = x104 then
  (mrA S 5 x3).bind fun x105 =>
  some (x105, S)
  else
  some ((-1), S))
  else
  (mrA S 5 x3).bind fun x102 =>
  some (x102, S))
  else
  some ((-1), S))
set_option maxHeartbeats 4000000 in
set_option maxRecDepth 100000 in
theorem GX11_shape_329 (z : Nat → Nat) (am : Nat) (r : aH) (x2 : Int32) (x3 : Int32) (sx0 : Int32) (S : mS) : fX11_shape_329 z am x2 x3 sx0 (mo am S r) = (gX11_shape_329 x2 x3 sx0 S).map (fun q2 => (q2.1, mo am q2.2 r)) := by
  unfold fX11_shape_329 gX11_shape_329
  simp only [m_rdI, m_rdJ, m_rdR, m_obO, m_wrI, m_wrJ, m_arI2, m_arJ2, m_awI2, m_awJ2, o_bs, o_bm, o_mb, o_ms, o_mn, o_mi, o_bi, o_bn, mk_0, mk_1, mk_2, mk_3, mk_4, mk_5, mk_6, mk_7, mk_8, mk_9, mk_10, mk_11, mk_12, mk_13, mk_14, mk_15, mk_16, mk_17, mk_18, mk_19, mk_20, mk_21, mk_22, mk_23, mk_24, mk_25, mk_26, mk_27, mk_28, mk_29, mk_30, mk_31, mk_32, mk_33, mk_34, mk_35, mk_36, mk_37, mk_38, mk_39, mk_40, mk_41, mk_42, mk_43, mk_44, mk_45, mk_46, true_or, or_true]
def gX11_shape_528 (x2 : Int32) (sx0 : Int32) (sx1 : Int32) (S : mS) : Option (Int32 × mS) :=
  (if sx0 = sx1 then
  (mrA S 5 x2).bind fun x101 =>
  some (x101, S)
  else
  some ((-1), S))
set_option maxHeartbeats 4000000 in
set_option maxRecDepth 100000 in
theorem GX11_shape_528 (z : Nat → Nat) (am : Nat) (r : aH) (x2 : Int32) (sx0 : Int32) (sx1 : Int32) (S : mS) : fX11_shape_528 z am x2 sx0 sx1 (mo am S r) = (gX11_shape_528 x2 sx0 sx1 S).map (fun q2 => (q2.1, mo am q2.2 r)) := by
  unfold fX11_shape_528 gX11_shape_528
  simp only [m_rdI, m_rdJ, m_rdR, m_obO, m_wrI, m_wrJ, m_arI2, m_arJ2, m_awI2, m_awJ2, o_bs, o_bm, o_mb, o_ms, o_mn, o_mi, o_bi, o_bn, mk_0, mk_1, mk_2, mk_3, mk_4, mk_5, mk_6, mk_7, mk_8, mk_9, mk_10, mk_11, mk_12, mk_13, mk_14, mk_15, mk_16, mk_17, mk_18, mk_19, mk_20, mk_21, mk_22, mk_23, mk_24, mk_25, mk_26, mk_27, mk_28, mk_29, mk_30, mk_31, mk_32, mk_33, mk_34, mk_35, mk_36, mk_37, mk_38, mk_39, mk_40, mk_41, mk_42, mk_43, mk_44, mk_45, mk_46, true_or, or_true]
def gX11_shape_499 (x1 : Int32) (x2 : Int32) (x3 : Int32) (sx0 : Int32) (S : mS) : Option (Int32 × mS) :=
  (if sx0 = 0 then
  some ((-1), S)
  else
  (mrA S 5 x3).bind fun x101 =>
  (if x1 = 8 then
  gX11_shape_528 x2 x101 4 S
  else
  (mrA S 5 x2).bind fun x102 =>
  gX11_shape_528 x2 x101 x102 S))
set_option maxHeartbeats 4000000 in
set_option maxRecDepth 100000 in
theorem GX11_shape_499 (z : Nat → Nat) (am : Nat) (r : aH) (x1 : Int32) (x2 : Int32) (x3 : Int32) (sx0 : Int32) (S : mS) : fX11_shape_499 z am x1 x2 x3 sx0 (mo am S r) = (gX11_shape_499 x1 x2 x3 sx0 S).map (fun q2 => (q2.1, mo am q2.2 r)) := by
  unfold fX11_shape_499 gX11_shape_499
  simp only [m_rdI, m_rdJ, m_rdR, m_obO, m_wrI, m_wrJ, m_arI2, m_arJ2, m_awI2, m_awJ2, o_bs, o_bm, o_mb, o_ms, o_mn, o_mi, o_bi, o_bn, mk_0, mk_1, mk_2, mk_3, mk_4, mk_5, mk_6, mk_7, mk_8, mk_9, mk_10, mk_11, mk_12, mk_13, mk_14, mk_15, mk_16, mk_17, mk_18, mk_19, mk_20, mk_21, mk_22, mk_23, mk_24, mk_25, mk_26, mk_27, mk_28, mk_29, mk_30, mk_31, mk_32, mk_33, mk_34, mk_35, mk_36, mk_37, mk_38, mk_39, mk_40, mk_41, mk_42, mk_43, mk_44, mk_45, mk_46, true_or, or_true, (GX11_shape_528 z am r)]
def gX11_shape_498 (x1 : Int32) (x2 : Int32) (x3 : Int32) (S : mS) : Option (Int32 × mS) :=
  gX11_shape_499 x1 x2 x3 0 S
set_option maxHeartbeats 4000000 in
set_option maxRecDepth 100000 in
theorem GX11_shape_498 (z : Nat → Nat) (am : Nat) (r : aH) (x1 : Int32) (x2 : Int32) (x3 : Int32) (S : mS) : fX11_shape_498 z am x1 x2 x3 (mo am S r) = (gX11_shape_498 x1 x2 x3 S).map (fun q2 => (q2.1, mo am q2.2 r)) := by
  unfold fX11_shape_498 gX11_shape_498
  simp only [m_rdI, m_rdJ, m_rdR, m_obO, m_wrI, m_wrJ, m_arI2, m_arJ2, m_awI2, m_awJ2, o_bs, o_bm, o_mb, o_ms, o_mn, o_mi, o_bi, o_bn, mk_0, mk_1, mk_2, mk_3, mk_4, mk_5, mk_6, mk_7, mk_8, mk_9, mk_10, mk_11, mk_12, mk_13, mk_14, mk_15, mk_16, mk_17, mk_18, mk_19, mk_20, mk_21, mk_22, mk_23, mk_24, mk_25, mk_26, mk_27, mk_28, mk_29, mk_30, mk_31, mk_32, mk_33, mk_34, mk_35, mk_36, mk_37, mk_38, mk_39, mk_40, mk_41, mk_42, mk_43, mk_44, mk_45, mk_46, true_or, or_true, (GX11_shape_499 z am r)]
def gX11_shape_458 (x1 : Int32) (x2 : Int32) (x3 : Int32) (x7 : Int32) (S : mS) : Option (Int32 × mS) :=
  (mrA S 3 x3).bind fun x101 =>
  (if x101 = (x7 + 1) then
  (mrA S 4 (6 * x3)).bind fun x102 =>
  (if x102 = 0 then
  (gX11_begins x3 1 x2 0 S).bind fun q103 =>
  (if q103.1 = 0 then
  gX11_shape_498 x1 x2 x3 q103.2
  else
  gX11_shape_499 x1 x2 x3 1 q103.2)
  else
  gX11_shape_498 x1 x2 x3 S)
  else
  gX11_shape_498 x1 x2 x3 S)
set_option maxHeartbeats 4000000 in
set_option maxRecDepth 100000 in
theorem GX11_shape_458 (z : Nat → Nat) (am : Nat) (r : aH) (x1 : Int32) (x2 : Int32) (x3 : Int32) (x7 : Int32) (S : mS) : fX11_shape_458 z am x1 x2 x3 x7 (mo am S r) = (gX11_shape_458 x1 x2 x3 x7 S).map (fun q2 => (q2.1, mo am q2.2 r)) := by
  unfold fX11_shape_458 gX11_shape_458
  simp only [m_rdI, m_rdJ, m_rdR, m_obO, m_wrI, m_wrJ, m_arI2, m_arJ2, m_awI2, m_awJ2, o_bs, o_bm, o_mb, o_ms, o_mn, o_mi, o_bi, o_bn, mk_0, mk_1, mk_2, mk_3, mk_4, mk_5, mk_6, mk_7, mk_8, mk_9, mk_10, mk_11, mk_12, mk_13, mk_14, mk_15, mk_16, mk_17, mk_18, mk_19, mk_20, mk_21, mk_22, mk_23, mk_24, mk_25, mk_26, mk_27, mk_28, mk_29, mk_30, mk_31, mk_32, mk_33, mk_34, mk_35, mk_36, mk_37, mk_38, mk_39, mk_40, mk_41, mk_42, mk_43, mk_44, mk_45, mk_46, true_or, or_true, (GX11_shape_498 z am r), (GX11_shape_499 z am r), GX11_begins]
def gX11_shape_634 (x11 : Int32) (S : mS) : Option (Int32 × mS) :=
  some ((-1), S)
set_option maxHeartbeats 4000000 in
set_option maxRecDepth 100000 in
theorem GX11_shape_634 (z : Nat → Nat) (am : Nat) (r : aH) (x11 : Int32) (S : mS) : fX11_shape_634 z x11 (mo am S r) = (gX11_shape_634 x11 S).map (fun q2 => (q2.1, mo am q2.2 r)) := by
  unfold fX11_shape_634 gX11_shape_634
  simp only [m_rdI, m_rdJ, m_rdR, m_obO, m_wrI, m_wrJ, m_arI2, m_arJ2, m_awI2, m_awJ2, o_bs, o_bm, o_mb, o_ms, o_mn, o_mi, o_bi, o_bn, mk_0, mk_1, mk_2, mk_3, mk_4, mk_5, mk_6, mk_7, mk_8, mk_9, mk_10, mk_11, mk_12, mk_13, mk_14, mk_15, mk_16, mk_17, mk_18, mk_19, mk_20, mk_21, mk_22, mk_23, mk_24, mk_25, mk_26, mk_27, mk_28, mk_29, mk_30, mk_31, mk_32, mk_33, mk_34, mk_35, mk_36, mk_37, mk_38, mk_39, mk_40, mk_41, mk_42, mk_43, mk_44, mk_45, mk_46, true_or, or_true]
def gX11_shape_710 (x2 : Int32) (x5 : Int32) (x7 : Int32) (x13 : Int32) (S : mS) : Option (Int32 × mS) :=
  (if x13 = 0 then
  some ((-1), S)
  else
  (gX11_with ((sI S 28 (x7 - x5)).1 28) 3 (sI S 28 (x7 - x5))).bind fun q101 =>
  (mrA q101 5 x2).bind fun x102 =>
  some (x102, q101))
set_option maxHeartbeats 4000000 in
set_option maxRecDepth 100000 in
theorem GX11_shape_710 (z : Nat → Nat) (am : Nat) (r : aH) (x2 : Int32) (x5 : Int32) (x7 : Int32) (x13 : Int32) (S : mS) : fX11_shape_710 z am x2 x5 x7 x13 (mo am S r) = (gX11_shape_710 x2 x5 x7 x13 S).map (fun q2 => (q2.1, mo am q2.2 r)) := by
  unfold fX11_shape_710 gX11_shape_710
  simp only [m_rdI, m_rdJ, m_rdR, m_obO, m_wrI, m_wrJ, m_arI2, m_arJ2, m_awI2, m_awJ2, o_bs, o_bm, o_mb, o_ms, o_mn, o_mi, o_bi, o_bn, mk_0, mk_1, mk_2, mk_3, mk_4, mk_5, mk_6, mk_7, mk_8, mk_9, mk_10, mk_11, mk_12, mk_13, mk_14, mk_15, mk_16, mk_17, mk_18, mk_19, mk_20, mk_21, mk_22, mk_23, mk_24, mk_25, mk_26, mk_27, mk_28, mk_29, mk_30, mk_31, mk_32, mk_33, mk_34, mk_35, mk_36, mk_37, mk_38, mk_39, mk_40, mk_41, mk_42, mk_43, mk_44, mk_45, mk_46, true_or, or_true, GX11_with]
def gX11_shape_670 : Nat → Int32 → Int32 → Int32 → Int32 → Int32 → mS → Option (Int32 × mS)
  | 0, _, _, _, _, _, _ => none
  | n + 1, x2, x5, x7, x13, x14, S => (if x7 ≤ x14 then
  gX11_shape_710 x2 x5 x7 x13 S
  else
  (if x13 = 0 then
  gX11_shape_710 x2 x5 x7 x13 S
  else
  (mrA S 4 ((6 * x2) + x14)).bind fun x101 =>
  (if x101 = 0 then
  gX11_shape_670 n x2 x5 x7 1 (x14 + 1) S
  else
  gX11_shape_670 n x2 x5 x7 0 (x14 + 1) S)))
set_option maxHeartbeats 4000000 in
set_option maxRecDepth 100000 in
theorem GX11_shape_670 (z : Nat → Nat) (am : Nat) (r : aH) : ∀ (n : Nat) (x2 : Int32) (x5 : Int32) (x7 : Int32) (x13 : Int32) (x14 : Int32) (S : mS), fX11_shape_670 z n am x2 x5 x7 x13 x14 (mo am S r) = (gX11_shape_670 n x2 x5 x7 x13 x14 S).map (fun q2 => (q2.1, mo am q2.2 r)) := by
  intro n
  induction n with
  | zero => intros; rfl
  | succ n ih =>
    intro x2 x5 x7 x13 x14 S
    rw [fX11_shape_670, gX11_shape_670]
    simp only [m_rdI, m_rdJ, m_rdR, m_obO, m_wrI, m_wrJ, m_arI2, m_arJ2, m_awI2, m_awJ2, o_bs, o_bm, o_mb, o_ms, o_mn, o_mi, o_bi, o_bn, mk_0, mk_1, mk_2, mk_3, mk_4, mk_5, mk_6, mk_7, mk_8, mk_9, mk_10, mk_11, mk_12, mk_13, mk_14, mk_15, mk_16, mk_17, mk_18, mk_19, mk_20, mk_21, mk_22, mk_23, mk_24, mk_25, mk_26, mk_27, mk_28, mk_29, mk_30, mk_31, mk_32, mk_33, mk_34, mk_35, mk_36, mk_37, mk_38, mk_39, mk_40, mk_41, mk_42, mk_43, mk_44, mk_45, mk_46, true_or, or_true, (GX11_shape_710 z am r), ih]
def gX11_shape_790 : Nat → Int32 → Int32 → Int32 → mS → Option (Int32 × mS)
  | 0, _, _, _, _ => none
  | n + 1, x2, x5, x14, S => (if x5 ≤ x14 then
  (mrA S 5 x2).bind fun x101 =>
  some (x101, S)
  else
  (gX11_with (S.1 28) 0 S).bind fun q102 =>
  gX11_shape_790 n x2 x5 (x14 + 1) q102)
set_option maxHeartbeats 4000000 in
set_option maxRecDepth 100000 in
theorem GX11_shape_790 (z : Nat → Nat) (am : Nat) (r : aH) : ∀ (n : Nat) (x2 : Int32) (x5 : Int32) (x14 : Int32) (S : mS), fX11_shape_790 z n am x2 x5 x14 (mo am S r) = (gX11_shape_790 n x2 x5 x14 S).map (fun q2 => (q2.1, mo am q2.2 r)) := by
  intro n
  induction n with
  | zero => intros; rfl
  | succ n ih =>
    intro x2 x5 x14 S
    rw [fX11_shape_790, gX11_shape_790]
    simp only [m_rdI, m_rdJ, m_rdR, m_obO, m_wrI, m_wrJ, m_arI2, m_arJ2, m_awI2, m_awJ2, o_bs, o_bm, o_mb, o_ms, o_mn, o_mi, o_bi, o_bn, mk_0, mk_1, mk_2, mk_3, mk_4, mk_5, mk_6, mk_7, mk_8, mk_9, mk_10, mk_11, mk_12, mk_13, mk_14, mk_15, mk_16, mk_17, mk_18, mk_19, mk_20, mk_21, mk_22, mk_23, mk_24, mk_25, mk_26, mk_27, mk_28, mk_29, mk_30, mk_31, mk_32, mk_33, mk_34, mk_35, mk_36, mk_37, mk_38, mk_39, mk_40, mk_41, mk_42, mk_43, mk_44, mk_45, mk_46, true_or, or_true, GX11_with, ih]
def gX11_shape_905 (x3 : Int32) (x14 : Int32) (S : mS) : Option (Int32 × mS) :=
  (gX11_takeFrom x3 0 S).bind fun q101 =>
  (if x14 = 0 then
  some ((-1), q101)
  else
  (mrA q101 5 x3).bind fun x102 =>
  some (x102, q101))
set_option maxHeartbeats 4000000 in
set_option maxRecDepth 100000 in
theorem GX11_shape_905 (z : Nat → Nat) (am : Nat) (r : aH) (x3 : Int32) (x14 : Int32) (S : mS) : fX11_shape_905 z am x3 x14 (mo am S r) = (gX11_shape_905 x3 x14 S).map (fun q2 => (q2.1, mo am q2.2 r)) := by
  unfold fX11_shape_905 gX11_shape_905
  simp only [m_rdI, m_rdJ, m_rdR, m_obO, m_wrI, m_wrJ, m_arI2, m_arJ2, m_awI2, m_awJ2, o_bs, o_bm, o_mb, o_ms, o_mn, o_mi, o_bi, o_bn, mk_0, mk_1, mk_2, mk_3, mk_4, mk_5, mk_6, mk_7, mk_8, mk_9, mk_10, mk_11, mk_12, mk_13, mk_14, mk_15, mk_16, mk_17, mk_18, mk_19, mk_20, mk_21, mk_22, mk_23, mk_24, mk_25, mk_26, mk_27, mk_28, mk_29, mk_30, mk_31, mk_32, mk_33, mk_34, mk_35, mk_36, mk_37, mk_38, mk_39, mk_40, mk_41, mk_42, mk_43, mk_44, mk_45, mk_46, true_or, or_true, GX11_takeFrom]
def gX11_shape_858 : Nat → Int32 → Int32 → Int32 → Int32 → Int32 → mS → Option (Int32 × mS)
  | 0, _, _, _, _, _, _ => none
  | n + 1, x2, x3, x7, x14, x15, S => (if x7 ≤ x15 then
  gX11_shape_905 x3 x14 S
  else
  (if x14 = 0 then
  gX11_shape_905 x3 x14 S
  else
  (mrA S 4 ((6 * x3) + x15)).bind fun x101 =>
  (mrA S 4 ((6 * x2) + x15)).bind fun x102 =>
  (gX11_canAdapt x101 x102 S).bind fun q103 =>
  gX11_shape_858 n x2 x3 x7 q103.1 (x15 + 1) q103.2))
set_option maxHeartbeats 4000000 in
set_option maxRecDepth 100000 in
theorem GX11_shape_858 (z : Nat → Nat) (am : Nat) (r : aH) : ∀ (n : Nat) (x2 : Int32) (x3 : Int32) (x7 : Int32) (x14 : Int32) (x15 : Int32) (S : mS), fX11_shape_858 z n am x2 x3 x7 x14 x15 (mo am S r) = (gX11_shape_858 n x2 x3 x7 x14 x15 S).map (fun q2 => (q2.1, mo am q2.2 r)) := by
  intro n
  induction n with
  | zero => intros; rfl
  | succ n ih =>
    intro x2 x3 x7 x14 x15 S
    rw [fX11_shape_858, gX11_shape_858]
    simp only [m_rdI, m_rdJ, m_rdR, m_obO, m_wrI, m_wrJ, m_arI2, m_arJ2, m_awI2, m_awJ2, o_bs, o_bm, o_mb, o_ms, o_mn, o_mi, o_bi, o_bn, mk_0, mk_1, mk_2, mk_3, mk_4, mk_5, mk_6, mk_7, mk_8, mk_9, mk_10, mk_11, mk_12, mk_13, mk_14, mk_15, mk_16, mk_17, mk_18, mk_19, mk_20, mk_21, mk_22, mk_23, mk_24, mk_25, mk_26, mk_27, mk_28, mk_29, mk_30, mk_31, mk_32, mk_33, mk_34, mk_35, mk_36, mk_37, mk_38, mk_39, mk_40, mk_41, mk_42, mk_43, mk_44, mk_45, mk_46, true_or, or_true, (GX11_shape_905 z am r), GX11_canAdapt, ih]
def gX11_shape (x1 : Int32) (x2 : Int32) (x3 : Int32) (x4 : Int32) (x5 : Int32) (x6 : Int32) (S : mS) : Option (Int32 × mS) :=
  (mrA S 3 x2).bind fun x101 =>
  (gX11_takeFrom x2 0 S).bind fun q102 =>
  (if x1 = 0 then
  (gX11_isBound x2 x5 q102).bind fun q103 =>
  (if q103.1 = 0 then
  some ((-1), q103.2)
  else
  (gX11_without x5 q103.2).bind fun q104 =>
  (mrA q104 5 x2).bind fun x105 =>
  some (x105, q104))
  else
  (if x1 = 1 then
  (gX11_with x5 x6 q102).bind fun q106 =>
  (if (q106.1 28) ≤ 6 then
  (mrA q106 5 x2).bind fun x107 =>
  some (x107, q106)
  else
  some ((-1), q106))
  else
  (if x1 = 2 then
  gX11_shape_132 4000 x2 x5 x101 0 q102
  else
  (if x1 = 3 then
  (mrA q102 5 x3).bind fun x108 =>
  (if x108 = 4 then
  gX11_shape_193 x2 x3 x101 0 q102
  else
  gX11_shape_193 x2 x3 x101 1 q102)
  else
  (if x1 = 4 then
  (mrA q102 4 (6 * x3)).bind fun x109 =>
  (mwA q102 27 x5 x109).bind fun S110 =>
  (mrA S110 3 x3).bind fun x111 =>
  (if x111 = 1 then
  (mrA S110 5 x3).bind fun x112 =>
  (mrA S110 4 ((6 * x2) + x5)).bind fun x113 =>
  (if x112 = x113 then
  (mrA S110 5 x2).bind fun x114 =>
  some (x114, S110)
  else
  some ((-1), S110))
  else
  some ((-1), S110))
  else
  (if x1 = 5 then
  (mrA q102 5 x2).bind fun x115 =>
  (if x115 = 4 then
  gX11_shape_329 x2 x3 0 q102
  else
  gX11_shape_329 x2 x3 1 q102)
  else
  (if x1 = 6 then
  (gX11_takeFrom x3 0 q102).bind fun q116 =>
  (mrA q116 5 x2).bind fun x117 =>
  (if x117 = 0 then
  (gX11_begins x2 0 x3 0 q116).bind fun q118 =>
  (if q118.1 = 0 then
  some ((-1), q118.2)
  else
  (mrA q118.2 3 x3).bind fun x119 =>
  (mrA q118.2 3 x4).bind fun x120 =>
  (if x119 = x120 then
  (gX11_begins x3 0 x4 0 q118.2).bind fun q121 =>
  (if q121.1 = 0 then
  some ((-1), q121.2)
  else
  (mrA q121.2 5 x3).bind fun x122 =>
  (mrA q121.2 5 x4).bind fun x123 =>
  (if x122 = x123 then
  (mrA q121.2 5 x3).bind fun x124 =>
  some (x124, q121.2)
  else
  some ((-1), q121.2)))
  else
  some ((-1), q118.2)))
  else
  some ((-1), q116))
  else
  (if x1 = 7 then
  gX11_shape_458 x1 x2 x3 x101 q102
  else
  (if x1 = 8 then
  gX11_shape_458 x1 x2 x3 x101 q102
  else
  (if x1 = 9 then
  (mrA q102 5 x4).bind fun x125 =>
  (if x101 = 0 then
  (mrA q102 5 x2).bind fun x126 =>
  (if x126 = 0 then
  (mrA q102 3 x4).bind fun x127 =>
  (if x127 = 0 then
  (if x125 = 4 then
  gX11_shape_634 x125 q102
  else
  (mrA q102 3 x3).bind fun x128 =>
  (if x128 = 2 then
  (mrA q102 4 (6 * x3)).bind fun x129 =>
  (if x129 = x125 then
  (mrA q102 4 ((6 * x3) + 1)).bind fun x130 =>
  (if x130 = 0 then
  (mrA q102 5 x3).bind fun x131 =>
  (if x131 = x125 then
  some (x125, q102)
  else
  gX11_shape_634 x125 q102)
  else
  gX11_shape_634 x125 q102)
  else
  gX11_shape_634 x125 q102)
  else
  gX11_shape_634 x125 q102))
  else
  gX11_shape_634 x125 q102)
  else
  gX11_shape_634 x125 q102)
  else
  gX11_shape_634 x125 q102)
  else
  (if x1 = 10 then
  (if x101 < x5 then
  gX11_shape_670 4000 x2 x5 x101 0 (x101 - x5) q102
  else
  gX11_shape_670 4000 x2 x5 x101 1 (x101 - x5) q102)
  else
  (if x1 = 11 then
  (if x101 = 0 then
  some ((-1), q102)
  else
  (mrA q102 4 (((6 * x2) + x101) - 1)).bind fun x132 =>
  (if x132 = 3 then
  (if ((x101 - 1) + x5) ≤ 6 then
  gX11_shape_790 4000 x2 x5 0 (sI q102 28 (x101 - 1))
  else
  some ((-1), q102))
  else
  some ((-1), q102)))
  else
  (mrA q102 3 x3).bind fun x133 =>
  (if x133 = x101 then
  (mrA q102 5 x2).bind fun x134 =>
  (mrA q102 5 x3).bind fun x135 =>
  (gX11_canAdapt x134 x135 q102).bind fun q136 =>
  (if q136.1 = 0 then
  gX11_shape_858 4000 x2 x3 x101 0 0 q136.2
  else
  gX11_shape_858 4000 x2 x3 x101 1 0 q136.2)
  else
  gX11_shape_858 4000 x2 x3 x101 0 0 q102)))))))))))))
set_option maxHeartbeats 4000000 in
set_option maxRecDepth 100000 in
theorem GX11_shape (z : Nat → Nat) (am : Nat) (r : aH) (x1 : Int32) (x2 : Int32) (x3 : Int32) (x4 : Int32) (x5 : Int32) (x6 : Int32) (S : mS) : fX11_shape z am x1 x2 x3 x4 x5 x6 (mo am S r) = (gX11_shape x1 x2 x3 x4 x5 x6 S).map (fun q2 => (q2.1, mo am q2.2 r)) := by
  unfold fX11_shape gX11_shape
  simp only [m_rdI, m_rdJ, m_rdR, m_obO, m_wrI, m_wrJ, m_arI2, m_arJ2, m_awI2, m_awJ2, o_bs, o_bm, o_mb, o_ms, o_mn, o_mi, o_bi, o_bn, mk_0, mk_1, mk_2, mk_3, mk_4, mk_5, mk_6, mk_7, mk_8, mk_9, mk_10, mk_11, mk_12, mk_13, mk_14, mk_15, mk_16, mk_17, mk_18, mk_19, mk_20, mk_21, mk_22, mk_23, mk_24, mk_25, mk_26, mk_27, mk_28, mk_29, mk_30, mk_31, mk_32, mk_33, mk_34, mk_35, mk_36, mk_37, mk_38, mk_39, mk_40, mk_41, mk_42, mk_43, mk_44, mk_45, mk_46, true_or, or_true, (GX11_shape_132 z am r), (GX11_shape_193 z am r), (GX11_shape_329 z am r), (GX11_shape_458 z am r), (GX11_shape_634 z am r), (GX11_shape_670 z am r), (GX11_shape_790 z am r), (GX11_shape_858 z am r), GX11_begins, GX11_canAdapt, GX11_isBound, GX11_takeFrom, GX11_with, GX11_without]
def gX11_other_65 (x1 : Int32) (x2 : Int32) (x3 : Int32) (x4 : Int32) (x5 : Int32) (x6 : Int32) (S : mS) : Option (Int32 × mS) :=
  (gX11_isOutside x1 x2 x5 x6 S).bind fun q101 =>
  (if q101.1 = 0 then
  (gX11_shape x1 x2 x3 x4 x5 x6 q101.2).bind fun q102 =>
  (if 0 ≤ q102.1 then
  (if (q102.2.1 1) = 60 then
  some ((-5), q102.2)
  else
  (gX11_newHandle (20 + x1) q102.1 x2 x3 x4 x5 x6 q102.2).bind fun q103 =>
  (mwA q103.2 11 q103.1 (q103.2.1 30)).bind fun S104 =>
  (mwB S104 12 q103.1 (S104.2.1 31)).bind fun S105 =>
  some (q103.1, S105))
  else
  some ((-4), q102.2))
  else
  some ((-3), q101.2))
set_option maxHeartbeats 4000000 in
set_option maxRecDepth 100000 in
theorem GX11_other_65 (z : Nat → Nat) (am : Nat) (r : aH) (x1 : Int32) (x2 : Int32) (x3 : Int32) (x4 : Int32) (x5 : Int32) (x6 : Int32) (S : mS) : fX11_other_65 z am x1 x2 x3 x4 x5 x6 (mo am S r) = (gX11_other_65 x1 x2 x3 x4 x5 x6 S).map (fun q2 => (q2.1, mo am q2.2 r)) := by
  unfold fX11_other_65 gX11_other_65
  simp only [m_rdI, m_rdJ, m_rdR, m_obO, m_wrI, m_wrJ, m_arI2, m_arJ2, m_awI2, m_awJ2, o_bs, o_bm, o_mb, o_ms, o_mn, o_mi, o_bi, o_bn, mk_0, mk_1, mk_2, mk_3, mk_4, mk_5, mk_6, mk_7, mk_8, mk_9, mk_10, mk_11, mk_12, mk_13, mk_14, mk_15, mk_16, mk_17, mk_18, mk_19, mk_20, mk_21, mk_22, mk_23, mk_24, mk_25, mk_26, mk_27, mk_28, mk_29, mk_30, mk_31, mk_32, mk_33, mk_34, mk_35, mk_36, mk_37, mk_38, mk_39, mk_40, mk_41, mk_42, mk_43, mk_44, mk_45, mk_46, true_or, or_true, GX11_isOutside, GX11_newHandle, GX11_shape]
def gX11_other_53 (x1 : Int32) (x2 : Int32) (x3 : Int32) (x4 : Int32) (x5 : Int32) (x6 : Int32) (S : mS) : Option (Int32 × mS) :=
  (gX11_isHandle x4 S).bind fun q101 =>
  (if q101.1 = 0 then
  some ((-2), q101.2)
  else
  gX11_other_65 x1 x2 x3 x4 x5 x6 q101.2)
set_option maxHeartbeats 4000000 in
set_option maxRecDepth 100000 in
theorem GX11_other_53 (z : Nat → Nat) (am : Nat) (r : aH) (x1 : Int32) (x2 : Int32) (x3 : Int32) (x4 : Int32) (x5 : Int32) (x6 : Int32) (S : mS) : fX11_other_53 z am x1 x2 x3 x4 x5 x6 (mo am S r) = (gX11_other_53 x1 x2 x3 x4 x5 x6 S).map (fun q2 => (q2.1, mo am q2.2 r)) := by
  unfold fX11_other_53 gX11_other_53
  simp only [m_rdI, m_rdJ, m_rdR, m_obO, m_wrI, m_wrJ, m_arI2, m_arJ2, m_awI2, m_awJ2, o_bs, o_bm, o_mb, o_ms, o_mn, o_mi, o_bi, o_bn, mk_0, mk_1, mk_2, mk_3, mk_4, mk_5, mk_6, mk_7, mk_8, mk_9, mk_10, mk_11, mk_12, mk_13, mk_14, mk_15, mk_16, mk_17, mk_18, mk_19, mk_20, mk_21, mk_22, mk_23, mk_24, mk_25, mk_26, mk_27, mk_28, mk_29, mk_30, mk_31, mk_32, mk_33, mk_34, mk_35, mk_36, mk_37, mk_38, mk_39, mk_40, mk_41, mk_42, mk_43, mk_44, mk_45, mk_46, true_or, or_true, (GX11_other_65 z am r), GX11_isHandle]
def gX11_other_41 (x1 : Int32) (x2 : Int32) (x3 : Int32) (x4 : Int32) (x5 : Int32) (x6 : Int32) (S : mS) : Option (Int32 × mS) :=
  (if x1 = 6 then
  gX11_other_53 x1 x2 x3 x4 x5 x6 S
  else
  (if x1 = 9 then
  gX11_other_53 x1 x2 x3 x4 x5 x6 S
  else
  gX11_other_65 x1 x2 x3 x4 x5 x6 S))
set_option maxHeartbeats 4000000 in
set_option maxRecDepth 100000 in
theorem GX11_other_41 (z : Nat → Nat) (am : Nat) (r : aH) (x1 : Int32) (x2 : Int32) (x3 : Int32) (x4 : Int32) (x5 : Int32) (x6 : Int32) (S : mS) : fX11_other_41 z am x1 x2 x3 x4 x5 x6 (mo am S r) = (gX11_other_41 x1 x2 x3 x4 x5 x6 S).map (fun q2 => (q2.1, mo am q2.2 r)) := by
  unfold fX11_other_41 gX11_other_41
  simp only [m_rdI, m_rdJ, m_rdR, m_obO, m_wrI, m_wrJ, m_arI2, m_arJ2, m_awI2, m_awJ2, o_bs, o_bm, o_mb, o_ms, o_mn, o_mi, o_bi, o_bn, mk_0, mk_1, mk_2, mk_3, mk_4, mk_5, mk_6, mk_7, mk_8, mk_9, mk_10, mk_11, mk_12, mk_13, mk_14, mk_15, mk_16, mk_17, mk_18, mk_19, mk_20, mk_21, mk_22, mk_23, mk_24, mk_25, mk_26, mk_27, mk_28, mk_29, mk_30, mk_31, mk_32, mk_33, mk_34, mk_35, mk_36, mk_37, mk_38, mk_39, mk_40, mk_41, mk_42, mk_43, mk_44, mk_45, mk_46, true_or, or_true, (GX11_other_53 z am r), (GX11_other_65 z am r)]
def gX11_other_33 (x1 : Int32) (x2 : Int32) (x3 : Int32) (x4 : Int32) (x5 : Int32) (x6 : Int32) (S : mS) : Option (Int32 × mS) :=
  (gX11_isHandle x3 S).bind fun q101 =>
  (if q101.1 = 0 then
  some ((-2), q101.2)
  else
  gX11_other_41 x1 x2 x3 x4 x5 x6 q101.2)
set_option maxHeartbeats 4000000 in
set_option maxRecDepth 100000 in
theorem GX11_other_33 (z : Nat → Nat) (am : Nat) (r : aH) (x1 : Int32) (x2 : Int32) (x3 : Int32) (x4 : Int32) (x5 : Int32) (x6 : Int32) (S : mS) : fX11_other_33 z am x1 x2 x3 x4 x5 x6 (mo am S r) = (gX11_other_33 x1 x2 x3 x4 x5 x6 S).map (fun q2 => (q2.1, mo am q2.2 r)) := by
  unfold fX11_other_33 gX11_other_33
  simp only [m_rdI, m_rdJ, m_rdR, m_obO, m_wrI, m_wrJ, m_arI2, m_arJ2, m_awI2, m_awJ2, o_bs, o_bm, o_mb, o_ms, o_mn, o_mi, o_bi, o_bn, mk_0, mk_1, mk_2, mk_3, mk_4, mk_5, mk_6, mk_7, mk_8, mk_9, mk_10, mk_11, mk_12, mk_13, mk_14, mk_15, mk_16, mk_17, mk_18, mk_19, mk_20, mk_21, mk_22, mk_23, mk_24, mk_25, mk_26, mk_27, mk_28, mk_29, mk_30, mk_31, mk_32, mk_33, mk_34, mk_35, mk_36, mk_37, mk_38, mk_39, mk_40, mk_41, mk_42, mk_43, mk_44, mk_45, mk_46, true_or, or_true, (GX11_other_41 z am r), GX11_isHandle]
def gX11_other (x1 : Int32) (x2 : Int32) (x3 : Int32) (x4 : Int32) (x5 : Int32) (x6 : Int32) (S : mS) : Option (Int32 × mS) :=
  (gX11_isHandle x2 (sI S 0 0)).bind fun q101 =>
  (if q101.1 = 0 then
  some ((-2), q101.2)
  else
  (gX11_in (Int32.toInt64 x1) 3 9 q101.2).bind fun q102 =>
  (if q102.1 = 0 then
  (if x1 = 12 then
  gX11_other_33 x1 x2 x3 x4 x5 x6 q102.2
  else
  gX11_other_41 x1 x2 x3 x4 x5 x6 q102.2)
  else
  gX11_other_33 x1 x2 x3 x4 x5 x6 q102.2))
set_option maxHeartbeats 4000000 in
set_option maxRecDepth 100000 in
theorem GX11_other (z : Nat → Nat) (am : Nat) (r : aH) (x1 : Int32) (x2 : Int32) (x3 : Int32) (x4 : Int32) (x5 : Int32) (x6 : Int32) (S : mS) : fX11_other z am x1 x2 x3 x4 x5 x6 (mo am S r) = (gX11_other x1 x2 x3 x4 x5 x6 S).map (fun q2 => (q2.1, mo am q2.2 r)) := by
  unfold fX11_other gX11_other
  simp only [m_rdI, m_rdJ, m_rdR, m_obO, m_wrI, m_wrJ, m_arI2, m_arJ2, m_awI2, m_awJ2, o_bs, o_bm, o_mb, o_ms, o_mn, o_mi, o_bi, o_bn, mk_0, mk_1, mk_2, mk_3, mk_4, mk_5, mk_6, mk_7, mk_8, mk_9, mk_10, mk_11, mk_12, mk_13, mk_14, mk_15, mk_16, mk_17, mk_18, mk_19, mk_20, mk_21, mk_22, mk_23, mk_24, mk_25, mk_26, mk_27, mk_28, mk_29, mk_30, mk_31, mk_32, mk_33, mk_34, mk_35, mk_36, mk_37, mk_38, mk_39, mk_40, mk_41, mk_42, mk_43, mk_44, mk_45, mk_46, true_or, or_true, (GX11_other_33 z am r), (GX11_other_41 z am r), GX11_in, GX11_isHandle]
def gX11_take (x1 : Int32) (x2 : Int32) (x3 : Int32) (x4 : Int32) (S : mS) : Option mS :=
  (mwA (sI S 28 x1) 27 0 x2).bind fun S101 =>
  (mwA S101 27 1 x3).bind fun S102 =>
  (mwA S102 27 2 x4).bind fun S103 =>
  some S103
set_option maxHeartbeats 4000000 in
set_option maxRecDepth 100000 in
theorem GX11_take (z : Nat → Nat) (am : Nat) (r : aH) (x1 : Int32) (x2 : Int32) (x3 : Int32) (x4 : Int32) (S : mS) : fX11_take z am x1 x2 x3 x4 (mo am S r) = (gX11_take x1 x2 x3 x4 S).map (fun S2 => mo am S2 r) := by
  unfold fX11_take gX11_take
  simp only [m_rdI, m_rdJ, m_rdR, m_obO, m_wrI, m_wrJ, m_arI2, m_arJ2, m_awI2, m_awJ2, o_bs, o_bm, o_mb, o_ms, o_mn, o_mi, o_bi, o_bn, mk_0, mk_1, mk_2, mk_3, mk_4, mk_5, mk_6, mk_7, mk_8, mk_9, mk_10, mk_11, mk_12, mk_13, mk_14, mk_15, mk_16, mk_17, mk_18, mk_19, mk_20, mk_21, mk_22, mk_23, mk_24, mk_25, mk_26, mk_27, mk_28, mk_29, mk_30, mk_31, mk_32, mk_33, mk_34, mk_35, mk_36, mk_37, mk_38, mk_39, mk_40, mk_41, mk_42, mk_43, mk_44, mk_45, mk_46, true_or, or_true]
def gX11_plain_295 (x1 : Int32) (x2 : Int32) (x3 : Int32) (x4 : Int32) (S : mS) : Option (Int32 × mS) :=
  (gX11_newHandle x1 x4 0 0 0 x2 x3 S).bind fun q101 =>
  some (q101.1, q101.2)
set_option maxHeartbeats 4000000 in
set_option maxRecDepth 100000 in
theorem GX11_plain_295 (z : Nat → Nat) (am : Nat) (r : aH) (x1 : Int32) (x2 : Int32) (x3 : Int32) (x4 : Int32) (S : mS) : fX11_plain_295 z am x1 x2 x3 x4 (mo am S r) = (gX11_plain_295 x1 x2 x3 x4 S).map (fun q2 => (q2.1, mo am q2.2 r)) := by
  unfold fX11_plain_295 gX11_plain_295
  simp only [m_rdI, m_rdJ, m_rdR, m_obO, m_wrI, m_wrJ, m_arI2, m_arJ2, m_awI2, m_awJ2, o_bs, o_bm, o_mb, o_ms, o_mn, o_mi, o_bi, o_bn, mk_0, mk_1, mk_2, mk_3, mk_4, mk_5, mk_6, mk_7, mk_8, mk_9, mk_10, mk_11, mk_12, mk_13, mk_14, mk_15, mk_16, mk_17, mk_18, mk_19, mk_20, mk_21, mk_22, mk_23, mk_24, mk_25, mk_26, mk_27, mk_28, mk_29, mk_30, mk_31, mk_32, mk_33, mk_34, mk_35, mk_36, mk_37, mk_38, mk_39, mk_40, mk_41, mk_42, mk_43, mk_44, mk_45, mk_46, true_or, or_true, GX11_newHandle]
def gX11_plain_184 (x1 : Int32) (x2 : Int32) (x3 : Int32) (S : mS) : Option (Int32 × mS) :=
  (gX11_take 0 0 0 0 S).bind fun q101 =>
  gX11_plain_295 x1 x2 x3 x2 q101
set_option maxHeartbeats 4000000 in
set_option maxRecDepth 100000 in
theorem GX11_plain_184 (z : Nat → Nat) (am : Nat) (r : aH) (x1 : Int32) (x2 : Int32) (x3 : Int32) (S : mS) : fX11_plain_184 z am x1 x2 x3 (mo am S r) = (gX11_plain_184 x1 x2 x3 S).map (fun q2 => (q2.1, mo am q2.2 r)) := by
  unfold fX11_plain_184 gX11_plain_184
  simp only [m_rdI, m_rdJ, m_rdR, m_obO, m_wrI, m_wrJ, m_arI2, m_arJ2, m_awI2, m_awJ2, o_bs, o_bm, o_mb, o_ms, o_mn, o_mi, o_bi, o_bn, mk_0, mk_1, mk_2, mk_3, mk_4, mk_5, mk_6, mk_7, mk_8, mk_9, mk_10, mk_11, mk_12, mk_13, mk_14, mk_15, mk_16, mk_17, mk_18, mk_19, mk_20, mk_21, mk_22, mk_23, mk_24, mk_25, mk_26, mk_27, mk_28, mk_29, mk_30, mk_31, mk_32, mk_33, mk_34, mk_35, mk_36, mk_37, mk_38, mk_39, mk_40, mk_41, mk_42, mk_43, mk_44, mk_45, mk_46, true_or, or_true, (GX11_plain_295 z am r), GX11_take]
def gX11_plain_287 (x1 : Int32) (x2 : Int32) (x3 : Int32) (x4 : Int32) (S : mS) : Option (Int32 × mS) :=
  (gX11_take 2 0 0 0 S).bind fun q101 =>
  gX11_plain_295 x1 x2 x3 x4 q101
set_option maxHeartbeats 4000000 in
set_option maxRecDepth 100000 in
theorem GX11_plain_287 (z : Nat → Nat) (am : Nat) (r : aH) (x1 : Int32) (x2 : Int32) (x3 : Int32) (x4 : Int32) (S : mS) : fX11_plain_287 z am x1 x2 x3 x4 (mo am S r) = (gX11_plain_287 x1 x2 x3 x4 S).map (fun q2 => (q2.1, mo am q2.2 r)) := by
  unfold fX11_plain_287 gX11_plain_287
  simp only [m_rdI, m_rdJ, m_rdR, m_obO, m_wrI, m_wrJ, m_arI2, m_arJ2, m_awI2, m_awJ2, o_bs, o_bm, o_mb, o_ms, o_mn, o_mi, o_bi, o_bn, mk_0, mk_1, mk_2, mk_3, mk_4, mk_5, mk_6, mk_7, mk_8, mk_9, mk_10, mk_11, mk_12, mk_13, mk_14, mk_15, mk_16, mk_17, mk_18, mk_19, mk_20, mk_21, mk_22, mk_23, mk_24, mk_25, mk_26, mk_27, mk_28, mk_29, mk_30, mk_31, mk_32, mk_33, mk_34, mk_35, mk_36, mk_37, mk_38, mk_39, mk_40, mk_41, mk_42, mk_43, mk_44, mk_45, mk_46, true_or, or_true, (GX11_plain_295 z am r), GX11_take]
def gX11_plain_98 (x1 : Int32) (x2 : Int32) (x3 : Int32) (S : mS) : Option (Int32 × mS) :=
  (if (S.1 1) = 60 then
  some ((-5), S)
  else
  (if x1 = 0 then
  gX11_plain_184 x1 x2 x3 S
  else
  (if x1 = 1 then
  (gX11_take 1 x2 0 0 S).bind fun q101 =>
  gX11_plain_295 x1 x2 x3 x2 q101
  else
  (if x1 = 2 then
  gX11_plain_287 x1 x2 x3 0 S
  else
  (if x1 = 3 then
  gX11_plain_287 x1 x2 x3 0 S
  else
  (if x1 = 4 then
  gX11_plain_287 x1 x2 x3 0 S
  else
  (if x1 = 5 then
  gX11_plain_287 x1 x2 x3 0 S
  else
  (if x1 = 6 then
  gX11_plain_287 x1 x2 x3 0 S
  else
  (if x1 = 7 then
  (gX11_take 2 1 1 0 S).bind fun q102 =>
  gX11_plain_295 x1 x2 x3 1 q102
  else
  (if x1 = 8 then
  (gX11_take 2 3 0 0 S).bind fun q103 =>
  gX11_plain_295 x1 x2 x3 0 q103
  else
  (if x1 = 9 then
  (gX11_take 3 3 0 0 S).bind fun q104 =>
  gX11_plain_295 x1 x2 x3 4 q104
  else
  (if x1 = 10 then
  (gX11_take 1 3 0 0 S).bind fun q105 =>
  gX11_plain_295 x1 x2 x3 0 q105
  else
  (if x1 = 11 then
  (gX11_take 1 0 0 0 S).bind fun q106 =>
  gX11_plain_295 x1 x2 x3 3 q106
  else
  (if x1 = 12 then
  gX11_plain_184 x1 x2 x3 S
  else
  (if x1 = 13 then
  (gX11_take 0 0 0 0 S).bind fun q107 =>
  gX11_plain_295 x1 x2 x3 0 q107
  else
  gX11_plain_287 x1 x2 x3 0 S)))))))))))))))
set_option maxHeartbeats 4000000 in
set_option maxRecDepth 100000 in
theorem GX11_plain_98 (z : Nat → Nat) (am : Nat) (r : aH) (x1 : Int32) (x2 : Int32) (x3 : Int32) (S : mS) : fX11_plain_98 z am x1 x2 x3 (mo am S r) = (gX11_plain_98 x1 x2 x3 S).map (fun q2 => (q2.1, mo am q2.2 r)) := by
  unfold fX11_plain_98 gX11_plain_98
  simp only [m_rdI, m_rdJ, m_rdR, m_obO, m_wrI, m_wrJ, m_arI2, m_arJ2, m_awI2, m_awJ2, o_bs, o_bm, o_mb, o_ms, o_mn, o_mi, o_bi, o_bn, mk_0, mk_1, mk_2, mk_3, mk_4, mk_5, mk_6, mk_7, mk_8, mk_9, mk_10, mk_11, mk_12, mk_13, mk_14, mk_15, mk_16, mk_17, mk_18, mk_19, mk_20, mk_21, mk_22, mk_23, mk_24, mk_25, mk_26, mk_27, mk_28, mk_29, mk_30, mk_31, mk_32, mk_33, mk_34, mk_35, mk_36, mk_37, mk_38, mk_39, mk_40, mk_41, mk_42, mk_43, mk_44, mk_45, mk_46, true_or, or_true, (GX11_plain_184 z am r), (GX11_plain_287 z am r), (GX11_plain_295 z am r), GX11_take]
def gX11_plain_77 (x1 : Int32) (x2 : Int32) (x3 : Int32) (S : mS) : Option (Int32 × mS) :=
  (if x1 = 12 then
  (gX11_in (Int32.toInt64 x3) 0 99 S).bind fun q101 =>
  (if q101.1 = 0 then
  some ((-3), q101.2)
  else
  gX11_plain_98 x1 x2 x3 q101.2)
  else
  gX11_plain_98 x1 x2 x3 S)
set_option maxHeartbeats 4000000 in
set_option maxRecDepth 100000 in
theorem GX11_plain_77 (z : Nat → Nat) (am : Nat) (r : aH) (x1 : Int32) (x2 : Int32) (x3 : Int32) (S : mS) : fX11_plain_77 z am x1 x2 x3 (mo am S r) = (gX11_plain_77 x1 x2 x3 S).map (fun q2 => (q2.1, mo am q2.2 r)) := by
  unfold fX11_plain_77 gX11_plain_77
  simp only [m_rdI, m_rdJ, m_rdR, m_obO, m_wrI, m_wrJ, m_arI2, m_arJ2, m_awI2, m_awJ2, o_bs, o_bm, o_mb, o_ms, o_mn, o_mi, o_bi, o_bn, mk_0, mk_1, mk_2, mk_3, mk_4, mk_5, mk_6, mk_7, mk_8, mk_9, mk_10, mk_11, mk_12, mk_13, mk_14, mk_15, mk_16, mk_17, mk_18, mk_19, mk_20, mk_21, mk_22, mk_23, mk_24, mk_25, mk_26, mk_27, mk_28, mk_29, mk_30, mk_31, mk_32, mk_33, mk_34, mk_35, mk_36, mk_37, mk_38, mk_39, mk_40, mk_41, mk_42, mk_43, mk_44, mk_45, mk_46, true_or, or_true, (GX11_plain_98 z am r), GX11_in]
def gX11_plain_60 (x1 : Int32) (x2 : Int32) (x3 : Int32) (S : mS) : Option (Int32 × mS) :=
  (if x1 = 1 then
  (gX11_in (Int32.toInt64 x2) 0 3 S).bind fun q101 =>
  (if q101.1 = 0 then
  some ((-3), q101.2)
  else
  gX11_plain_77 x1 x2 x3 q101.2)
  else
  gX11_plain_77 x1 x2 x3 S)
set_option maxHeartbeats 4000000 in
set_option maxRecDepth 100000 in
theorem GX11_plain_60 (z : Nat → Nat) (am : Nat) (r : aH) (x1 : Int32) (x2 : Int32) (x3 : Int32) (S : mS) : fX11_plain_60 z am x1 x2 x3 (mo am S r) = (gX11_plain_60 x1 x2 x3 S).map (fun q2 => (q2.1, mo am q2.2 r)) := by
  unfold fX11_plain_60 gX11_plain_60
  simp only [m_rdI, m_rdJ, m_rdR, m_obO, m_wrI, m_wrJ, m_arI2, m_arJ2, m_awI2, m_awJ2, o_bs, o_bm, o_mb, o_ms, o_mn, o_mi, o_bi, o_bn, mk_0, mk_1, mk_2, mk_3, mk_4, mk_5, mk_6, mk_7, mk_8, mk_9, mk_10, mk_11, mk_12, mk_13, mk_14, mk_15, mk_16, mk_17, mk_18, mk_19, mk_20, mk_21, mk_22, mk_23, mk_24, mk_25, mk_26, mk_27, mk_28, mk_29, mk_30, mk_31, mk_32, mk_33, mk_34, mk_35, mk_36, mk_37, mk_38, mk_39, mk_40, mk_41, mk_42, mk_43, mk_44, mk_45, mk_46, true_or, or_true, (GX11_plain_77 z am r), GX11_in]
def gX11_plain_48 (x1 : Int32) (x2 : Int32) (x3 : Int32) (S : mS) : Option (Int32 × mS) :=
  (gX11_in (Int32.toInt64 x2) 0 4 S).bind fun q101 =>
  (if q101.1 = 0 then
  some ((-3), q101.2)
  else
  gX11_plain_60 x1 x2 x3 q101.2)
set_option maxHeartbeats 4000000 in
set_option maxRecDepth 100000 in
theorem GX11_plain_48 (z : Nat → Nat) (am : Nat) (r : aH) (x1 : Int32) (x2 : Int32) (x3 : Int32) (S : mS) : fX11_plain_48 z am x1 x2 x3 (mo am S r) = (gX11_plain_48 x1 x2 x3 S).map (fun q2 => (q2.1, mo am q2.2 r)) := by
  unfold fX11_plain_48 gX11_plain_48
  simp only [m_rdI, m_rdJ, m_rdR, m_obO, m_wrI, m_wrJ, m_arI2, m_arJ2, m_awI2, m_awJ2, o_bs, o_bm, o_mb, o_ms, o_mn, o_mi, o_bi, o_bn, mk_0, mk_1, mk_2, mk_3, mk_4, mk_5, mk_6, mk_7, mk_8, mk_9, mk_10, mk_11, mk_12, mk_13, mk_14, mk_15, mk_16, mk_17, mk_18, mk_19, mk_20, mk_21, mk_22, mk_23, mk_24, mk_25, mk_26, mk_27, mk_28, mk_29, mk_30, mk_31, mk_32, mk_33, mk_34, mk_35, mk_36, mk_37, mk_38, mk_39, mk_40, mk_41, mk_42, mk_43, mk_44, mk_45, mk_46, true_or, or_true, (GX11_plain_60 z am r), GX11_in]
def gX11_plain_26 (x1 : Int32) (x2 : Int32) (x3 : Int32) (S : mS) : Option (Int32 × mS) :=
  (gX11_in (Int32.toInt64 x1) 0 13 S).bind fun q101 =>
  (if q101.1 = 0 then
  some ((-3), q101.2)
  else
  (if x1 = 0 then
  gX11_plain_48 x1 x2 x3 q101.2
  else
  (if x1 = 12 then
  gX11_plain_48 x1 x2 x3 q101.2
  else
  gX11_plain_60 x1 x2 x3 q101.2)))
set_option maxHeartbeats 4000000 in
set_option maxRecDepth 100000 in
theorem GX11_plain_26 (z : Nat → Nat) (am : Nat) (r : aH) (x1 : Int32) (x2 : Int32) (x3 : Int32) (S : mS) : fX11_plain_26 z am x1 x2 x3 (mo am S r) = (gX11_plain_26 x1 x2 x3 S).map (fun q2 => (q2.1, mo am q2.2 r)) := by
  unfold fX11_plain_26 gX11_plain_26
  simp only [m_rdI, m_rdJ, m_rdR, m_obO, m_wrI, m_wrJ, m_arI2, m_arJ2, m_awI2, m_awJ2, o_bs, o_bm, o_mb, o_ms, o_mn, o_mi, o_bi, o_bn, mk_0, mk_1, mk_2, mk_3, mk_4, mk_5, mk_6, mk_7, mk_8, mk_9, mk_10, mk_11, mk_12, mk_13, mk_14, mk_15, mk_16, mk_17, mk_18, mk_19, mk_20, mk_21, mk_22, mk_23, mk_24, mk_25, mk_26, mk_27, mk_28, mk_29, mk_30, mk_31, mk_32, mk_33, mk_34, mk_35, mk_36, mk_37, mk_38, mk_39, mk_40, mk_41, mk_42, mk_43, mk_44, mk_45, mk_46, true_or, or_true, (GX11_plain_48 z am r), (GX11_plain_60 z am r), GX11_in]
def gX11_plain (x1 : Int32) (x2 : Int32) (x3 : Int32) (S : mS) : Option (Int32 × mS) :=
  (if x1 = 0 then
  (if x2 = 3 then
  (gX11_isRow (Int32.toInt64 x3) (sI S 0 0)).bind fun q101 =>
  (if q101.1 = 0 then
  some ((-2), q101.2)
  else
  gX11_plain_26 x1 x2 x3 q101.2)
  else
  gX11_plain_26 x1 x2 x3 (sI S 0 0))
  else
  gX11_plain_26 x1 x2 x3 (sI S 0 0))
set_option maxHeartbeats 4000000 in
set_option maxRecDepth 100000 in
theorem GX11_plain (z : Nat → Nat) (am : Nat) (r : aH) (x1 : Int32) (x2 : Int32) (x3 : Int32) (S : mS) : fX11_plain z am x1 x2 x3 (mo am S r) = (gX11_plain x1 x2 x3 S).map (fun q2 => (q2.1, mo am q2.2 r)) := by
  unfold fX11_plain gX11_plain
  simp only [m_rdI, m_rdJ, m_rdR, m_obO, m_wrI, m_wrJ, m_arI2, m_arJ2, m_awI2, m_awJ2, o_bs, o_bm, o_mb, o_ms, o_mn, o_mi, o_bi, o_bn, mk_0, mk_1, mk_2, mk_3, mk_4, mk_5, mk_6, mk_7, mk_8, mk_9, mk_10, mk_11, mk_12, mk_13, mk_14, mk_15, mk_16, mk_17, mk_18, mk_19, mk_20, mk_21, mk_22, mk_23, mk_24, mk_25, mk_26, mk_27, mk_28, mk_29, mk_30, mk_31, mk_32, mk_33, mk_34, mk_35, mk_36, mk_37, mk_38, mk_39, mk_40, mk_41, mk_42, mk_43, mk_44, mk_45, mk_46, true_or, or_true, (GX11_plain_26 z am r), GX11_isRow]
def gX11_result (S : mS) : Option (Int64 × mS) :=
  some (((sI S 0 0).2.1 24), (sI S 0 0))
set_option maxHeartbeats 4000000 in
set_option maxRecDepth 100000 in
theorem GX11_result (z : Nat → Nat) (am : Nat) (r : aH) (S : mS) : fX11_result z am (mo am S r) = (gX11_result  S).map (fun q2 => (q2.1, mo am q2.2 r)) := by
  unfold fX11_result gX11_result
  simp only [m_rdI, m_rdJ, m_rdR, m_obO, m_wrI, m_wrJ, m_arI2, m_arJ2, m_awI2, m_awJ2, o_bs, o_bm, o_mb, o_ms, o_mn, o_mi, o_bi, o_bn, mk_0, mk_1, mk_2, mk_3, mk_4, mk_5, mk_6, mk_7, mk_8, mk_9, mk_10, mk_11, mk_12, mk_13, mk_14, mk_15, mk_16, mk_17, mk_18, mk_19, mk_20, mk_21, mk_22, mk_23, mk_24, mk_25, mk_26, mk_27, mk_28, mk_29, mk_30, mk_31, mk_32, mk_33, mk_34, mk_35, mk_36, mk_37, mk_38, mk_39, mk_40, mk_41, mk_42, mk_43, mk_44, mk_45, mk_46, true_or, or_true]
def gX11_resultKind (S : mS) : Option (Int32 × mS) :=
  some (((sI S 0 0).1 23), (sI S 0 0))
set_option maxHeartbeats 4000000 in
set_option maxRecDepth 100000 in
theorem GX11_resultKind (z : Nat → Nat) (am : Nat) (r : aH) (S : mS) : fX11_resultKind z am (mo am S r) = (gX11_resultKind  S).map (fun q2 => (q2.1, mo am q2.2 r)) := by
  unfold fX11_resultKind gX11_resultKind
  simp only [m_rdI, m_rdJ, m_rdR, m_obO, m_wrI, m_wrJ, m_arI2, m_arJ2, m_awI2, m_awJ2, o_bs, o_bm, o_mb, o_ms, o_mn, o_mi, o_bi, o_bn, mk_0, mk_1, mk_2, mk_3, mk_4, mk_5, mk_6, mk_7, mk_8, mk_9, mk_10, mk_11, mk_12, mk_13, mk_14, mk_15, mk_16, mk_17, mk_18, mk_19, mk_20, mk_21, mk_22, mk_23, mk_24, mk_25, mk_26, mk_27, mk_28, mk_29, mk_30, mk_31, mk_32, mk_33, mk_34, mk_35, mk_36, mk_37, mk_38, mk_39, mk_40, mk_41, mk_42, mk_43, mk_44, mk_45, mk_46, true_or, or_true]
def gX11_newRow_24 : Nat → Int32 → Int32 → Int32 → mS → Option (Int32 × mS)
  | 0, _, _, _, _ => none
  | n + 1, x1, x2, x3, S => (if x1 ≤ x3 then
  some (x2, S)
  else
  (mwA S 15 ((20 * x2) + x3) 0).bind fun S101 =>
  gX11_newRow_24 n x1 x2 (x3 + 1) S101)
set_option maxHeartbeats 4000000 in
set_option maxRecDepth 100000 in
theorem GX11_newRow_24 (z : Nat → Nat) (am : Nat) (r : aH) : ∀ (n : Nat) (x1 : Int32) (x2 : Int32) (x3 : Int32) (S : mS), fX11_newRow_24 z n am x1 x2 x3 (mo am S r) = (gX11_newRow_24 n x1 x2 x3 S).map (fun q2 => (q2.1, mo am q2.2 r)) := by
  intro n
  induction n with
  | zero => intros; rfl
  | succ n ih =>
    intro x1 x2 x3 S
    rw [fX11_newRow_24, gX11_newRow_24]
    simp only [m_rdI, m_rdJ, m_rdR, m_obO, m_wrI, m_wrJ, m_arI2, m_arJ2, m_awI2, m_awJ2, o_bs, o_bm, o_mb, o_ms, o_mn, o_mi, o_bi, o_bn, mk_0, mk_1, mk_2, mk_3, mk_4, mk_5, mk_6, mk_7, mk_8, mk_9, mk_10, mk_11, mk_12, mk_13, mk_14, mk_15, mk_16, mk_17, mk_18, mk_19, mk_20, mk_21, mk_22, mk_23, mk_24, mk_25, mk_26, mk_27, mk_28, mk_29, mk_30, mk_31, mk_32, mk_33, mk_34, mk_35, mk_36, mk_37, mk_38, mk_39, mk_40, mk_41, mk_42, mk_43, mk_44, mk_45, mk_46, true_or, or_true, ih]
def gX11_newRow (x1 : Int32) (S : mS) : Option (Int32 × mS) :=
  (mwA (sI S 13 ((S.1 13) + 1)) 14 (S.1 13) x1).bind fun S101 =>
  gX11_newRow_24 4000 x1 (S.1 13) 0 S101
set_option maxHeartbeats 4000000 in
set_option maxRecDepth 100000 in
theorem GX11_newRow (z : Nat → Nat) (am : Nat) (r : aH) (x1 : Int32) (S : mS) : fX11_newRow z am x1 (mo am S r) = (gX11_newRow x1 S).map (fun q2 => (q2.1, mo am q2.2 r)) := by
  unfold fX11_newRow gX11_newRow
  simp only [m_rdI, m_rdJ, m_rdR, m_obO, m_wrI, m_wrJ, m_arI2, m_arJ2, m_awI2, m_awJ2, o_bs, o_bm, o_mb, o_ms, o_mn, o_mi, o_bi, o_bn, mk_0, mk_1, mk_2, mk_3, mk_4, mk_5, mk_6, mk_7, mk_8, mk_9, mk_10, mk_11, mk_12, mk_13, mk_14, mk_15, mk_16, mk_17, mk_18, mk_19, mk_20, mk_21, mk_22, mk_23, mk_24, mk_25, mk_26, mk_27, mk_28, mk_29, mk_30, mk_31, mk_32, mk_33, mk_34, mk_35, mk_36, mk_37, mk_38, mk_39, mk_40, mk_41, mk_42, mk_43, mk_44, mk_45, mk_46, true_or, or_true, (GX11_newRow_24 z am r)]
def gX11_row (x1 : Int32) (S : mS) : Option (Int32 × mS) :=
  (gX11_in (Int32.toInt64 x1) 0 20 (sI S 0 0)).bind fun q101 =>
  (if q101.1 = 0 then
  some ((-3), q101.2)
  else
  (if (q101.2.1 13) = 60 then
  some ((-5), q101.2)
  else
  (gX11_newRow x1 q101.2).bind fun q102 =>
  some (q102.1, q102.2)))
set_option maxHeartbeats 4000000 in
set_option maxRecDepth 100000 in
theorem GX11_row (z : Nat → Nat) (am : Nat) (r : aH) (x1 : Int32) (S : mS) : fX11_row z am x1 (mo am S r) = (gX11_row x1 S).map (fun q2 => (q2.1, mo am q2.2 r)) := by
  unfold fX11_row gX11_row
  simp only [m_rdI, m_rdJ, m_rdR, m_obO, m_wrI, m_wrJ, m_arI2, m_arJ2, m_awI2, m_awJ2, o_bs, o_bm, o_mb, o_ms, o_mn, o_mi, o_bi, o_bn, mk_0, mk_1, mk_2, mk_3, mk_4, mk_5, mk_6, mk_7, mk_8, mk_9, mk_10, mk_11, mk_12, mk_13, mk_14, mk_15, mk_16, mk_17, mk_18, mk_19, mk_20, mk_21, mk_22, mk_23, mk_24, mk_25, mk_26, mk_27, mk_28, mk_29, mk_30, mk_31, mk_32, mk_33, mk_34, mk_35, mk_36, mk_37, mk_38, mk_39, mk_40, mk_41, mk_42, mk_43, mk_44, mk_45, mk_46, true_or, or_true, GX11_in, GX11_newRow]
def gX11_isWrong_22 : Nat → Int32 → Int32 → Int32 → Int32 → mS → Option (Int32 × mS)
  | 0, _, _, _, _, _ => none
  | n + 1, x1, x2, x3, x4, S => (if (S.1 20) ≤ x4 then
  some (x3, S)
  else
  (if x3 = 0 then
  (mrA S 4 ((6 * x1) + x4)).bind fun x101 =>
  (mrA S 21 x4).bind fun x102 =>
  (if x2 = 0 then
  (gX11_typeOfValue x4 x101 S).bind fun q103 =>
  (gX11_canAdapt q103.1 x101 q103.2).bind fun q104 =>
  (if q104.1 = 0 then
  gX11_isWrong_22 n x1 x2 1 (x4 + 1) q104.2
  else
  gX11_isWrong_22 n x1 x2 0 (x4 + 1) q104.2)
  else
  (if x101 = 0 then
  (if x102 = 0 then
  gX11_isWrong_22 n x1 x2 0 (x4 + 1) S
  else
  gX11_isWrong_22 n x1 x2 1 (x4 + 1) S)
  else
  (if x101 = 1 then
  (if x102 = 1 then
  gX11_isWrong_22 n x1 x2 0 (x4 + 1) S
  else
  gX11_isWrong_22 n x1 x2 1 (x4 + 1) S)
  else
  (if x101 = 2 then
  (if x102 = 2 then
  gX11_isWrong_22 n x1 x2 1 (x4 + 1) S
  else
  gX11_isWrong_22 n x1 x2 0 (x4 + 1) S)
  else
  (if 1 < x102 then
  gX11_isWrong_22 n x1 x2 0 (x4 + 1) S
  else
  gX11_isWrong_22 n x1 x2 1 (x4 + 1) S)))))
  else
  some (x3, S)))
set_option maxHeartbeats 4000000 in
set_option maxRecDepth 100000 in
theorem GX11_isWrong_22 (z : Nat → Nat) (am : Nat) (r : aH) : ∀ (n : Nat) (x1 : Int32) (x2 : Int32) (x3 : Int32) (x4 : Int32) (S : mS), fX11_isWrong_22 z n am x1 x2 x3 x4 (mo am S r) = (gX11_isWrong_22 n x1 x2 x3 x4 S).map (fun q2 => (q2.1, mo am q2.2 r)) := by
  intro n
  induction n with
  | zero => intros; rfl
  | succ n ih =>
    intro x1 x2 x3 x4 S
    rw [fX11_isWrong_22, gX11_isWrong_22]
    simp only [m_rdI, m_rdJ, m_rdR, m_obO, m_wrI, m_wrJ, m_arI2, m_arJ2, m_awI2, m_awJ2, o_bs, o_bm, o_mb, o_ms, o_mn, o_mi, o_bi, o_bn, mk_0, mk_1, mk_2, mk_3, mk_4, mk_5, mk_6, mk_7, mk_8, mk_9, mk_10, mk_11, mk_12, mk_13, mk_14, mk_15, mk_16, mk_17, mk_18, mk_19, mk_20, mk_21, mk_22, mk_23, mk_24, mk_25, mk_26, mk_27, mk_28, mk_29, mk_30, mk_31, mk_32, mk_33, mk_34, mk_35, mk_36, mk_37, mk_38, mk_39, mk_40, mk_41, mk_42, mk_43, mk_44, mk_45, mk_46, true_or, or_true, GX11_canAdapt, GX11_typeOfValue, ih]
def gX11_isWrong_e (x1 : Int32) (x2 : Int32) (S : mS) : Option (Int32 × mS) :=
  (mrA S 3 x1).bind fun x101 =>
  (if (S.1 20) = x101 then
  gX11_isWrong_22 4000 x1 x2 0 0 S
  else
  gX11_isWrong_22 4000 x1 x2 1 0 S)
def gX11_isWrong (x1 : Int32) (x2 : Int32) (S : mS) : Option (Int32 × mS) := chkM (gX11_isWrong_e x1 x2 S)
set_option maxHeartbeats 4000000 in
set_option maxRecDepth 100000 in
theorem GX11_isWrong (z : Nat → Nat) (am : Nat) (r : aH) (x1 : Int32) (x2 : Int32) (S : mS) : fX11_isWrong z am x1 x2 (mo am S r) = (gX11_isWrong x1 x2 S).map (fun q2 => (q2.1, mo am q2.2 r)) := by
  unfold fX11_isWrong gX11_isWrong
  rw [← chk_map]
  congr 1
  unfold fX11_isWrong_e gX11_isWrong_e
  simp only [m_rdI, m_rdJ, m_rdR, m_obO, m_wrI, m_wrJ, m_arI2, m_arJ2, m_awI2, m_awJ2, o_bs, o_bm, o_mb, o_ms, o_mn, o_mi, o_bi, o_bn, mk_0, mk_1, mk_2, mk_3, mk_4, mk_5, mk_6, mk_7, mk_8, mk_9, mk_10, mk_11, mk_12, mk_13, mk_14, mk_15, mk_16, mk_17, mk_18, mk_19, mk_20, mk_21, mk_22, mk_23, mk_24, mk_25, mk_26, mk_27, mk_28, mk_29, mk_30, mk_31, mk_32, mk_33, mk_34, mk_35, mk_36, mk_37, mk_38, mk_39, mk_40, mk_41, mk_42, mk_43, mk_44, mk_45, mk_46, true_or, or_true, (GX11_isWrong_22 z am r)]
def gX11_calls_53 : Nat → Int32 → mS → Option mS
  | 0, _, _ => none
  | n + 1, x2, S => (if (S.1 46) ≤ x2 then
  some (sI (sI S 33 ((S.1 33) + 1)) 34 0)
  else
  (mrA S 44 x2).bind fun x101 =>
  (mwA S 37 ((7 * (S.1 33)) + x2) x101).bind fun S102 =>
  (mrB S102 45 x2).bind fun j103 =>
  (mwB S102 38 ((7 * (S102.1 33)) + x2) j103).bind fun S104 =>
  gX11_calls_53 n (x2 + 1) S104)
set_option maxHeartbeats 4000000 in
set_option maxRecDepth 100000 in
theorem GX11_calls_53 (z : Nat → Nat) (am : Nat) (r : aH) : ∀ (n : Nat) (x2 : Int32) (S : mS), fX11_calls_53 z n am x2 (mo am S r) = (gX11_calls_53 n x2 S).map (fun S2 => mo am S2 r) := by
  intro n
  induction n with
  | zero => intros; rfl
  | succ n ih =>
    intro x2 S
    rw [fX11_calls_53, gX11_calls_53]
    simp only [m_rdI, m_rdJ, m_rdR, m_obO, m_wrI, m_wrJ, m_arI2, m_arJ2, m_awI2, m_awJ2, o_bs, o_bm, o_mb, o_ms, o_mn, o_mi, o_bi, o_bn, mk_0, mk_1, mk_2, mk_3, mk_4, mk_5, mk_6, mk_7, mk_8, mk_9, mk_10, mk_11, mk_12, mk_13, mk_14, mk_15, mk_16, mk_17, mk_18, mk_19, mk_20, mk_21, mk_22, mk_23, mk_24, mk_25, mk_26, mk_27, mk_28, mk_29, mk_30, mk_31, mk_32, mk_33, mk_34, mk_35, mk_36, mk_37, mk_38, mk_39, mk_40, mk_41, mk_42, mk_43, mk_44, mk_45, mk_46, true_or, or_true, ih]
def gX11_calls (x1 : Int32) (S : mS) : Option mS :=
  (if (S.1 32) = 80 then
  some (sI (sI S 29 9) 34 1)
  else
  (mwA (sI S 32 ((S.1 32) + 1)) 35 ((sI S 32 ((S.1 32) + 1)).1 33) x1).bind fun S101 =>
  (mwA S101 36 (S101.1 33) 0).bind fun S102 =>
  gX11_calls_53 4000 0 S102)
set_option maxHeartbeats 4000000 in
set_option maxRecDepth 100000 in
theorem GX11_calls (z : Nat → Nat) (am : Nat) (r : aH) (x1 : Int32) (S : mS) : fX11_calls z am x1 (mo am S r) = (gX11_calls x1 S).map (fun S2 => mo am S2 r) := by
  unfold fX11_calls gX11_calls
  simp only [m_rdI, m_rdJ, m_rdR, m_obO, m_wrI, m_wrJ, m_arI2, m_arJ2, m_awI2, m_awJ2, o_bs, o_bm, o_mb, o_ms, o_mn, o_mi, o_bi, o_bn, mk_0, mk_1, mk_2, mk_3, mk_4, mk_5, mk_6, mk_7, mk_8, mk_9, mk_10, mk_11, mk_12, mk_13, mk_14, mk_15, mk_16, mk_17, mk_18, mk_19, mk_20, mk_21, mk_22, mk_23, mk_24, mk_25, mk_26, mk_27, mk_28, mk_29, mk_30, mk_31, mk_32, mk_33, mk_34, mk_35, mk_36, mk_37, mk_38, mk_39, mk_40, mk_41, mk_42, mk_43, mk_44, mk_45, mk_46, true_or, or_true, (GX11_calls_53 z am r)]
def gX11_add (x1 : Int32) (j2 : Int64) (S : mS) : Option mS :=
  (mwA S 44 (S.1 46) x1).bind fun S101 =>
  (mwB S101 45 (S101.1 46) j2).bind fun S102 =>
  some (sI S102 46 ((S102.1 46) + 1))
set_option maxHeartbeats 4000000 in
set_option maxRecDepth 100000 in
theorem GX11_add (z : Nat → Nat) (am : Nat) (r : aH) (x1 : Int32) (j2 : Int64) (S : mS) : fX11_add z am x1 j2 (mo am S r) = (gX11_add x1 j2 S).map (fun S2 => mo am S2 r) := by
  unfold fX11_add gX11_add
  simp only [m_rdI, m_rdJ, m_rdR, m_obO, m_wrI, m_wrJ, m_arI2, m_arJ2, m_awI2, m_awJ2, o_bs, o_bm, o_mb, o_ms, o_mn, o_mi, o_bi, o_bn, mk_0, mk_1, mk_2, mk_3, mk_4, mk_5, mk_6, mk_7, mk_8, mk_9, mk_10, mk_11, mk_12, mk_13, mk_14, mk_15, mk_16, mk_17, mk_18, mk_19, mk_20, mk_21, mk_22, mk_23, mk_24, mk_25, mk_26, mk_27, mk_28, mk_29, mk_30, mk_31, mk_32, mk_33, mk_34, mk_35, mk_36, mk_37, mk_38, mk_39, mk_40, mk_41, mk_42, mk_43, mk_44, mk_45, mk_46, true_or, or_true]
def gX11_over (S : mS) : Option mS :=
  some (sI (sI S 33 ((S.1 33) - 1)) 34 1)
set_option maxHeartbeats 4000000 in
set_option maxRecDepth 100000 in
theorem GX11_over (z : Nat → Nat) (am : Nat) (r : aH) (S : mS) : fX11_over z am (mo am S r) = (gX11_over  S).map (fun S2 => mo am S2 r) := by
  unfold fX11_over gX11_over
  simp only [m_rdI, m_rdJ, m_rdR, m_obO, m_wrI, m_wrJ, m_arI2, m_arJ2, m_awI2, m_awJ2, o_bs, o_bm, o_mb, o_ms, o_mn, o_mi, o_bi, o_bn, mk_0, mk_1, mk_2, mk_3, mk_4, mk_5, mk_6, mk_7, mk_8, mk_9, mk_10, mk_11, mk_12, mk_13, mk_14, mk_15, mk_16, mk_17, mk_18, mk_19, mk_20, mk_21, mk_22, mk_23, mk_24, mk_25, mk_26, mk_27, mk_28, mk_29, mk_30, mk_31, mk_32, mk_33, mk_34, mk_35, mk_36, mk_37, mk_38, mk_39, mk_40, mk_41, mk_42, mk_43, mk_44, mk_45, mk_46, true_or, or_true]
def gX11_adapts_127 (x4 : Int32) (S : mS) : Option mS :=
  (if (S.1 29) ≤ 0 then
  (gX11_calls x4 S).bind fun q101 =>
  some q101
  else
  (gX11_over  S).bind fun q102 =>
  some q102)
set_option maxHeartbeats 4000000 in
set_option maxRecDepth 100000 in
theorem GX11_adapts_127 (z : Nat → Nat) (am : Nat) (r : aH) (x4 : Int32) (S : mS) : fX11_adapts_127 z am x4 (mo am S r) = (gX11_adapts_127 x4 S).map (fun S2 => mo am S2 r) := by
  unfold fX11_adapts_127 gX11_adapts_127
  simp only [m_rdI, m_rdJ, m_rdR, m_obO, m_wrI, m_wrJ, m_arI2, m_arJ2, m_awI2, m_awJ2, o_bs, o_bm, o_mb, o_ms, o_mn, o_mi, o_bi, o_bn, mk_0, mk_1, mk_2, mk_3, mk_4, mk_5, mk_6, mk_7, mk_8, mk_9, mk_10, mk_11, mk_12, mk_13, mk_14, mk_15, mk_16, mk_17, mk_18, mk_19, mk_20, mk_21, mk_22, mk_23, mk_24, mk_25, mk_26, mk_27, mk_28, mk_29, mk_30, mk_31, mk_32, mk_33, mk_34, mk_35, mk_36, mk_37, mk_38, mk_39, mk_40, mk_41, mk_42, mk_43, mk_44, mk_45, mk_46, true_or, or_true, GX11_calls, GX11_over]
def gX11_adapts_42 : Nat → Int32 → Int32 → Int32 → Int32 → Int32 → mS → Option mS
  | 0, _, _, _, _, _, _ => none
  | n + 1, x1, x3, x4, x5, x6, S => (if x5 ≤ x6 then
  gX11_adapts_127 x4 S
  else
  (if (S.1 29) = 0 then
  (mrA S 4 ((6 * x3) + x6)).bind fun x101 =>
  (mrA S 4 ((6 * x4) + x6)).bind fun x102 =>
  (mrA S 37 ((7 * x1) + x6)).bind fun x103 =>
  (mrB S 38 ((7 * x1) + x6)).bind fun j104 =>
  (gX11_adapt x101 x102 x103 j104 S).bind fun q105 =>
  (gX11_add (q105.1 30) (q105.2.1 31) q105).bind fun q106 =>
  gX11_adapts_42 n x1 x3 x4 x5 (x6 + 1) q106
  else
  gX11_adapts_127 x4 S))
set_option maxHeartbeats 4000000 in
set_option maxRecDepth 100000 in
theorem GX11_adapts_42 (z : Nat → Nat) (am : Nat) (r : aH) : ∀ (n : Nat) (x1 : Int32) (x3 : Int32) (x4 : Int32) (x5 : Int32) (x6 : Int32) (S : mS), fX11_adapts_42 z n am x1 x3 x4 x5 x6 (mo am S r) = (gX11_adapts_42 n x1 x3 x4 x5 x6 S).map (fun S2 => mo am S2 r) := by
  intro n
  induction n with
  | zero => intros; rfl
  | succ n ih =>
    intro x1 x3 x4 x5 x6 S
    rw [fX11_adapts_42, gX11_adapts_42]
    simp only [m_rdI, m_rdJ, m_rdR, m_obO, m_wrI, m_wrJ, m_arI2, m_arJ2, m_awI2, m_awJ2, o_bs, o_bm, o_mb, o_ms, o_mn, o_mi, o_bi, o_bn, mk_0, mk_1, mk_2, mk_3, mk_4, mk_5, mk_6, mk_7, mk_8, mk_9, mk_10, mk_11, mk_12, mk_13, mk_14, mk_15, mk_16, mk_17, mk_18, mk_19, mk_20, mk_21, mk_22, mk_23, mk_24, mk_25, mk_26, mk_27, mk_28, mk_29, mk_30, mk_31, mk_32, mk_33, mk_34, mk_35, mk_36, mk_37, mk_38, mk_39, mk_40, mk_41, mk_42, mk_43, mk_44, mk_45, mk_46, true_or, or_true, (GX11_adapts_127 z am r), GX11_adapt, GX11_add, ih]
def gX11_adapts (x1 : Int32) (x2 : Int32) (x3 : Int32) (x4 : Int32) (x5 : Int32) (S : mS) : Option mS :=
  (if x2 ≤ 0 then
  gX11_adapts_42 4000 x1 x3 x4 x5 0 (sI S 29 0)
  else
  (mrA S 5 x4).bind fun x101 =>
  (mrA S 5 x3).bind fun x102 =>
  (gX11_adapt x101 x102 (S.1 30) (S.2.1 31) S).bind fun q103 =>
  (gX11_over  q103).bind fun q104 =>
  some q104)
set_option maxHeartbeats 4000000 in
set_option maxRecDepth 100000 in
theorem GX11_adapts (z : Nat → Nat) (am : Nat) (r : aH) (x1 : Int32) (x2 : Int32) (x3 : Int32) (x4 : Int32) (x5 : Int32) (S : mS) : fX11_adapts z am x1 x2 x3 x4 x5 (mo am S r) = (gX11_adapts x1 x2 x3 x4 x5 S).map (fun S2 => mo am S2 r) := by
  unfold fX11_adapts gX11_adapts
  simp only [m_rdI, m_rdJ, m_rdR, m_obO, m_wrI, m_wrJ, m_arI2, m_arJ2, m_awI2, m_awJ2, o_bs, o_bm, o_mb, o_ms, o_mn, o_mi, o_bi, o_bn, mk_0, mk_1, mk_2, mk_3, mk_4, mk_5, mk_6, mk_7, mk_8, mk_9, mk_10, mk_11, mk_12, mk_13, mk_14, mk_15, mk_16, mk_17, mk_18, mk_19, mk_20, mk_21, mk_22, mk_23, mk_24, mk_25, mk_26, mk_27, mk_28, mk_29, mk_30, mk_31, mk_32, mk_33, mk_34, mk_35, mk_36, mk_37, mk_38, mk_39, mk_40, mk_41, mk_42, mk_43, mk_44, mk_45, mk_46, true_or, or_true, (GX11_adapts_42 z am r), GX11_adapt, GX11_over]
def gX11_addOwn_3 : Nat → Int32 → Int32 → Int32 → mS → Option mS
  | 0, _, _, _, _ => none
  | n + 1, x1, x3, x4, S => (if x3 ≤ x4 then
  some S
  else
  (mrA S 37 ((7 * x1) + x4)).bind fun x101 =>
  (mrB S 38 ((7 * x1) + x4)).bind fun j102 =>
  (gX11_add x101 j102 S).bind fun q103 =>
  gX11_addOwn_3 n x1 x3 (x4 + 1) q103)
set_option maxHeartbeats 4000000 in
set_option maxRecDepth 100000 in
theorem GX11_addOwn_3 (z : Nat → Nat) (am : Nat) (r : aH) : ∀ (n : Nat) (x1 : Int32) (x3 : Int32) (x4 : Int32) (S : mS), fX11_addOwn_3 z n am x1 x3 x4 (mo am S r) = (gX11_addOwn_3 n x1 x3 x4 S).map (fun S2 => mo am S2 r) := by
  intro n
  induction n with
  | zero => intros; rfl
  | succ n ih =>
    intro x1 x3 x4 S
    rw [fX11_addOwn_3, gX11_addOwn_3]
    simp only [m_rdI, m_rdJ, m_rdR, m_obO, m_wrI, m_wrJ, m_arI2, m_arJ2, m_awI2, m_awJ2, o_bs, o_bm, o_mb, o_ms, o_mn, o_mi, o_bi, o_bn, mk_0, mk_1, mk_2, mk_3, mk_4, mk_5, mk_6, mk_7, mk_8, mk_9, mk_10, mk_11, mk_12, mk_13, mk_14, mk_15, mk_16, mk_17, mk_18, mk_19, mk_20, mk_21, mk_22, mk_23, mk_24, mk_25, mk_26, mk_27, mk_28, mk_29, mk_30, mk_31, mk_32, mk_33, mk_34, mk_35, mk_36, mk_37, mk_38, mk_39, mk_40, mk_41, mk_42, mk_43, mk_44, mk_45, mk_46, true_or, or_true, GX11_add, ih]
def gX11_addOwn (x1 : Int32) (x2 : Int32) (x3 : Int32) (S : mS) : Option mS :=
  gX11_addOwn_3 4000 x1 x3 x2 S
set_option maxHeartbeats 4000000 in
set_option maxRecDepth 100000 in
theorem GX11_addOwn (z : Nat → Nat) (am : Nat) (r : aH) (x1 : Int32) (x2 : Int32) (x3 : Int32) (S : mS) : fX11_addOwn z am x1 x2 x3 (mo am S r) = (gX11_addOwn x1 x2 x3 S).map (fun S2 => mo am S2 r) := by
  unfold fX11_addOwn gX11_addOwn
  simp only [m_rdI, m_rdJ, m_rdR, m_obO, m_wrI, m_wrJ, m_arI2, m_arJ2, m_awI2, m_awJ2, o_bs, o_bm, o_mb, o_ms, o_mn, o_mi, o_bi, o_bn, mk_0, mk_1, mk_2, mk_3, mk_4, mk_5, mk_6, mk_7, mk_8, mk_9, mk_10, mk_11, mk_12, mk_13, mk_14, mk_15, mk_16, mk_17, mk_18, mk_19, mk_20, mk_21, mk_22, mk_23, mk_24, mk_25, mk_26, mk_27, mk_28, mk_29, mk_30, mk_31, mk_32, mk_33, mk_34, mk_35, mk_36, mk_37, mk_38, mk_39, mk_40, mk_41, mk_42, mk_43, mk_44, mk_45, mk_46, true_or, or_true, (GX11_addOwn_3 z am r)]
def gX11_begin (S : mS) : Option mS :=
  some (sI S 46 0)
set_option maxHeartbeats 4000000 in
set_option maxRecDepth 100000 in
theorem GX11_begin (z : Nat → Nat) (am : Nat) (r : aH) (S : mS) : fX11_begin z am (mo am S r) = (gX11_begin  S).map (fun S2 => mo am S2 r) := by
  unfold fX11_begin gX11_begin
  simp only [m_rdI, m_rdJ, m_rdR, m_obO, m_wrI, m_wrJ, m_arI2, m_arJ2, m_awI2, m_awJ2, o_bs, o_bm, o_mb, o_ms, o_mn, o_mi, o_bi, o_bn, mk_0, mk_1, mk_2, mk_3, mk_4, mk_5, mk_6, mk_7, mk_8, mk_9, mk_10, mk_11, mk_12, mk_13, mk_14, mk_15, mk_16, mk_17, mk_18, mk_19, mk_20, mk_21, mk_22, mk_23, mk_24, mk_25, mk_26, mk_27, mk_28, mk_29, mk_30, mk_31, mk_32, mk_33, mk_34, mk_35, mk_36, mk_37, mk_38, mk_39, mk_40, mk_41, mk_42, mk_43, mk_44, mk_45, mk_46, true_or, or_true]
def gX11_ends_85 (x1 : Int32) (x4 : Int32) (x5 : Int32) (sx1 : Int32) (sj2 : Int64) (S : mS) : Option mS :=
  (gX11_add sx1 sj2 S).bind fun q101 =>
  (gX11_addOwn x1 0 x5 q101).bind fun q102 =>
  (gX11_calls x4 q102).bind fun q103 =>
  some q103
set_option maxHeartbeats 4000000 in
set_option maxRecDepth 100000 in
theorem GX11_ends_85 (z : Nat → Nat) (am : Nat) (r : aH) (x1 : Int32) (x4 : Int32) (x5 : Int32) (sx1 : Int32) (sj2 : Int64) (S : mS) : fX11_ends_85 z am x1 x4 x5 (some am) sx1 sj2 (mo am S r) = (gX11_ends_85 x1 x4 x5 sx1 sj2 S).map (fun S2 => mo am S2 r) := by
  unfold fX11_ends_85 gX11_ends_85
  simp only [m_rdI, m_rdJ, m_rdR, m_obO, m_wrI, m_wrJ, m_arI2, m_arJ2, m_awI2, m_awJ2, o_bs, o_bm, o_mb, o_ms, o_mn, o_mi, o_bi, o_bn, mk_0, mk_1, mk_2, mk_3, mk_4, mk_5, mk_6, mk_7, mk_8, mk_9, mk_10, mk_11, mk_12, mk_13, mk_14, mk_15, mk_16, mk_17, mk_18, mk_19, mk_20, mk_21, mk_22, mk_23, mk_24, mk_25, mk_26, mk_27, mk_28, mk_29, mk_30, mk_31, mk_32, mk_33, mk_34, mk_35, mk_36, mk_37, mk_38, mk_39, mk_40, mk_41, mk_42, mk_43, mk_44, mk_45, mk_46, true_or, or_true, GX11_add, GX11_addOwn, GX11_calls]
def gX11_ends (x1 : Int32) (x2 : Int32) (x3 : Int32) (x4 : Int32) (x5 : Int32) (S : mS) : Option mS :=
  (if x2 = 0 then
  (gX11_addOwn x1 0 x5 S).bind fun q111 =>
  (gX11_calls x3 q111).bind fun q112 =>
  some q112
  else
  (if x2 = 1 then
  (mwA S 39 x1 (S.1 29)).bind fun S107 =>
  (mwA S107 40 x1 (S107.1 30)).bind fun S108 =>
  (mwB S108 41 x1 (S108.2.1 31)).bind fun S109 =>
  (gX11_in (Int32.toInt64 (S109.1 29)) 7 10 S109).bind fun q110 =>
  (if q110.1 = 0 then
  gX11_ends_85 x1 x4 x5 0 (Int32.toInt64 (q110.2.1 29)) q110.2
  else
  gX11_ends_85 x1 x4 x5 0 99 q110.2)
  else
  (if (S.1 29) = 0 then
  (mrA S 40 x1).bind fun x102 =>
  (mrB S 41 x1).bind fun j103 =>
  (gX11_comes x102 j103 S).bind fun q104 =>
  (mrA q104 39 x1).bind fun x105 =>
  (gX11_over  (sI q104 29 x105)).bind fun q106 =>
  some q106
  else
  (gX11_over  S).bind fun q101 =>
  some q101)))
set_option maxHeartbeats 4000000 in
set_option maxRecDepth 100000 in
theorem GX11_ends (z : Nat → Nat) (am : Nat) (r : aH) (x1 : Int32) (x2 : Int32) (x3 : Int32) (x4 : Int32) (x5 : Int32) (S : mS) : fX11_ends z am x1 x2 x3 x4 x5 (mo am S r) = (gX11_ends x1 x2 x3 x4 x5 S).map (fun S2 => mo am S2 r) := by
  unfold fX11_ends gX11_ends
  simp only [m_rdI, m_rdJ, m_rdR, m_obO, m_wrI, m_wrJ, m_arI2, m_arJ2, m_awI2, m_awJ2, o_bs, o_bm, o_mb, o_ms, o_mn, o_mi, o_bi, o_bn, mk_0, mk_1, mk_2, mk_3, mk_4, mk_5, mk_6, mk_7, mk_8, mk_9, mk_10, mk_11, mk_12, mk_13, mk_14, mk_15, mk_16, mk_17, mk_18, mk_19, mk_20, mk_21, mk_22, mk_23, mk_24, mk_25, mk_26, mk_27, mk_28, mk_29, mk_30, mk_31, mk_32, mk_33, mk_34, mk_35, mk_36, mk_37, mk_38, mk_39, mk_40, mk_41, mk_42, mk_43, mk_44, mk_45, mk_46, true_or, or_true, (GX11_ends_85 z am r), GX11_addOwn, GX11_calls, GX11_comes, GX11_in, GX11_over]
def gX11_fails (x1 : Int32) (S : mS) : Option mS :=
  (gX11_over  (sI S 29 x1)).bind fun q101 =>
  some q101
set_option maxHeartbeats 4000000 in
set_option maxRecDepth 100000 in
theorem GX11_fails (z : Nat → Nat) (am : Nat) (r : aH) (x1 : Int32) (S : mS) : fX11_fails z am x1 (mo am S r) = (gX11_fails x1 S).map (fun S2 => mo am S2 r) := by
  unfold fX11_fails gX11_fails
  simp only [m_rdI, m_rdJ, m_rdR, m_obO, m_wrI, m_wrJ, m_arI2, m_arJ2, m_awI2, m_awJ2, o_bs, o_bm, o_mb, o_ms, o_mn, o_mi, o_bi, o_bn, mk_0, mk_1, mk_2, mk_3, mk_4, mk_5, mk_6, mk_7, mk_8, mk_9, mk_10, mk_11, mk_12, mk_13, mk_14, mk_15, mk_16, mk_17, mk_18, mk_19, mk_20, mk_21, mk_22, mk_23, mk_24, mk_25, mk_26, mk_27, mk_28, mk_29, mk_30, mk_31, mk_32, mk_33, mk_34, mk_35, mk_36, mk_37, mk_38, mk_39, mk_40, mk_41, mk_42, mk_43, mk_44, mk_45, mk_46, true_or, or_true, GX11_over]
def gX11_isCaught_25 (x1 : Int32) (S : mS) : Option (Int32 × mS) :=
  (if x1 = 0 then
  some (1, S)
  else
  (if x1 = (S.1 29) then
  some (1, S)
  else
  some (0, S)))
set_option maxHeartbeats 4000000 in
set_option maxRecDepth 100000 in
theorem GX11_isCaught_25 (z : Nat → Nat) (am : Nat) (r : aH) (x1 : Int32) (S : mS) : fX11_isCaught_25 z am x1 (mo am S r) = (gX11_isCaught_25 x1 S).map (fun q2 => (q2.1, mo am q2.2 r)) := by
  unfold fX11_isCaught_25 gX11_isCaught_25
  simp only [m_rdI, m_rdJ, m_rdR, m_obO, m_wrI, m_wrJ, m_arI2, m_arJ2, m_awI2, m_awJ2, o_bs, o_bm, o_mb, o_ms, o_mn, o_mi, o_bi, o_bn, mk_0, mk_1, mk_2, mk_3, mk_4, mk_5, mk_6, mk_7, mk_8, mk_9, mk_10, mk_11, mk_12, mk_13, mk_14, mk_15, mk_16, mk_17, mk_18, mk_19, mk_20, mk_21, mk_22, mk_23, mk_24, mk_25, mk_26, mk_27, mk_28, mk_29, mk_30, mk_31, mk_32, mk_33, mk_34, mk_35, mk_36, mk_37, mk_38, mk_39, mk_40, mk_41, mk_42, mk_43, mk_44, mk_45, mk_46, true_or, or_true]
def gX11_isCaught_e (x1 : Int32) (S : mS) : Option (Int32 × mS) :=
  (if (S.1 29) ≤ 0 then
  some (0, S)
  else
  (if (S.1 29) < 7 then
  gX11_isCaught_25 x1 S
  else
  (if (S.1 29) ≤ 99 then
  some (0, S)
  else
  gX11_isCaught_25 x1 S)))
def gX11_isCaught (x1 : Int32) (S : mS) : Option (Int32 × mS) := chkM (gX11_isCaught_e x1 S)
set_option maxHeartbeats 4000000 in
set_option maxRecDepth 100000 in
theorem GX11_isCaught (z : Nat → Nat) (am : Nat) (r : aH) (x1 : Int32) (S : mS) : fX11_isCaught z am x1 (mo am S r) = (gX11_isCaught x1 S).map (fun q2 => (q2.1, mo am q2.2 r)) := by
  unfold fX11_isCaught gX11_isCaught
  rw [← chk_map]
  congr 1
  unfold fX11_isCaught_e gX11_isCaught_e
  simp only [m_rdI, m_rdJ, m_rdR, m_obO, m_wrI, m_wrJ, m_arI2, m_arJ2, m_awI2, m_awJ2, o_bs, o_bm, o_mb, o_ms, o_mn, o_mi, o_bi, o_bn, mk_0, mk_1, mk_2, mk_3, mk_4, mk_5, mk_6, mk_7, mk_8, mk_9, mk_10, mk_11, mk_12, mk_13, mk_14, mk_15, mk_16, mk_17, mk_18, mk_19, mk_20, mk_21, mk_22, mk_23, mk_24, mk_25, mk_26, mk_27, mk_28, mk_29, mk_30, mk_31, mk_32, mk_33, mk_34, mk_35, mk_36, mk_37, mk_38, mk_39, mk_40, mk_41, mk_42, mk_43, mk_44, mk_45, mk_46, true_or, or_true, (GX11_isCaught_25 z am r)]
def gX11_last (x1 : Int32) (x2 : Int32) (S : mS) : Option mS :=
  (mwA S 36 x1 9).bind fun S101 =>
  (gX11_calls x2 S101).bind fun q102 =>
  some q102
set_option maxHeartbeats 4000000 in
set_option maxRecDepth 100000 in
theorem GX11_last (z : Nat → Nat) (am : Nat) (r : aH) (x1 : Int32) (x2 : Int32) (S : mS) : fX11_last z am x1 x2 (mo am S r) = (gX11_last x1 x2 S).map (fun S2 => mo am S2 r) := by
  unfold fX11_last gX11_last
  simp only [m_rdI, m_rdJ, m_rdR, m_obO, m_wrI, m_wrJ, m_arI2, m_arJ2, m_awI2, m_awJ2, o_bs, o_bm, o_mb, o_ms, o_mn, o_mi, o_bi, o_bn, mk_0, mk_1, mk_2, mk_3, mk_4, mk_5, mk_6, mk_7, mk_8, mk_9, mk_10, mk_11, mk_12, mk_13, mk_14, mk_15, mk_16, mk_17, mk_18, mk_19, mk_20, mk_21, mk_22, mk_23, mk_24, mk_25, mk_26, mk_27, mk_28, mk_29, mk_30, mk_31, mk_32, mk_33, mk_34, mk_35, mk_36, mk_37, mk_38, mk_39, mk_40, mk_41, mk_42, mk_43, mk_44, mk_45, mk_46, true_or, or_true, GX11_calls]
def gX11_rounds (x1 : Int32) (x2 : Int32) (x3 : Int32) (x4 : Int32) (x5 : Int32) (S : mS) : Option mS :=
  (if x2 = 0 then
  (gX11_calls x3 S).bind fun q114 =>
  some q114
  else
  (if x2 = 1 then
  (mwB S 42 x1 (S.2.1 31)).bind fun S111 =>
  (mwB S111 43 x1 0).bind fun S112 =>
  (gX11_calls x5 S112).bind fun q113 =>
  some q113
  else
  (mrB S 43 x1).bind fun j101 =>
  (mrB S 42 x1).bind fun j102 =>
  (if 0 ≤ (lg_cmp j101 j102) then
  (gX11_over  S).bind fun q103 =>
  some q103
  else
  (gX11_add (S.1 30) (S.2.1 31) S).bind fun q104 =>
  (mrB q104 43 x1).bind fun j105 =>
  (gX11_add 0 j105 q104).bind fun q106 =>
  (mrB q106 43 x1).bind fun j107 =>
  (mwB q106 43 x1 (j107 + 1)).bind fun S108 =>
  (mwA S108 36 x1 2).bind fun S109 =>
  (gX11_calls x4 S109).bind fun q110 =>
  some q110)))
set_option maxHeartbeats 4000000 in
set_option maxRecDepth 100000 in
theorem GX11_rounds (z : Nat → Nat) (am : Nat) (r : aH) (x1 : Int32) (x2 : Int32) (x3 : Int32) (x4 : Int32) (x5 : Int32) (S : mS) : fX11_rounds z am x1 x2 x3 x4 x5 (mo am S r) = (gX11_rounds x1 x2 x3 x4 x5 S).map (fun S2 => mo am S2 r) := by
  unfold fX11_rounds gX11_rounds
  simp only [m_rdI, m_rdJ, m_rdR, m_obO, m_wrI, m_wrJ, m_arI2, m_arJ2, m_awI2, m_awJ2, o_bs, o_bm, o_mb, o_ms, o_mn, o_mi, o_bi, o_bn, mk_0, mk_1, mk_2, mk_3, mk_4, mk_5, mk_6, mk_7, mk_8, mk_9, mk_10, mk_11, mk_12, mk_13, mk_14, mk_15, mk_16, mk_17, mk_18, mk_19, mk_20, mk_21, mk_22, mk_23, mk_24, mk_25, mk_26, mk_27, mk_28, mk_29, mk_30, mk_31, mk_32, mk_33, mk_34, mk_35, mk_36, mk_37, mk_38, mk_39, mk_40, mk_41, mk_42, mk_43, mk_44, mk_45, mk_46, true_or, or_true, GX11_add, GX11_calls, GX11_over]
def gX11_spreads_46 (x1 : Int32) (x4 : Int32) (S : mS) : Option mS :=
  (mrA S 37 (((7 * x1) + x4) - 1)).bind fun x101 =>
  (if x101 = 3 then
  (gX11_fails 3 S).bind fun q103 =>
  some q103
  else
  (gX11_fails 6 S).bind fun q102 =>
  some q102)
set_option maxHeartbeats 4000000 in
set_option maxRecDepth 100000 in
theorem GX11_spreads_46 (z : Nat → Nat) (am : Nat) (r : aH) (x1 : Int32) (x4 : Int32) (S : mS) : fX11_spreads_46 z am x1 x4 (mo am S r) = (gX11_spreads_46 x1 x4 S).map (fun S2 => mo am S2 r) := by
  unfold fX11_spreads_46 gX11_spreads_46
  simp only [m_rdI, m_rdJ, m_rdR, m_obO, m_wrI, m_wrJ, m_arI2, m_arJ2, m_awI2, m_awJ2, o_bs, o_bm, o_mb, o_ms, o_mn, o_mi, o_bi, o_bn, mk_0, mk_1, mk_2, mk_3, mk_4, mk_5, mk_6, mk_7, mk_8, mk_9, mk_10, mk_11, mk_12, mk_13, mk_14, mk_15, mk_16, mk_17, mk_18, mk_19, mk_20, mk_21, mk_22, mk_23, mk_24, mk_25, mk_26, mk_27, mk_28, mk_29, mk_30, mk_31, mk_32, mk_33, mk_34, mk_35, mk_36, mk_37, mk_38, mk_39, mk_40, mk_41, mk_42, mk_43, mk_44, mk_45, mk_46, true_or, or_true, GX11_fails]
def gX11_spreads_88 : Nat → Int32 → Int32 → Int32 → Int32 → Int32 → mS → Option mS
  | 0, _, _, _, _, _, _ => none
  | n + 1, x1, x2, x3, x5, x6, S => (if x3 ≤ x6 then
  (gX11_last x1 x2 S).bind fun q101 =>
  some q101
  else
  (mrA S 15 ((20 * x5) + x6)).bind fun x102 =>
  (gX11_add 0 (Int32.toInt64 x102) S).bind fun q103 =>
  gX11_spreads_88 n x1 x2 x3 x5 (x6 + 1) q103)
set_option maxHeartbeats 4000000 in
set_option maxRecDepth 100000 in
theorem GX11_spreads_88 (z : Nat → Nat) (am : Nat) (r : aH) : ∀ (n : Nat) (x1 : Int32) (x2 : Int32) (x3 : Int32) (x5 : Int32) (x6 : Int32) (S : mS), fX11_spreads_88 z n am x1 x2 x3 x5 x6 (mo am S r) = (gX11_spreads_88 n x1 x2 x3 x5 x6 S).map (fun S2 => mo am S2 r) := by
  intro n
  induction n with
  | zero => intros; rfl
  | succ n ih =>
    intro x1 x2 x3 x5 x6 S
    rw [fX11_spreads_88, gX11_spreads_88]
    simp only [m_rdI, m_rdJ, m_rdR, m_obO, m_wrI, m_wrJ, m_arI2, m_arJ2, m_awI2, m_awJ2, o_bs, o_bm, o_mb, o_ms, o_mn, o_mi, o_bi, o_bn, mk_0, mk_1, mk_2, mk_3, mk_4, mk_5, mk_6, mk_7, mk_8, mk_9, mk_10, mk_11, mk_12, mk_13, mk_14, mk_15, mk_16, mk_17, mk_18, mk_19, mk_20, mk_21, mk_22, mk_23, mk_24, mk_25, mk_26, mk_27, mk_28, mk_29, mk_30, mk_31, mk_32, mk_33, mk_34, mk_35, mk_36, mk_37, mk_38, mk_39, mk_40, mk_41, mk_42, mk_43, mk_44, mk_45, mk_46, true_or, or_true, GX11_add, GX11_last, ih]
def gX11_spreads (x1 : Int32) (x2 : Int32) (x3 : Int32) (x4 : Int32) (S : mS) : Option mS :=
  (mrB S 38 (((7 * x1) + x4) - 1)).bind fun j101 =>
  (mrA S 37 (((7 * x1) + x4) - 1)).bind fun x102 =>
  (if x102 = 3 then
  gX11_spreads_46 x1 x4 S
  else
  (mrA S 14 (Int64.toInt32 j101)).bind fun x103 =>
  (if x103 = x3 then
  (gX11_addOwn x1 0 (x4 - 1) S).bind fun q104 =>
  gX11_spreads_88 4000 x1 x2 x3 (Int64.toInt32 j101) 0 q104
  else
  gX11_spreads_46 x1 x4 S))
set_option maxHeartbeats 4000000 in
set_option maxRecDepth 100000 in
theorem GX11_spreads (z : Nat → Nat) (am : Nat) (r : aH) (x1 : Int32) (x2 : Int32) (x3 : Int32) (x4 : Int32) (S : mS) : fX11_spreads z am x1 x2 x3 x4 (mo am S r) = (gX11_spreads x1 x2 x3 x4 S).map (fun S2 => mo am S2 r) := by
  unfold fX11_spreads gX11_spreads
  simp only [m_rdI, m_rdJ, m_rdR, m_obO, m_wrI, m_wrJ, m_arI2, m_arJ2, m_awI2, m_awJ2, o_bs, o_bm, o_mb, o_ms, o_mn, o_mi, o_bi, o_bn, mk_0, mk_1, mk_2, mk_3, mk_4, mk_5, mk_6, mk_7, mk_8, mk_9, mk_10, mk_11, mk_12, mk_13, mk_14, mk_15, mk_16, mk_17, mk_18, mk_19, mk_20, mk_21, mk_22, mk_23, mk_24, mk_25, mk_26, mk_27, mk_28, mk_29, mk_30, mk_31, mk_32, mk_33, mk_34, mk_35, mk_36, mk_37, mk_38, mk_39, mk_40, mk_41, mk_42, mk_43, mk_44, mk_45, mk_46, true_or, or_true, (GX11_spreads_46 z am r), (GX11_spreads_88 z am r), GX11_addOwn]
def gX11_oneOther_203 : Nat → Int32 → Int32 → Int32 → Int32 → Int32 → mS → Option mS
  | 0, _, _, _, _, _, _ => none
  | n + 1, x1, x4, x6, x7, x9, S => (if x7 ≤ x9 then
  (gX11_last x1 x4 S).bind fun q101 =>
  some q101
  else
  (gX11_digit x6 x7 x9 S).bind fun q102 =>
  (gX11_addOwn x1 q102.1 (q102.1 + 1) q102.2).bind fun q103 =>
  gX11_oneOther_203 n x1 x4 x6 x7 (x9 + 1) q103)
set_option maxHeartbeats 4000000 in
set_option maxRecDepth 100000 in
theorem GX11_oneOther_203 (z : Nat → Nat) (am : Nat) (r : aH) : ∀ (n : Nat) (x1 : Int32) (x4 : Int32) (x6 : Int32) (x7 : Int32) (x9 : Int32) (S : mS), fX11_oneOther_203 z n am x1 x4 x6 x7 x9 (mo am S r) = (gX11_oneOther_203 n x1 x4 x6 x7 x9 S).map (fun S2 => mo am S2 r) := by
  intro n
  induction n with
  | zero => intros; rfl
  | succ n ih =>
    intro x1 x4 x6 x7 x9 S
    rw [fX11_oneOther_203, gX11_oneOther_203]
    simp only [m_rdI, m_rdJ, m_rdR, m_obO, m_wrI, m_wrJ, m_arI2, m_arJ2, m_awI2, m_awJ2, o_bs, o_bm, o_mb, o_ms, o_mn, o_mi, o_bi, o_bn, mk_0, mk_1, mk_2, mk_3, mk_4, mk_5, mk_6, mk_7, mk_8, mk_9, mk_10, mk_11, mk_12, mk_13, mk_14, mk_15, mk_16, mk_17, mk_18, mk_19, mk_20, mk_21, mk_22, mk_23, mk_24, mk_25, mk_26, mk_27, mk_28, mk_29, mk_30, mk_31, mk_32, mk_33, mk_34, mk_35, mk_36, mk_37, mk_38, mk_39, mk_40, mk_41, mk_42, mk_43, mk_44, mk_45, mk_46, true_or, or_true, GX11_addOwn, GX11_digit, GX11_last, ih]
def gX11_oneOther_298 (x1 : Int32) (x4 : Int32) (x7 : Int32) (S : mS) : Option mS :=
  (gX11_addOwn x1 0 x7 S).bind fun q101 =>
  (gX11_last x1 x4 q101).bind fun q102 =>
  some q102
set_option maxHeartbeats 4000000 in
set_option maxRecDepth 100000 in
theorem GX11_oneOther_298 (z : Nat → Nat) (am : Nat) (r : aH) (x1 : Int32) (x4 : Int32) (x7 : Int32) (S : mS) : fX11_oneOther_298 z am x1 x4 x7 (mo am S r) = (gX11_oneOther_298 x1 x4 x7 S).map (fun S2 => mo am S2 r) := by
  unfold fX11_oneOther_298 gX11_oneOther_298
  simp only [m_rdI, m_rdJ, m_rdR, m_obO, m_wrI, m_wrJ, m_arI2, m_arJ2, m_awI2, m_awJ2, o_bs, o_bm, o_mb, o_ms, o_mn, o_mi, o_bi, o_bn, mk_0, mk_1, mk_2, mk_3, mk_4, mk_5, mk_6, mk_7, mk_8, mk_9, mk_10, mk_11, mk_12, mk_13, mk_14, mk_15, mk_16, mk_17, mk_18, mk_19, mk_20, mk_21, mk_22, mk_23, mk_24, mk_25, mk_26, mk_27, mk_28, mk_29, mk_30, mk_31, mk_32, mk_33, mk_34, mk_35, mk_36, mk_37, mk_38, mk_39, mk_40, mk_41, mk_42, mk_43, mk_44, mk_45, mk_46, true_or, or_true, GX11_addOwn, GX11_last]
def gX11_oneOther_457 (x1 : Int32) (x2 : Int32) (x4 : Int32) (x5 : Int32) (x8 : Int32) (sx1 : Int32) (sx2 : Int32) (sx3 : Int32) (S : mS) : Option mS :=
  (gX11_addOwn sx1 sx2 sx3 S).bind fun q101 =>
  (if x8 = 0 then
  (gX11_calls x4 q101).bind fun q105 =>
  some q105
  else
  (if (lg_cmp (q101.2.1 31) 0) = 0 then
  (mrA q101 8 x2).bind fun x102 =>
  (gX11_last x1 x102 q101).bind fun q103 =>
  some q103
  else
  (gX11_last x1 x5 q101).bind fun q104 =>
  some q104))
set_option maxHeartbeats 4000000 in
set_option maxRecDepth 100000 in
theorem GX11_oneOther_457 (z : Nat → Nat) (am : Nat) (r : aH) (x1 : Int32) (x2 : Int32) (x4 : Int32) (x5 : Int32) (x8 : Int32) (sx1 : Int32) (sx2 : Int32) (sx3 : Int32) (S : mS) : fX11_oneOther_457 z am x1 x2 x4 x5 x8 (some am) sx1 sx2 sx3 (mo am S r) = (gX11_oneOther_457 x1 x2 x4 x5 x8 sx1 sx2 sx3 S).map (fun S2 => mo am S2 r) := by
  unfold fX11_oneOther_457 gX11_oneOther_457
  simp only [m_rdI, m_rdJ, m_rdR, m_obO, m_wrI, m_wrJ, m_arI2, m_arJ2, m_awI2, m_awJ2, o_bs, o_bm, o_mb, o_ms, o_mn, o_mi, o_bi, o_bn, mk_0, mk_1, mk_2, mk_3, mk_4, mk_5, mk_6, mk_7, mk_8, mk_9, mk_10, mk_11, mk_12, mk_13, mk_14, mk_15, mk_16, mk_17, mk_18, mk_19, mk_20, mk_21, mk_22, mk_23, mk_24, mk_25, mk_26, mk_27, mk_28, mk_29, mk_30, mk_31, mk_32, mk_33, mk_34, mk_35, mk_36, mk_37, mk_38, mk_39, mk_40, mk_41, mk_42, mk_43, mk_44, mk_45, mk_46, true_or, or_true, GX11_addOwn, GX11_calls, GX11_last]
def gX11_oneOther_647 : Nat → Int32 → Int32 → Int32 → Int32 → Int32 → Int32 → mS → Option mS
  | 0, _, _, _, _, _, _, _ => none
  | n + 1, x1, x4, x6, x7, x9, x10, S => (if x6 ≤ x10 then
  (gX11_addOwn x1 0 (x7 - x6) S).bind fun q101 =>
  (gX11_add 2 (Int32.toInt64 x9) q101).bind fun q102 =>
  (gX11_last x1 x4 q102).bind fun q103 =>
  some q103
  else
  (mrB S 38 ((((7 * x1) + x7) - x6) + x10)).bind fun j104 =>
  (mwA S 15 ((20 * x9) + x10) (Int64.toInt32 j104)).bind fun S105 =>
  gX11_oneOther_647 n x1 x4 x6 x7 x9 (x10 + 1) S105)
set_option maxHeartbeats 4000000 in
set_option maxRecDepth 100000 in
theorem GX11_oneOther_647 (z : Nat → Nat) (am : Nat) (r : aH) : ∀ (n : Nat) (x1 : Int32) (x4 : Int32) (x6 : Int32) (x7 : Int32) (x9 : Int32) (x10 : Int32) (S : mS), fX11_oneOther_647 z n am x1 x4 x6 x7 x9 x10 (mo am S r) = (gX11_oneOther_647 n x1 x4 x6 x7 x9 x10 S).map (fun S2 => mo am S2 r) := by
  intro n
  induction n with
  | zero => intros; rfl
  | succ n ih =>
    intro x1 x4 x6 x7 x9 x10 S
    rw [fX11_oneOther_647, gX11_oneOther_647]
    simp only [m_rdI, m_rdJ, m_rdR, m_obO, m_wrI, m_wrJ, m_arI2, m_arJ2, m_awI2, m_awJ2, o_bs, o_bm, o_mb, o_ms, o_mn, o_mi, o_bi, o_bn, mk_0, mk_1, mk_2, mk_3, mk_4, mk_5, mk_6, mk_7, mk_8, mk_9, mk_10, mk_11, mk_12, mk_13, mk_14, mk_15, mk_16, mk_17, mk_18, mk_19, mk_20, mk_21, mk_22, mk_23, mk_24, mk_25, mk_26, mk_27, mk_28, mk_29, mk_30, mk_31, mk_32, mk_33, mk_34, mk_35, mk_36, mk_37, mk_38, mk_39, mk_40, mk_41, mk_42, mk_43, mk_44, mk_45, mk_46, true_or, or_true, GX11_add, GX11_addOwn, GX11_last, ih]
def gX11_oneOther (x1 : Int32) (x2 : Int32) (S : mS) : Option mS :=
  (mrA S 2 x2).bind fun x101 =>
  (mrA S 6 x2).bind fun x102 =>
  (mrA S 7 x2).bind fun x103 =>
  (mrA S 9 x2).bind fun x104 =>
  (mrA S 3 x2).bind fun x105 =>
  (mrA S 36 x1).bind fun x106 =>
  (mrA S 36 x1).bind fun x107 =>
  (mwA S 36 x1 (x107 + 1)).bind fun S108 =>
  (gX11_begin  S108).bind fun q109 =>
  (if (x101 - 20) = 0 then
  (gX11_addOwn x1 0 x104 q109).bind fun q110 =>
  (mrA q110 11 x2).bind fun x111 =>
  (mrB q110 12 x2).bind fun j112 =>
  (gX11_add x111 j112 q110).bind fun q113 =>
  (gX11_addOwn x1 x104 x105 q113).bind fun q114 =>
  (gX11_last x1 x102 q114).bind fun q115 =>
  some q115
  else
  (if (x101 - 20) = 1 then
  (gX11_addOwn x1 0 x104 q109).bind fun q116 =>
  (gX11_addOwn x1 (x104 + 1) x105 q116).bind fun q117 =>
  (gX11_last x1 x102 q117).bind fun q118 =>
  some q118
  else
  (if (x101 - 20) = 2 then
  gX11_oneOther_203 4000 x1 x102 x104 x105 0 q109
  else
  (if (x101 - 20) = 3 then
  (if x106 = 0 then
  (mrA q109 3 x103).bind fun x121 =>
  (gX11_addOwn x1 0 x121 q109).bind fun q122 =>
  (gX11_calls x103 q122).bind fun q123 =>
  some q123
  else
  (mrA q109 5 x103).bind fun x119 =>
  (if x119 = 4 then
  gX11_oneOther_298 x1 x102 x105 q109
  else
  (gX11_add (q109.1 30) (q109.2.1 31) q109).bind fun q120 =>
  gX11_oneOther_298 x1 x102 x105 q120))
  else
  (if (x101 - 20) = 4 then
  (if x106 = 0 then
  (gX11_addOwn x1 x104 (x104 + 1) q109).bind fun q128 =>
  (gX11_calls x103 q128).bind fun q129 =>
  some q129
  else
  (gX11_addOwn x1 0 x104 q109).bind fun q124 =>
  (gX11_add (q124.1 30) (q124.2.1 31) q124).bind fun q125 =>
  (gX11_addOwn x1 (x104 + 1) x105 q125).bind fun q126 =>
  (gX11_last x1 x102 q126).bind fun q127 =>
  some q127)
  else
  (if (x101 - 20) = 5 then
  (if x106 = 0 then
  (gX11_addOwn x1 0 x105 q109).bind fun q134 =>
  (gX11_calls x102 q134).bind fun q135 =>
  some q135
  else
  (mrA q109 5 x102).bind fun x130 =>
  (if x130 = 4 then
  (gX11_last x1 x103 q109).bind fun q131 =>
  some q131
  else
  (gX11_add (q109.1 30) (q109.2.1 31) q109).bind fun q132 =>
  (gX11_last x1 x103 q132).bind fun q133 =>
  some q133))
  else
  (if (x101 - 20) = 6 then
  (if x106 = 0 then
  (mrA q109 3 x102).bind fun x136 =>
  gX11_oneOther_457 x1 x2 x102 x103 x106 x1 0 x136 q109
  else
  gX11_oneOther_457 x1 x2 x102 x103 x106 x1 0 x105 q109)
  else
  (if (x101 - 20) = 7 then
  (if x106 = 0 then
  (gX11_addOwn x1 0 x105 q109).bind fun q142 =>
  (gX11_calls x102 q142).bind fun q143 =>
  some q143
  else
  (gX11_isCaught x104 q109).bind fun q137 =>
  (if q137.1 = 0 then
  (gX11_over  q137.2).bind fun q138 =>
  some q138
  else
  (gX11_add 0 (Int32.toInt64 (q137.2.1 29)) q137.2).bind fun q139 =>
  (gX11_addOwn x1 0 x105 q139).bind fun q140 =>
  (gX11_last x1 x103 q140).bind fun q141 =>
  some q141))
  else
  (if (x101 - 20) = 8 then
  (gX11_ends x1 x106 x102 x103 x105 q109).bind fun q144 =>
  some q144
  else
  (if (x101 - 20) = 9 then
  (mrA q109 8 x2).bind fun x145 =>
  (gX11_rounds x1 x106 x102 x103 x145 q109).bind fun q146 =>
  some q146
  else
  (if (x101 - 20) = 10 then
  (gX11_spreads x1 x102 x104 x105 q109).bind fun q147 =>
  some q147
  else
  (if (x101 - 20) = 11 then
  (if (q109.1 13) = 60 then
  (gX11_fails 10 q109).bind fun q149 =>
  some q149
  else
  (gX11_newRow x104 q109).bind fun q148 =>
  gX11_oneOther_647 4000 x1 x102 x104 x105 q148.1 0 q148.2)
  else
  (gX11_adapts x1 x106 x2 x102 x105 q109).bind fun q150 =>
  some q150))))))))))))
set_option maxHeartbeats 4000000 in
set_option maxRecDepth 100000 in
theorem GX11_oneOther (z : Nat → Nat) (am : Nat) (r : aH) (x1 : Int32) (x2 : Int32) (S : mS) : fX11_oneOther z am x1 x2 (mo am S r) = (gX11_oneOther x1 x2 S).map (fun S2 => mo am S2 r) := by
  unfold fX11_oneOther gX11_oneOther
  simp only [m_rdI, m_rdJ, m_rdR, m_obO, m_wrI, m_wrJ, m_arI2, m_arJ2, m_awI2, m_awJ2, o_bs, o_bm, o_mb, o_ms, o_mn, o_mi, o_bi, o_bn, mk_0, mk_1, mk_2, mk_3, mk_4, mk_5, mk_6, mk_7, mk_8, mk_9, mk_10, mk_11, mk_12, mk_13, mk_14, mk_15, mk_16, mk_17, mk_18, mk_19, mk_20, mk_21, mk_22, mk_23, mk_24, mk_25, mk_26, mk_27, mk_28, mk_29, mk_30, mk_31, mk_32, mk_33, mk_34, mk_35, mk_36, mk_37, mk_38, mk_39, mk_40, mk_41, mk_42, mk_43, mk_44, mk_45, mk_46, true_or, or_true, (GX11_oneOther_203 z am r), (GX11_oneOther_298 z am r), (GX11_oneOther_457 z am r), (GX11_oneOther_647 z am r), GX11_adapts, GX11_add, GX11_addOwn, GX11_begin, GX11_calls, GX11_ends, GX11_fails, GX11_isCaught, GX11_last, GX11_newRow, GX11_over, GX11_rounds, GX11_spreads]
def gX11_ofRow (x1 : Int32) (x2 : Int32) (j3 : Int64) (j5 : Int64) (S : mS) : Option mS :=
  (mrA S 37 (7 * x1)).bind fun x101 =>
  (if x101 = 3 then
  some (sI S 29 3)
  else
  (if x2 = 10 then
  (mrA S 14 (Int64.toInt32 j3)).bind fun x109 =>
  (gX11_comes 0 (Int32.toInt64 x109) S).bind fun q110 =>
  some q110
  else
  (mrA S 14 (Int64.toInt32 j3)).bind fun x102 =>
  (gX11_in j5 0 (Int32.toInt64 (x102 - 1)) S).bind fun q103 =>
  (if q103.1 = 0 then
  some (sI q103.2 29 4)
  else
  (if x2 = 8 then
  (mrA q103.2 15 ((20 * (Int64.toInt32 j3)) + (Int64.toInt32 j5))).bind fun x107 =>
  (gX11_comes 0 (Int32.toInt64 x107) q103.2).bind fun q108 =>
  some q108
  else
  (mrB q103.2 38 ((7 * x1) + 2)).bind fun j104 =>
  (mwA q103.2 15 ((20 * (Int64.toInt32 j3)) + (Int64.toInt32 j5)) (Int64.toInt32 j104)).bind fun S105 =>
  (gX11_comes 3 0 S105).bind fun q106 =>
  some q106))))
set_option maxHeartbeats 4000000 in
set_option maxRecDepth 100000 in
theorem GX11_ofRow (z : Nat → Nat) (am : Nat) (r : aH) (x1 : Int32) (x2 : Int32) (j3 : Int64) (j5 : Int64) (S : mS) : fX11_ofRow z am x1 x2 j3 j5 (mo am S r) = (gX11_ofRow x1 x2 j3 j5 S).map (fun S2 => mo am S2 r) := by
  unfold fX11_ofRow gX11_ofRow
  simp only [m_rdI, m_rdJ, m_rdR, m_obO, m_wrI, m_wrJ, m_arI2, m_arJ2, m_awI2, m_awJ2, o_bs, o_bm, o_mb, o_ms, o_mn, o_mi, o_bi, o_bn, mk_0, mk_1, mk_2, mk_3, mk_4, mk_5, mk_6, mk_7, mk_8, mk_9, mk_10, mk_11, mk_12, mk_13, mk_14, mk_15, mk_16, mk_17, mk_18, mk_19, mk_20, mk_21, mk_22, mk_23, mk_24, mk_25, mk_26, mk_27, mk_28, mk_29, mk_30, mk_31, mk_32, mk_33, mk_34, mk_35, mk_36, mk_37, mk_38, mk_39, mk_40, mk_41, mk_42, mk_43, mk_44, mk_45, mk_46, true_or, or_true, GX11_comes, GX11_in]
def gX11_plainly_152 (x7 : Int32) (x8 : Int32) (sx1 : Int32) (S : mS) : Option mS :=
  (if x7 = 4 then
  (gX11_comes sx1 0 S).bind fun q103 =>
  (gX11_over  q103).bind fun q104 =>
  some q104
  else
  (gX11_comes sx1 (Int32.toInt64 x8) S).bind fun q101 =>
  (gX11_over  q101).bind fun q102 =>
  some q102)
set_option maxHeartbeats 4000000 in
set_option maxRecDepth 100000 in
theorem GX11_plainly_152 (z : Nat → Nat) (am : Nat) (r : aH) (x7 : Int32) (x8 : Int32) (sx1 : Int32) (S : mS) : fX11_plainly_152 z am x7 x8 (some am) sx1 (mo am S r) = (gX11_plainly_152 x7 x8 sx1 S).map (fun S2 => mo am S2 r) := by
  unfold fX11_plainly_152 gX11_plainly_152
  simp only [m_rdI, m_rdJ, m_rdR, m_obO, m_wrI, m_wrJ, m_arI2, m_arJ2, m_awI2, m_awJ2, o_bs, o_bm, o_mb, o_ms, o_mn, o_mi, o_bi, o_bn, mk_0, mk_1, mk_2, mk_3, mk_4, mk_5, mk_6, mk_7, mk_8, mk_9, mk_10, mk_11, mk_12, mk_13, mk_14, mk_15, mk_16, mk_17, mk_18, mk_19, mk_20, mk_21, mk_22, mk_23, mk_24, mk_25, mk_26, mk_27, mk_28, mk_29, mk_30, mk_31, mk_32, mk_33, mk_34, mk_35, mk_36, mk_37, mk_38, mk_39, mk_40, mk_41, mk_42, mk_43, mk_44, mk_45, mk_46, true_or, or_true, GX11_comes, GX11_over]
def gX11_plainly_390 (x1 : Int32) (x2 : Int32) (j3 : Int64) (j5 : Int64) (S : mS) : Option mS :=
  (mrA S 2 x2).bind fun x101 =>
  (gX11_ofRow x1 x101 j3 j5 S).bind fun q102 =>
  (gX11_over  q102).bind fun q103 =>
  some q103
set_option maxHeartbeats 4000000 in
set_option maxRecDepth 100000 in
theorem GX11_plainly_390 (z : Nat → Nat) (am : Nat) (r : aH) (x1 : Int32) (x2 : Int32) (j3 : Int64) (j5 : Int64) (S : mS) : fX11_plainly_390 z am x1 x2 j3 j5 (mo am S r) = (gX11_plainly_390 x1 x2 j3 j5 S).map (fun S2 => mo am S2 r) := by
  unfold fX11_plainly_390 gX11_plainly_390
  simp only [m_rdI, m_rdJ, m_rdR, m_obO, m_wrI, m_wrJ, m_arI2, m_arJ2, m_awI2, m_awJ2, o_bs, o_bm, o_mb, o_ms, o_mn, o_mi, o_bi, o_bn, mk_0, mk_1, mk_2, mk_3, mk_4, mk_5, mk_6, mk_7, mk_8, mk_9, mk_10, mk_11, mk_12, mk_13, mk_14, mk_15, mk_16, mk_17, mk_18, mk_19, mk_20, mk_21, mk_22, mk_23, mk_24, mk_25, mk_26, mk_27, mk_28, mk_29, mk_30, mk_31, mk_32, mk_33, mk_34, mk_35, mk_36, mk_37, mk_38, mk_39, mk_40, mk_41, mk_42, mk_43, mk_44, mk_45, mk_46, true_or, or_true, GX11_ofRow, GX11_over]
def gX11_plainly_330 (j3 : Int64) (sx1 : Int32) (S : mS) : Option mS :=
  (if ((sI S 29 sx1).1 29) = 0 then
  (gX11_newRow (Int64.toInt32 j3) (sI S 29 sx1)).bind fun q102 =>
  (gX11_comes 2 (Int32.toInt64 q102.1) q102.2).bind fun q103 =>
  (gX11_over  q103).bind fun q104 =>
  some q104
  else
  (gX11_over  (sI S 29 sx1)).bind fun q101 =>
  some q101)
set_option maxHeartbeats 4000000 in
set_option maxRecDepth 100000 in
theorem GX11_plainly_330 (z : Nat → Nat) (am : Nat) (r : aH) (j3 : Int64) (sx1 : Int32) (S : mS) : fX11_plainly_330 z am j3 (some am) sx1 (mo am S r) = (gX11_plainly_330 j3 sx1 S).map (fun S2 => mo am S2 r) := by
  unfold fX11_plainly_330 gX11_plainly_330
  simp only [m_rdI, m_rdJ, m_rdR, m_obO, m_wrI, m_wrJ, m_arI2, m_arJ2, m_awI2, m_awJ2, o_bs, o_bm, o_mb, o_ms, o_mn, o_mi, o_bi, o_bn, mk_0, mk_1, mk_2, mk_3, mk_4, mk_5, mk_6, mk_7, mk_8, mk_9, mk_10, mk_11, mk_12, mk_13, mk_14, mk_15, mk_16, mk_17, mk_18, mk_19, mk_20, mk_21, mk_22, mk_23, mk_24, mk_25, mk_26, mk_27, mk_28, mk_29, mk_30, mk_31, mk_32, mk_33, mk_34, mk_35, mk_36, mk_37, mk_38, mk_39, mk_40, mk_41, mk_42, mk_43, mk_44, mk_45, mk_46, true_or, or_true, GX11_comes, GX11_newRow, GX11_over]
def gX11_plainly (x1 : Int32) (x2 : Int32) (S : mS) : Option mS :=
  (mrB S 38 (7 * x1)).bind fun j101 =>
  (mrB S 38 ((7 * x1) + 1)).bind fun j102 =>
  (mrA S 9 x2).bind fun x103 =>
  (mrA S 10 x2).bind fun x104 =>
  (mrA (sI S 29 0) 2 x2).bind fun x105 =>
  (if x105 = 0 then
  (if x103 = 1 then
  gX11_plainly_152 x103 x104 1 (sI S 29 0)
  else
  (if x103 = 3 then
  gX11_plainly_152 x103 x104 2 (sI S 29 0)
  else
  (if x103 = 4 then
  gX11_plainly_152 x103 x104 3 (sI S 29 0)
  else
  gX11_plainly_152 x103 x104 0 (sI S 29 0))))
  else
  (if x105 = 1 then
  (mrA (sI S 29 0) 37 (7 * x1)).bind fun x106 =>
  (gX11_comes x106 j101 (sI S 29 0)).bind fun q107 =>
  (gX11_over  q107).bind fun q108 =>
  some q108
  else
  (if x105 = 2 then
  (gX11_comes 0 (Int32.toInt64 (Int64.toInt32 (j101 + j102))) (sI S 29 0)).bind fun q109 =>
  (gX11_over  q109).bind fun q110 =>
  some q110
  else
  (if x105 = 3 then
  (gX11_comes 0 (Int32.toInt64 (Int64.toInt32 (j101 - j102))) (sI S 29 0)).bind fun q111 =>
  (gX11_over  q111).bind fun q112 =>
  some q112
  else
  (if x105 = 4 then
  (gX11_comes 0 (Int32.toInt64 (Int64.toInt32 (j101 * j102))) (sI S 29 0)).bind fun q113 =>
  (gX11_over  q113).bind fun q114 =>
  some q114
  else
  (if x105 = 5 then
  (if (lg_cmp j102 0) = 0 then
  (gX11_over  (sI (sI S 29 0) 29 1)).bind fun q117 =>
  some q117
  else
  if j102 = 0 then none else
  (gX11_comes 0 (Int32.toInt64 (Int64.toInt32 (j101 / j102))) (sI S 29 0)).bind fun q115 =>
  (gX11_over  q115).bind fun q116 =>
  some q116)
  else
  (if x105 = 6 then
  (if 0 ≤ (lg_cmp j101 j102) then
  (gX11_comes 0 0 (sI S 29 0)).bind fun q118 =>
  (gX11_over  q118).bind fun q119 =>
  some q119
  else
  (gX11_comes 0 1 (sI S 29 0)).bind fun q120 =>
  (gX11_over  q120).bind fun q121 =>
  some q121)
  else
  (if x105 = 7 then
  (gX11_comes 1 (j101 + j102) (sI S 29 0)).bind fun q122 =>
  (gX11_over  q122).bind fun q123 =>
  some q123
  else
  (if x105 = 8 then
  gX11_plainly_390 x1 x2 j101 j102 (sI S 29 0)
  else
  (if x105 = 9 then
  gX11_plainly_390 x1 x2 j101 j102 (sI S 29 0)
  else
  (if x105 = 10 then
  gX11_plainly_390 x1 x2 j101 j102 (sI S 29 0)
  else
  (if x105 = 11 then
  (if 0 ≤ (lg_cmp j101 0) then
  (if (lg_cmp j101 20) ≤ 0 then
  (if ((sI S 29 0).1 13) = 60 then
  gX11_plainly_330 j101 10 (sI S 29 0)
  else
  gX11_plainly_330 j101 0 (sI S 29 0))
  else
  gX11_plainly_330 j101 6 (sI S 29 0))
  else
  gX11_plainly_330 j101 5 (sI S 29 0))
  else
  (if x105 = 12 then
  (gX11_over  (sI (sI S 29 0) 29 (100 + x104))).bind fun q124 =>
  some q124
  else
  (if x105 = 13 then
  (gX11_comes 0 (Int32.toInt64 ((sI (sI S 29 0) 25 (((sI S 29 0).1 25) + 1)).1 25)) (sI (sI S 29 0) 25 (((sI S 29 0).1 25) + 1))).bind fun q125 =>
  (gX11_over  q125).bind fun q126 =>
  some q126
  else
  gX11_plainly_390 x1 x2 j101 j102 (sI S 29 0)))))))))))))))
set_option maxHeartbeats 4000000 in
set_option maxRecDepth 100000 in
theorem GX11_plainly (z : Nat → Nat) (am : Nat) (r : aH) (x1 : Int32) (x2 : Int32) (S : mS) : fX11_plainly z am x1 x2 (mo am S r) = (gX11_plainly x1 x2 S).map (fun S2 => mo am S2 r) := by
  unfold fX11_plainly gX11_plainly
  simp only [m_rdI, m_rdJ, m_rdR, m_obO, m_wrI, m_wrJ, m_arI2, m_arJ2, m_awI2, m_awJ2, o_bs, o_bm, o_mb, o_ms, o_mn, o_mi, o_bi, o_bn, mk_0, mk_1, mk_2, mk_3, mk_4, mk_5, mk_6, mk_7, mk_8, mk_9, mk_10, mk_11, mk_12, mk_13, mk_14, mk_15, mk_16, mk_17, mk_18, mk_19, mk_20, mk_21, mk_22, mk_23, mk_24, mk_25, mk_26, mk_27, mk_28, mk_29, mk_30, mk_31, mk_32, mk_33, mk_34, mk_35, mk_36, mk_37, mk_38, mk_39, mk_40, mk_41, mk_42, mk_43, mk_44, mk_45, mk_46, true_or, or_true, (GX11_plainly_152 z am r), (GX11_plainly_330 z am r), (GX11_plainly_390 z am r), GX11_comes, GX11_over]
def gX11_goes_117 (K0 : mS → Option mS) (x1 : Int32) (S : mS) : Option mS :=
  (mrA S 35 x1).bind fun x101 =>
  (gX11_oneOther x1 x101 S).bind fun q102 =>
  K0  q102
set_option maxHeartbeats 4000000 in
set_option maxRecDepth 100000 in
theorem GX11_goes_117 (z : Nat → Nat) (am : Nat) (r : aH) (K0 : Nat → aH → Option aH) (J0 : mS → Option mS) (hJ0 : ∀ (S : mS), K0 am (mo am S r) = (J0  S).map (fun S2 => mo am S2 r)) (x1 : Int32) (S : mS) : fX11_goes_117 z K0 am x1 (mo am S r) = (gX11_goes_117 J0 x1 S).map (fun S2 => mo am S2 r) := by
  unfold fX11_goes_117 gX11_goes_117
  simp only [m_rdI, m_rdJ, m_rdR, m_obO, m_wrI, m_wrJ, m_arI2, m_arJ2, m_awI2, m_awJ2, o_bs, o_bm, o_mb, o_ms, o_mn, o_mi, o_bi, o_bn, mk_0, mk_1, mk_2, mk_3, mk_4, mk_5, mk_6, mk_7, mk_8, mk_9, mk_10, mk_11, mk_12, mk_13, mk_14, mk_15, mk_16, mk_17, mk_18, mk_19, mk_20, mk_21, mk_22, mk_23, mk_24, mk_25, mk_26, mk_27, mk_28, mk_29, mk_30, mk_31, mk_32, mk_33, mk_34, mk_35, mk_36, mk_37, mk_38, mk_39, mk_40, mk_41, mk_42, mk_43, mk_44, mk_45, mk_46, true_or, or_true, GX11_oneOther, hJ0]
def gX11_goes_0 : Nat → mS → Option mS
  | 0, _ => none
  | n + 1, S => (if (S.1 33) ≤ 0 then
  some S
  else
  (mrA S 35 ((S.1 33) - 1)).bind fun x101 =>
  (mrA S 2 x101).bind fun x102 =>
  (if 20 ≤ x102 then
  (mrA S 36 ((S.1 33) - 1)).bind fun x103 =>
  (if x103 = 9 then
  (gX11_over  S).bind fun q110 =>
  gX11_goes_0 n  q110
  else
  (mrA S 36 ((S.1 33) - 1)).bind fun x104 =>
  (if x104 ≤ 0 then
  gX11_goes_117 (gX11_goes_0 n) ((S.1 33) - 1) S
  else
  (if (S.1 29) ≤ 0 then
  gX11_goes_117 (gX11_goes_0 n) ((S.1 33) - 1) S
  else
  (mrA S 35 ((S.1 33) - 1)).bind fun x105 =>
  (mrA S 2 x105).bind fun x106 =>
  (if x106 = 27 then
  gX11_goes_117 (gX11_goes_0 n) ((S.1 33) - 1) S
  else
  (mrA S 35 ((S.1 33) - 1)).bind fun x107 =>
  (mrA S 2 x107).bind fun x108 =>
  (if x108 = 28 then
  gX11_goes_117 (gX11_goes_0 n) ((S.1 33) - 1) S
  else
  (gX11_over  S).bind fun q109 =>
  gX11_goes_0 n  q109)))))
  else
  (mrA S 35 ((S.1 33) - 1)).bind fun x111 =>
  (gX11_plainly ((S.1 33) - 1) x111 S).bind fun q112 =>
  gX11_goes_0 n  q112))
set_option maxHeartbeats 4000000 in
set_option maxRecDepth 100000 in
theorem GX11_goes_0 (z : Nat → Nat) (am : Nat) (r : aH) : ∀ (n : Nat) (S : mS), fX11_goes_0 z n am (mo am S r) = (gX11_goes_0 n  S).map (fun S2 => mo am S2 r) := by
  intro n
  induction n with
  | zero => intros; rfl
  | succ n ih =>
    intro  S
    rw [fX11_goes_0, gX11_goes_0]
    simp only [m_rdI, m_rdJ, m_rdR, m_obO, m_wrI, m_wrJ, m_arI2, m_arJ2, m_awI2, m_awJ2, o_bs, o_bm, o_mb, o_ms, o_mn, o_mi, o_bi, o_bn, mk_0, mk_1, mk_2, mk_3, mk_4, mk_5, mk_6, mk_7, mk_8, mk_9, mk_10, mk_11, mk_12, mk_13, mk_14, mk_15, mk_16, mk_17, mk_18, mk_19, mk_20, mk_21, mk_22, mk_23, mk_24, mk_25, mk_26, mk_27, mk_28, mk_29, mk_30, mk_31, mk_32, mk_33, mk_34, mk_35, mk_36, mk_37, mk_38, mk_39, mk_40, mk_41, mk_42, mk_43, mk_44, mk_45, mk_46, true_or, or_true, (GX11_goes_117 z am r (fX11_goes_0 z n) (gX11_goes_0 n) ih), GX11_over, GX11_plainly, ih]
def gX11_goes (S : mS) : Option mS :=
  gX11_goes_0 4000  S
set_option maxHeartbeats 4000000 in
set_option maxRecDepth 100000 in
theorem GX11_goes (z : Nat → Nat) (am : Nat) (r : aH) (S : mS) : fX11_goes z am (mo am S r) = (gX11_goes  S).map (fun S2 => mo am S2 r) := by
  unfold fX11_goes gX11_goes
  simp only [m_rdI, m_rdJ, m_rdR, m_obO, m_wrI, m_wrJ, m_arI2, m_arJ2, m_awI2, m_awJ2, o_bs, o_bm, o_mb, o_ms, o_mn, o_mi, o_bi, o_bn, mk_0, mk_1, mk_2, mk_3, mk_4, mk_5, mk_6, mk_7, mk_8, mk_9, mk_10, mk_11, mk_12, mk_13, mk_14, mk_15, mk_16, mk_17, mk_18, mk_19, mk_20, mk_21, mk_22, mk_23, mk_24, mk_25, mk_26, mk_27, mk_28, mk_29, mk_30, mk_31, mk_32, mk_33, mk_34, mk_35, mk_36, mk_37, mk_38, mk_39, mk_40, mk_41, mk_42, mk_43, mk_44, mk_45, mk_46, true_or, or_true, (GX11_goes_0 z am r)]
def gX11_lay_64 (K11 : Int32 → Int32 → mS → Option mS) (x1 : Int32) (x2 : Int32) (x3 : Int32) (sx1 : Int32) (S : mS) : Option mS :=
  (mrA S 21 x2).bind fun x101 =>
  (mrB S 22 x2).bind fun j102 =>
  (gX11_adapt sx1 x3 x101 j102 S).bind fun q103 =>
  (gX11_add (q103.1 30) (q103.2.1 31) q103).bind fun q104 =>
  K11 x1 (x2 + 1) q104
set_option maxHeartbeats 4000000 in
set_option maxRecDepth 100000 in
theorem GX11_lay_64 (z : Nat → Nat) (am : Nat) (r : aH) (K11 : Nat → Int32 → Int32 → aH → Option aH) (J11 : Int32 → Int32 → mS → Option mS) (hJ11 : ∀ (x1 : Int32) (x2 : Int32) (S : mS), K11 am x1 x2 (mo am S r) = (J11 x1 x2 S).map (fun S2 => mo am S2 r)) (x1 : Int32) (x2 : Int32) (x3 : Int32) (sx1 : Int32) (S : mS) : fX11_lay_64 z K11 am x1 x2 x3 (some am) sx1 (mo am S r) = (gX11_lay_64 J11 x1 x2 x3 sx1 S).map (fun S2 => mo am S2 r) := by
  unfold fX11_lay_64 gX11_lay_64
  simp only [m_rdI, m_rdJ, m_rdR, m_obO, m_wrI, m_wrJ, m_arI2, m_arJ2, m_awI2, m_awJ2, o_bs, o_bm, o_mb, o_ms, o_mn, o_mi, o_bi, o_bn, mk_0, mk_1, mk_2, mk_3, mk_4, mk_5, mk_6, mk_7, mk_8, mk_9, mk_10, mk_11, mk_12, mk_13, mk_14, mk_15, mk_16, mk_17, mk_18, mk_19, mk_20, mk_21, mk_22, mk_23, mk_24, mk_25, mk_26, mk_27, mk_28, mk_29, mk_30, mk_31, mk_32, mk_33, mk_34, mk_35, mk_36, mk_37, mk_38, mk_39, mk_40, mk_41, mk_42, mk_43, mk_44, mk_45, mk_46, true_or, or_true, GX11_adapt, GX11_add, hJ11]
def gX11_lay_58 (K11 : Int32 → Int32 → mS → Option mS) (x1 : Int32) (x2 : Int32) (x3 : Int32) (S : mS) : Option mS :=
  gX11_lay_64 K11 x1 x2 x3 x3 S
set_option maxHeartbeats 4000000 in
set_option maxRecDepth 100000 in
theorem GX11_lay_58 (z : Nat → Nat) (am : Nat) (r : aH) (K11 : Nat → Int32 → Int32 → aH → Option aH) (J11 : Int32 → Int32 → mS → Option mS) (hJ11 : ∀ (x1 : Int32) (x2 : Int32) (S : mS), K11 am x1 x2 (mo am S r) = (J11 x1 x2 S).map (fun S2 => mo am S2 r)) (x1 : Int32) (x2 : Int32) (x3 : Int32) (S : mS) : fX11_lay_58 z K11 am x1 x2 x3 (some am) (mo am S r) = (gX11_lay_58 J11 x1 x2 x3 S).map (fun S2 => mo am S2 r) := by
  unfold fX11_lay_58 gX11_lay_58
  simp only [m_rdI, m_rdJ, m_rdR, m_obO, m_wrI, m_wrJ, m_arI2, m_arJ2, m_awI2, m_awJ2, o_bs, o_bm, o_mb, o_ms, o_mn, o_mi, o_bi, o_bn, mk_0, mk_1, mk_2, mk_3, mk_4, mk_5, mk_6, mk_7, mk_8, mk_9, mk_10, mk_11, mk_12, mk_13, mk_14, mk_15, mk_16, mk_17, mk_18, mk_19, mk_20, mk_21, mk_22, mk_23, mk_24, mk_25, mk_26, mk_27, mk_28, mk_29, mk_30, mk_31, mk_32, mk_33, mk_34, mk_35, mk_36, mk_37, mk_38, mk_39, mk_40, mk_41, mk_42, mk_43, mk_44, mk_45, mk_46, true_or, or_true, (GX11_lay_64 z am r K11 J11 hJ11), hJ11]
def gX11_lay_11 : Nat → Int32 → Int32 → mS → Option mS
  | 0, _, _, _ => none
  | n + 1, x1, x2, S => (if (S.1 20) ≤ x2 then
  some S
  else
  (if (S.1 29) = 0 then
  (mrA S 4 ((6 * x1) + x2)).bind fun x101 =>
  (gX11_typeOfValue x2 x101 S).bind fun q102 =>
  (if q102.1 = x101 then
  gX11_lay_58 (gX11_lay_11 n) x1 x2 x101 q102.2
  else
  (if x101 = 2 then
  gX11_lay_58 (gX11_lay_11 n) x1 x2 x101 q102.2
  else
  gX11_lay_64 (gX11_lay_11 n) x1 x2 x101 q102.1 q102.2))
  else
  some S))
set_option maxHeartbeats 4000000 in
set_option maxRecDepth 100000 in
theorem GX11_lay_11 (z : Nat → Nat) (am : Nat) (r : aH) : ∀ (n : Nat) (x1 : Int32) (x2 : Int32) (S : mS), fX11_lay_11 z n am x1 x2 (mo am S r) = (gX11_lay_11 n x1 x2 S).map (fun S2 => mo am S2 r) := by
  intro n
  induction n with
  | zero => intros; rfl
  | succ n ih =>
    intro x1 x2 S
    rw [fX11_lay_11, gX11_lay_11]
    simp only [m_rdI, m_rdJ, m_rdR, m_obO, m_wrI, m_wrJ, m_arI2, m_arJ2, m_awI2, m_awJ2, o_bs, o_bm, o_mb, o_ms, o_mn, o_mi, o_bi, o_bn, mk_0, mk_1, mk_2, mk_3, mk_4, mk_5, mk_6, mk_7, mk_8, mk_9, mk_10, mk_11, mk_12, mk_13, mk_14, mk_15, mk_16, mk_17, mk_18, mk_19, mk_20, mk_21, mk_22, mk_23, mk_24, mk_25, mk_26, mk_27, mk_28, mk_29, mk_30, mk_31, mk_32, mk_33, mk_34, mk_35, mk_36, mk_37, mk_38, mk_39, mk_40, mk_41, mk_42, mk_43, mk_44, mk_45, mk_46, true_or, or_true, (GX11_lay_58 z am r (fX11_lay_11 z n) (gX11_lay_11 n) ih), (GX11_lay_64 z am r (fX11_lay_11 z n) (gX11_lay_11 n) ih), GX11_typeOfValue, ih]
def gX11_lay (x1 : Int32) (S : mS) : Option mS :=
  (gX11_begin  S).bind fun q101 =>
  gX11_lay_11 4000 x1 0 (sI q101 29 0)
set_option maxHeartbeats 4000000 in
set_option maxRecDepth 100000 in
theorem GX11_lay (z : Nat → Nat) (am : Nat) (r : aH) (x1 : Int32) (S : mS) : fX11_lay z am x1 (mo am S r) = (gX11_lay x1 S).map (fun S2 => mo am S2 r) := by
  unfold fX11_lay gX11_lay
  simp only [m_rdI, m_rdJ, m_rdR, m_obO, m_wrI, m_wrJ, m_arI2, m_arJ2, m_awI2, m_awJ2, o_bs, o_bm, o_mb, o_ms, o_mn, o_mi, o_bi, o_bn, mk_0, mk_1, mk_2, mk_3, mk_4, mk_5, mk_6, mk_7, mk_8, mk_9, mk_10, mk_11, mk_12, mk_13, mk_14, mk_15, mk_16, mk_17, mk_18, mk_19, mk_20, mk_21, mk_22, mk_23, mk_24, mk_25, mk_26, mk_27, mk_28, mk_29, mk_30, mk_31, mk_32, mk_33, mk_34, mk_35, mk_36, mk_37, mk_38, mk_39, mk_40, mk_41, mk_42, mk_43, mk_44, mk_45, mk_46, true_or, or_true, (GX11_lay_11 z am r), GX11_begin]
def gX11_runs (x1 : Int32) (S : mS) : Option mS :=
  (gX11_lay x1 S).bind fun q101 =>
  (if (q101.1 29) = 0 then
  (gX11_calls x1 (sI q101 33 0)).bind fun q102 =>
  (gX11_goes  q102).bind fun q103 =>
  some q103
  else
  some q101)
set_option maxHeartbeats 4000000 in
set_option maxRecDepth 100000 in
theorem GX11_runs (z : Nat → Nat) (am : Nat) (r : aH) (x1 : Int32) (S : mS) : fX11_runs z am x1 (mo am S r) = (gX11_runs x1 S).map (fun S2 => mo am S2 r) := by
  unfold fX11_runs gX11_runs
  simp only [m_rdI, m_rdJ, m_rdR, m_obO, m_wrI, m_wrJ, m_arI2, m_arJ2, m_awI2, m_awJ2, o_bs, o_bm, o_mb, o_ms, o_mn, o_mi, o_bi, o_bn, mk_0, mk_1, mk_2, mk_3, mk_4, mk_5, mk_6, mk_7, mk_8, mk_9, mk_10, mk_11, mk_12, mk_13, mk_14, mk_15, mk_16, mk_17, mk_18, mk_19, mk_20, mk_21, mk_22, mk_23, mk_24, mk_25, mk_26, mk_27, mk_28, mk_29, mk_30, mk_31, mk_32, mk_33, mk_34, mk_35, mk_36, mk_37, mk_38, mk_39, mk_40, mk_41, mk_42, mk_43, mk_44, mk_45, mk_46, true_or, or_true, GX11_calls, GX11_goes, GX11_lay]
def gX11_tells_52 (sx1 : Int32) (S : mS) : Option (Int32 × mS) :=
  (if ((sI S 23 sx1).1 23) = 3 then
  some (1, (sJ (sI S 23 sx1) 24 0))
  else
  some (1, (sJ (sI S 23 sx1) 24 ((sI S 23 sx1).2.1 31))))
set_option maxHeartbeats 4000000 in
set_option maxRecDepth 100000 in
theorem GX11_tells_52 (z : Nat → Nat) (am : Nat) (r : aH) (sx1 : Int32) (S : mS) : fX11_tells_52 z am (some am) sx1 (mo am S r) = (gX11_tells_52 sx1 S).map (fun q2 => (q2.1, mo am q2.2 r)) := by
  unfold fX11_tells_52 gX11_tells_52
  simp only [m_rdI, m_rdJ, m_rdR, m_obO, m_wrI, m_wrJ, m_arI2, m_arJ2, m_awI2, m_awJ2, o_bs, o_bm, o_mb, o_ms, o_mn, o_mi, o_bi, o_bn, mk_0, mk_1, mk_2, mk_3, mk_4, mk_5, mk_6, mk_7, mk_8, mk_9, mk_10, mk_11, mk_12, mk_13, mk_14, mk_15, mk_16, mk_17, mk_18, mk_19, mk_20, mk_21, mk_22, mk_23, mk_24, mk_25, mk_26, mk_27, mk_28, mk_29, mk_30, mk_31, mk_32, mk_33, mk_34, mk_35, mk_36, mk_37, mk_38, mk_39, mk_40, mk_41, mk_42, mk_43, mk_44, mk_45, mk_46, true_or, or_true]
def gX11_tells (x1 : Int32) (S : mS) : Option (Int32 × mS) :=
  (if ((sI S 26 (S.1 29)).1 29) ≤ 0 then
  (mrA (sI S 26 (S.1 29)) 5 x1).bind fun x101 =>
  (if x101 = 4 then
  gX11_tells_52 3 (sI S 26 (S.1 29))
  else
  gX11_tells_52 ((sI S 26 (S.1 29)).1 30) (sI S 26 (S.1 29)))
  else
  some (((-10) - ((sJ (sI (sI S 26 (S.1 29)) 23 3) 24 0).1 29)), (sJ (sI (sI S 26 (S.1 29)) 23 3) 24 0)))
set_option maxHeartbeats 4000000 in
set_option maxRecDepth 100000 in
theorem GX11_tells (z : Nat → Nat) (am : Nat) (r : aH) (x1 : Int32) (S : mS) : fX11_tells z am x1 (mo am S r) = (gX11_tells x1 S).map (fun q2 => (q2.1, mo am q2.2 r)) := by
  unfold fX11_tells gX11_tells
  simp only [m_rdI, m_rdJ, m_rdR, m_obO, m_wrI, m_wrJ, m_arI2, m_arJ2, m_awI2, m_awJ2, o_bs, o_bm, o_mb, o_ms, o_mn, o_mi, o_bi, o_bn, mk_0, mk_1, mk_2, mk_3, mk_4, mk_5, mk_6, mk_7, mk_8, mk_9, mk_10, mk_11, mk_12, mk_13, mk_14, mk_15, mk_16, mk_17, mk_18, mk_19, mk_20, mk_21, mk_22, mk_23, mk_24, mk_25, mk_26, mk_27, mk_28, mk_29, mk_30, mk_31, mk_32, mk_33, mk_34, mk_35, mk_36, mk_37, mk_38, mk_39, mk_40, mk_41, mk_42, mk_43, mk_44, mk_45, mk_46, true_or, or_true, (GX11_tells_52 z am r)]
def gX11_run (x1 : Int32) (x2 : Int32) (S : mS) : Option (Int32 × mS) :=
  (gX11_isHandle x1 (sI S 0 0)).bind fun q101 =>
  (if q101.1 = 0 then
  some ((-2), q101.2)
  else
  (gX11_isWrong x1 x2 (sI (sI q101.2 32 0) 29 7)).bind fun q102 =>
  (if q102.1 = 0 then
  (gX11_runs x1 q102.2).bind fun q104 =>
  (gX11_tells x1 q104).bind fun q105 =>
  some (q105.1, q105.2)
  else
  (gX11_tells x1 q102.2).bind fun q103 =>
  some (q103.1, q103.2)))
set_option maxHeartbeats 4000000 in
set_option maxRecDepth 100000 in
theorem GX11_run (z : Nat → Nat) (am : Nat) (r : aH) (x1 : Int32) (x2 : Int32) (S : mS) : fX11_run z am x1 x2 (mo am S r) = (gX11_run x1 x2 S).map (fun q2 => (q2.1, mo am q2.2 r)) := by
  unfold fX11_run gX11_run
  simp only [m_rdI, m_rdJ, m_rdR, m_obO, m_wrI, m_wrJ, m_arI2, m_arJ2, m_awI2, m_awJ2, o_bs, o_bm, o_mb, o_ms, o_mn, o_mi, o_bi, o_bn, mk_0, mk_1, mk_2, mk_3, mk_4, mk_5, mk_6, mk_7, mk_8, mk_9, mk_10, mk_11, mk_12, mk_13, mk_14, mk_15, mk_16, mk_17, mk_18, mk_19, mk_20, mk_21, mk_22, mk_23, mk_24, mk_25, mk_26, mk_27, mk_28, mk_29, mk_30, mk_31, mk_32, mk_33, mk_34, mk_35, mk_36, mk_37, mk_38, mk_39, mk_40, mk_41, mk_42, mk_43, mk_44, mk_45, mk_46, true_or, or_true, GX11_isHandle, GX11_isWrong, GX11_runs, GX11_tells]
def gX11_areAlike_e (x1 : Int32) (x2 : Int32) (S : mS) : Option (Int32 × mS) :=
  (mrA S 3 x1).bind fun x101 =>
  (mrA S 3 x2).bind fun x102 =>
  (if x101 = x102 then
  (gX11_begins x1 0 x2 0 S).bind fun q103 =>
  (if q103.1 = 0 then
  some (0, q103.2)
  else
  (mrA q103.2 5 x1).bind fun x104 =>
  (mrA q103.2 5 x2).bind fun x105 =>
  (if x104 = x105 then
  some (1, q103.2)
  else
  some (0, q103.2)))
  else
  some (0, S))
def gX11_areAlike (x1 : Int32) (x2 : Int32) (S : mS) : Option (Int32 × mS) := chkM (gX11_areAlike_e x1 x2 S)
set_option maxHeartbeats 4000000 in
set_option maxRecDepth 100000 in
theorem GX11_areAlike (z : Nat → Nat) (am : Nat) (r : aH) (x1 : Int32) (x2 : Int32) (S : mS) : fX11_areAlike z am x1 x2 (mo am S r) = (gX11_areAlike x1 x2 S).map (fun q2 => (q2.1, mo am q2.2 r)) := by
  unfold fX11_areAlike gX11_areAlike
  rw [← chk_map]
  congr 1
  unfold fX11_areAlike_e gX11_areAlike_e
  simp only [m_rdI, m_rdJ, m_rdR, m_obO, m_wrI, m_wrJ, m_arI2, m_arJ2, m_awI2, m_awJ2, o_bs, o_bm, o_mb, o_ms, o_mn, o_mi, o_bi, o_bn, mk_0, mk_1, mk_2, mk_3, mk_4, mk_5, mk_6, mk_7, mk_8, mk_9, mk_10, mk_11, mk_12, mk_13, mk_14, mk_15, mk_16, mk_17, mk_18, mk_19, mk_20, mk_21, mk_22, mk_23, mk_24, mk_25, mk_26, mk_27, mk_28, mk_29, mk_30, mk_31, mk_32, mk_33, mk_34, mk_35, mk_36, mk_37, mk_38, mk_39, mk_40, mk_41, mk_42, mk_43, mk_44, mk_45, mk_46, true_or, or_true, GX11_begins]
def gX11_runSite_181 (x1 : Int32) (x3 : Int32) (S : mS) : Option (Int32 × mS) :=
  (if (S.1 29) = 0 then
  (mrA S 19 x1).bind fun x102 =>
  (gX11_runs x102 S).bind fun q103 =>
  (gX11_tells x3 q103).bind fun q104 =>
  some (q104.1, q104.2)
  else
  (gX11_tells x3 S).bind fun q101 =>
  some (q101.1, q101.2))
set_option maxHeartbeats 4000000 in
set_option maxRecDepth 100000 in
theorem GX11_runSite_181 (z : Nat → Nat) (am : Nat) (r : aH) (x1 : Int32) (x3 : Int32) (S : mS) : fX11_runSite_181 z am x1 x3 (mo am S r) = (gX11_runSite_181 x1 x3 S).map (fun q2 => (q2.1, mo am q2.2 r)) := by
  unfold fX11_runSite_181 gX11_runSite_181
  simp only [m_rdI, m_rdJ, m_rdR, m_obO, m_wrI, m_wrJ, m_arI2, m_arJ2, m_awI2, m_awJ2, o_bs, o_bm, o_mb, o_ms, o_mn, o_mi, o_bi, o_bn, mk_0, mk_1, mk_2, mk_3, mk_4, mk_5, mk_6, mk_7, mk_8, mk_9, mk_10, mk_11, mk_12, mk_13, mk_14, mk_15, mk_16, mk_17, mk_18, mk_19, mk_20, mk_21, mk_22, mk_23, mk_24, mk_25, mk_26, mk_27, mk_28, mk_29, mk_30, mk_31, mk_32, mk_33, mk_34, mk_35, mk_36, mk_37, mk_38, mk_39, mk_40, mk_41, mk_42, mk_43, mk_44, mk_45, mk_46, true_or, or_true, GX11_runs, GX11_tells]
def gX11_runSite_178 (x1 : Int32) (x3 : Int32) (sx1 : Int32) (S : mS) : Option (Int32 × mS) :=
  gX11_runSite_181 x1 x3 (sI S 29 sx1)
set_option maxHeartbeats 4000000 in
set_option maxRecDepth 100000 in
theorem GX11_runSite_178 (z : Nat → Nat) (am : Nat) (r : aH) (x1 : Int32) (x3 : Int32) (sx1 : Int32) (S : mS) : fX11_runSite_178 z am x1 x3 (some am) sx1 (mo am S r) = (gX11_runSite_178 x1 x3 sx1 S).map (fun q2 => (q2.1, mo am q2.2 r)) := by
  unfold fX11_runSite_178 gX11_runSite_178
  simp only [m_rdI, m_rdJ, m_rdR, m_obO, m_wrI, m_wrJ, m_arI2, m_arJ2, m_awI2, m_awJ2, o_bs, o_bm, o_mb, o_ms, o_mn, o_mi, o_bi, o_bn, mk_0, mk_1, mk_2, mk_3, mk_4, mk_5, mk_6, mk_7, mk_8, mk_9, mk_10, mk_11, mk_12, mk_13, mk_14, mk_15, mk_16, mk_17, mk_18, mk_19, mk_20, mk_21, mk_22, mk_23, mk_24, mk_25, mk_26, mk_27, mk_28, mk_29, mk_30, mk_31, mk_32, mk_33, mk_34, mk_35, mk_36, mk_37, mk_38, mk_39, mk_40, mk_41, mk_42, mk_43, mk_44, mk_45, mk_46, true_or, or_true, (GX11_runSite_181 z am r)]
def gX11_runSite_165 (x1 : Int32) (x3 : Int32) (x4 : Int32) (sx1 : Int32) (sx2 : Int32) (S : mS) : Option (Int32 × mS) :=
  (mwA S 19 sx1 sx2).bind fun S101 =>
  (if x4 = 0 then
  gX11_runSite_178 x1 x3 8 S101
  else
  gX11_runSite_178 x1 x3 0 S101)
set_option maxHeartbeats 4000000 in
set_option maxRecDepth 100000 in
theorem GX11_runSite_165 (z : Nat → Nat) (am : Nat) (r : aH) (x1 : Int32) (x3 : Int32) (x4 : Int32) (sx1 : Int32) (sx2 : Int32) (S : mS) : fX11_runSite_165 z am x1 x3 x4 (some (mAd am 19)) sx1 sx2 (mo am S r) = (gX11_runSite_165 x1 x3 x4 sx1 sx2 S).map (fun q2 => (q2.1, mo am q2.2 r)) := by
  unfold fX11_runSite_165 gX11_runSite_165
  simp only [m_rdI, m_rdJ, m_rdR, m_obO, m_wrI, m_wrJ, m_arI2, m_arJ2, m_awI2, m_awJ2, o_bs, o_bm, o_mb, o_ms, o_mn, o_mi, o_bi, o_bn, mk_0, mk_1, mk_2, mk_3, mk_4, mk_5, mk_6, mk_7, mk_8, mk_9, mk_10, mk_11, mk_12, mk_13, mk_14, mk_15, mk_16, mk_17, mk_18, mk_19, mk_20, mk_21, mk_22, mk_23, mk_24, mk_25, mk_26, mk_27, mk_28, mk_29, mk_30, mk_31, mk_32, mk_33, mk_34, mk_35, mk_36, mk_37, mk_38, mk_39, mk_40, mk_41, mk_42, mk_43, mk_44, mk_45, mk_46, true_or, or_true, (GX11_runSite_178 z am r)]
def gX11_runSite_144 (x1 : Int32) (x3 : Int32) (sx0 : Int32) (S : mS) : Option (Int32 × mS) :=
  (if sx0 = 0 then
  gX11_runSite_165 x1 x3 sx0 x1 (-1) S
  else
  gX11_runSite_165 x1 x3 sx0 x1 (Int64.toInt32 (S.2.1 31)) S)
set_option maxHeartbeats 4000000 in
set_option maxRecDepth 100000 in
theorem GX11_runSite_144 (z : Nat → Nat) (am : Nat) (r : aH) (x1 : Int32) (x3 : Int32) (sx0 : Int32) (S : mS) : fX11_runSite_144 z am x1 x3 sx0 (mo am S r) = (gX11_runSite_144 x1 x3 sx0 S).map (fun q2 => (q2.1, mo am q2.2 r)) := by
  unfold fX11_runSite_144 gX11_runSite_144
  simp only [m_rdI, m_rdJ, m_rdR, m_obO, m_wrI, m_wrJ, m_arI2, m_arJ2, m_awI2, m_awJ2, o_bs, o_bm, o_mb, o_ms, o_mn, o_mi, o_bi, o_bn, mk_0, mk_1, mk_2, mk_3, mk_4, mk_5, mk_6, mk_7, mk_8, mk_9, mk_10, mk_11, mk_12, mk_13, mk_14, mk_15, mk_16, mk_17, mk_18, mk_19, mk_20, mk_21, mk_22, mk_23, mk_24, mk_25, mk_26, mk_27, mk_28, mk_29, mk_30, mk_31, mk_32, mk_33, mk_34, mk_35, mk_36, mk_37, mk_38, mk_39, mk_40, mk_41, mk_42, mk_43, mk_44, mk_45, mk_46, true_or, or_true, (GX11_runSite_165 z am r)]
def gX11_runSite_143 (x1 : Int32) (x3 : Int32) (S : mS) : Option (Int32 × mS) :=
  gX11_runSite_144 x1 x3 0 S
set_option maxHeartbeats 4000000 in
set_option maxRecDepth 100000 in
theorem GX11_runSite_143 (z : Nat → Nat) (am : Nat) (r : aH) (x1 : Int32) (x3 : Int32) (S : mS) : fX11_runSite_143 z am x1 x3 (mo am S r) = (gX11_runSite_143 x1 x3 S).map (fun q2 => (q2.1, mo am q2.2 r)) := by
  unfold fX11_runSite_143 gX11_runSite_143
  simp only [m_rdI, m_rdJ, m_rdR, m_obO, m_wrI, m_wrJ, m_arI2, m_arJ2, m_awI2, m_awJ2, o_bs, o_bm, o_mb, o_ms, o_mn, o_mi, o_bi, o_bn, mk_0, mk_1, mk_2, mk_3, mk_4, mk_5, mk_6, mk_7, mk_8, mk_9, mk_10, mk_11, mk_12, mk_13, mk_14, mk_15, mk_16, mk_17, mk_18, mk_19, mk_20, mk_21, mk_22, mk_23, mk_24, mk_25, mk_26, mk_27, mk_28, mk_29, mk_30, mk_31, mk_32, mk_33, mk_34, mk_35, mk_36, mk_37, mk_38, mk_39, mk_40, mk_41, mk_42, mk_43, mk_44, mk_45, mk_46, true_or, or_true, (GX11_runSite_144 z am r)]
def gX11_runSite (x1 : Int32) (x2 : Int32) (S : mS) : Option (Int32 × mS) :=
  (gX11_in (Int32.toInt64 x1) 0 (Int32.toInt64 (((sI S 0 0).1 16) - 1)) (sI S 0 0)).bind fun q101 =>
  (if q101.1 = 0 then
  some ((-2), q101.2)
  else
  (mrA (sI q101.2 32 0) 17 x1).bind fun x102 =>
  (gX11_isWrong x102 x2 (sI q101.2 32 0)).bind fun q103 =>
  (if q103.1 = 0 then
  (gX11_lay x102 q103.2).bind fun q104 =>
  (if (q104.1 29) = 0 then
  (mrA q104 19 x1).bind fun x105 =>
  (if 0 ≤ x105 then
  gX11_runSite_181 x1 x102 q104
  else
  (gX11_begin  q104).bind fun q106 =>
  (mrA (sI q106 33 0) 18 x1).bind fun x107 =>
  (gX11_calls x107 (sI q106 33 0)).bind fun q108 =>
  (gX11_goes  q108).bind fun q109 =>
  (if (q109.1 29) = 0 then
  (gX11_in (q109.2.1 31) 0 (Int32.toInt64 ((q109.1 1) - 1)) q109).bind fun q110 =>
  (if q110.1 = 0 then
  gX11_runSite_143 x1 x102 q110.2
  else
  (gX11_areAlike (Int64.toInt32 (q110.2.2.1 31)) x102 q110.2).bind fun q111 =>
  (if q111.1 = 0 then
  gX11_runSite_143 x1 x102 q111.2
  else
  gX11_runSite_144 x1 x102 1 q111.2))
  else
  gX11_runSite_181 x1 x102 q109))
  else
  gX11_runSite_181 x1 x102 q104)
  else
  (gX11_tells x102 (sI q103.2 29 7)).bind fun q112 =>
  some (q112.1, q112.2)))
set_option maxHeartbeats 4000000 in
set_option maxRecDepth 100000 in
theorem GX11_runSite (z : Nat → Nat) (am : Nat) (r : aH) (x1 : Int32) (x2 : Int32) (S : mS) : fX11_runSite z am x1 x2 (mo am S r) = (gX11_runSite x1 x2 S).map (fun q2 => (q2.1, mo am q2.2 r)) := by
  unfold fX11_runSite gX11_runSite
  simp only [m_rdI, m_rdJ, m_rdR, m_obO, m_wrI, m_wrJ, m_arI2, m_arJ2, m_awI2, m_awJ2, o_bs, o_bm, o_mb, o_ms, o_mn, o_mi, o_bi, o_bn, mk_0, mk_1, mk_2, mk_3, mk_4, mk_5, mk_6, mk_7, mk_8, mk_9, mk_10, mk_11, mk_12, mk_13, mk_14, mk_15, mk_16, mk_17, mk_18, mk_19, mk_20, mk_21, mk_22, mk_23, mk_24, mk_25, mk_26, mk_27, mk_28, mk_29, mk_30, mk_31, mk_32, mk_33, mk_34, mk_35, mk_36, mk_37, mk_38, mk_39, mk_40, mk_41, mk_42, mk_43, mk_44, mk_45, mk_46, true_or, or_true, (GX11_runSite_143 z am r), (GX11_runSite_144 z am r), (GX11_runSite_181 z am r), GX11_areAlike, GX11_begin, GX11_calls, GX11_goes, GX11_in, GX11_isWrong, GX11_lay, GX11_tells]
def gX11_set (x1 : Int32) (x2 : Int32) (x3 : Int32) (S : mS) : Option (Int32 × mS) :=
  (gX11_isRow (Int32.toInt64 x1) (sI S 0 0)).bind fun q101 =>
  (if q101.1 = 0 then
  some ((-2), q101.2)
  else
  (mrA q101.2 14 x1).bind fun x102 =>
  (gX11_in (Int32.toInt64 x2) 0 (Int32.toInt64 (x102 - 1)) q101.2).bind fun q103 =>
  (if q103.1 = 0 then
  some ((-2), q103.2)
  else
  (mwA q103.2 15 ((20 * x1) + x2) x3).bind fun S104 =>
  some (1, S104)))
set_option maxHeartbeats 4000000 in
set_option maxRecDepth 100000 in
theorem GX11_set (z : Nat → Nat) (am : Nat) (r : aH) (x1 : Int32) (x2 : Int32) (x3 : Int32) (S : mS) : fX11_set z am x1 x2 x3 (mo am S r) = (gX11_set x1 x2 x3 S).map (fun q2 => (q2.1, mo am q2.2 r)) := by
  unfold fX11_set gX11_set
  simp only [m_rdI, m_rdJ, m_rdR, m_obO, m_wrI, m_wrJ, m_arI2, m_arJ2, m_awI2, m_awJ2, o_bs, o_bm, o_mb, o_ms, o_mn, o_mi, o_bi, o_bn, mk_0, mk_1, mk_2, mk_3, mk_4, mk_5, mk_6, mk_7, mk_8, mk_9, mk_10, mk_11, mk_12, mk_13, mk_14, mk_15, mk_16, mk_17, mk_18, mk_19, mk_20, mk_21, mk_22, mk_23, mk_24, mk_25, mk_26, mk_27, mk_28, mk_29, mk_30, mk_31, mk_32, mk_33, mk_34, mk_35, mk_36, mk_37, mk_38, mk_39, mk_40, mk_41, mk_42, mk_43, mk_44, mk_45, mk_46, true_or, or_true, GX11_in, GX11_isRow]
def gX11_site (x1 : Int32) (x2 : Int32) (S : mS) : Option (Int32 × mS) :=
  (gX11_isHandle x1 (sI S 0 0)).bind fun q101 =>
  (if q101.1 = 0 then
  some ((-2), q101.2)
  else
  (gX11_isHandle x2 q101.2).bind fun q102 =>
  (if q102.1 = 0 then
  some ((-2), q102.2)
  else
  (mrA q102.2 3 x2).bind fun x103 =>
  (if x103 = 0 then
  (mrA q102.2 5 x2).bind fun x104 =>
  (if x104 = 0 then
  (if (q102.2.1 16) = 10 then
  some ((-5), q102.2)
  else
  (mwA q102.2 17 (q102.2.1 16) x1).bind fun S105 =>
  (mwA S105 18 (S105.1 16) x2).bind fun S106 =>
  (mwA S106 19 (S106.1 16) (-1)).bind fun S107 =>
  some ((((sI S107 16 ((S107.1 16) + 1)).1 16) - 1), (sI S107 16 ((S107.1 16) + 1))))
  else
  some ((-4), q102.2))
  else
  some ((-4), q102.2))))
set_option maxHeartbeats 4000000 in
set_option maxRecDepth 100000 in
theorem GX11_site (z : Nat → Nat) (am : Nat) (r : aH) (x1 : Int32) (x2 : Int32) (S : mS) : fX11_site z am x1 x2 (mo am S r) = (gX11_site x1 x2 S).map (fun q2 => (q2.1, mo am q2.2 r)) := by
  unfold fX11_site gX11_site
  simp only [m_rdI, m_rdJ, m_rdR, m_obO, m_wrI, m_wrJ, m_arI2, m_arJ2, m_awI2, m_awJ2, o_bs, o_bm, o_mb, o_ms, o_mn, o_mi, o_bi, o_bn, mk_0, mk_1, mk_2, mk_3, mk_4, mk_5, mk_6, mk_7, mk_8, mk_9, mk_10, mk_11, mk_12, mk_13, mk_14, mk_15, mk_16, mk_17, mk_18, mk_19, mk_20, mk_21, mk_22, mk_23, mk_24, mk_25, mk_26, mk_27, mk_28, mk_29, mk_30, mk_31, mk_32, mk_33, mk_34, mk_35, mk_36, mk_37, mk_38, mk_39, mk_40, mk_41, mk_42, mk_43, mk_44, mk_45, mk_46, true_or, or_true, GX11_isHandle]
def gX11_told (x1 : Int32) (S : mS) : Option (Int32 × mS) :=
  (if x1 = 0 then
  some (((sI S 0 0).1 1), (sI S 0 0))
  else
  (if x1 = 1 then
  some (((sI S 0 0).1 13), (sI S 0 0))
  else
  (if x1 = 2 then
  some (((sI S 0 0).1 16), (sI S 0 0))
  else
  (if x1 = 3 then
  some (((sI S 0 0).1 20), (sI S 0 0))
  else
  (if x1 = 4 then
  some (((sI S 0 0).1 32), (sI S 0 0))
  else
  (if x1 = 5 then
  some (((sI S 0 0).1 25), (sI S 0 0))
  else
  (if x1 = 6 then
  some (((sI S 0 0).1 26), (sI S 0 0))
  else
  some ((-3), (sI S 0 0)))))))))
set_option maxHeartbeats 4000000 in
set_option maxRecDepth 100000 in
theorem GX11_told (z : Nat → Nat) (am : Nat) (r : aH) (x1 : Int32) (S : mS) : fX11_told z am x1 (mo am S r) = (gX11_told x1 S).map (fun q2 => (q2.1, mo am q2.2 r)) := by
  unfold fX11_told gX11_told
  simp only [m_rdI, m_rdJ, m_rdR, m_obO, m_wrI, m_wrJ, m_arI2, m_arJ2, m_awI2, m_awJ2, o_bs, o_bm, o_mb, o_ms, o_mn, o_mi, o_bi, o_bn, mk_0, mk_1, mk_2, mk_3, mk_4, mk_5, mk_6, mk_7, mk_8, mk_9, mk_10, mk_11, mk_12, mk_13, mk_14, mk_15, mk_16, mk_17, mk_18, mk_19, mk_20, mk_21, mk_22, mk_23, mk_24, mk_25, mk_26, mk_27, mk_28, mk_29, mk_30, mk_31, mk_32, mk_33, mk_34, mk_35, mk_36, mk_37, mk_38, mk_39, mk_40, mk_41, mk_42, mk_43, mk_44, mk_45, mk_46, true_or, or_true]
def gX11_turn (x1 : Int32) (x2 : Int32) (S : mS) : Option (Int32 × mS) :=
  (gX11_in (Int32.toInt64 x1) 0 (Int32.toInt64 (((sI S 0 0).1 16) - 1)) (sI S 0 0)).bind fun q101 =>
  (if q101.1 = 0 then
  some ((-2), q101.2)
  else
  (gX11_isHandle x2 q101.2).bind fun q102 =>
  (if q102.1 = 0 then
  some ((-2), q102.2)
  else
  (mrA q102.2 19 x1).bind fun x103 =>
  (if x103 < 0 then
  some ((-4), q102.2)
  else
  (mrA q102.2 17 x1).bind fun x104 =>
  (gX11_areAlike x2 x104 q102.2).bind fun q105 =>
  (if q105.1 = 0 then
  some ((-4), q105.2)
  else
  (mwA q105.2 19 x1 x2).bind fun S106 =>
  some (1, S106)))))
set_option maxHeartbeats 4000000 in
set_option maxRecDepth 100000 in
theorem GX11_turn (z : Nat → Nat) (am : Nat) (r : aH) (x1 : Int32) (x2 : Int32) (S : mS) : fX11_turn z am x1 x2 (mo am S r) = (gX11_turn x1 x2 S).map (fun q2 => (q2.1, mo am q2.2 r)) := by
  unfold fX11_turn gX11_turn
  simp only [m_rdI, m_rdJ, m_rdR, m_obO, m_wrI, m_wrJ, m_arI2, m_arJ2, m_awI2, m_awJ2, o_bs, o_bm, o_mb, o_ms, o_mn, o_mi, o_bi, o_bn, mk_0, mk_1, mk_2, mk_3, mk_4, mk_5, mk_6, mk_7, mk_8, mk_9, mk_10, mk_11, mk_12, mk_13, mk_14, mk_15, mk_16, mk_17, mk_18, mk_19, mk_20, mk_21, mk_22, mk_23, mk_24, mk_25, mk_26, mk_27, mk_28, mk_29, mk_30, mk_31, mk_32, mk_33, mk_34, mk_35, mk_36, mk_37, mk_38, mk_39, mk_40, mk_41, mk_42, mk_43, mk_44, mk_45, mk_46, true_or, or_true, GX11_areAlike, GX11_in, GX11_isHandle]
def gX11_value_98 (x1 : Int32) (sx1 : Int32) (sj2 : Int64) (S : mS) : Option (Int32 × mS) :=
  (mwB S 22 sx1 sj2).bind fun S101 =>
  some (((sI S101 20 (x1 + 1)).1 20), (sI S101 20 (x1 + 1)))
set_option maxHeartbeats 4000000 in
set_option maxRecDepth 100000 in
theorem GX11_value_98 (z : Nat → Nat) (am : Nat) (r : aH) (x1 : Int32) (sx1 : Int32) (sj2 : Int64) (S : mS) : fX11_value_98 z am x1 (some (mAd am 22)) sx1 sj2 (mo am S r) = (gX11_value_98 x1 sx1 sj2 S).map (fun q2 => (q2.1, mo am q2.2 r)) := by
  unfold fX11_value_98 gX11_value_98
  simp only [m_rdI, m_rdJ, m_rdR, m_obO, m_wrI, m_wrJ, m_arI2, m_arJ2, m_awI2, m_awJ2, o_bs, o_bm, o_mb, o_ms, o_mn, o_mi, o_bi, o_bn, mk_0, mk_1, mk_2, mk_3, mk_4, mk_5, mk_6, mk_7, mk_8, mk_9, mk_10, mk_11, mk_12, mk_13, mk_14, mk_15, mk_16, mk_17, mk_18, mk_19, mk_20, mk_21, mk_22, mk_23, mk_24, mk_25, mk_26, mk_27, mk_28, mk_29, mk_30, mk_31, mk_32, mk_33, mk_34, mk_35, mk_36, mk_37, mk_38, mk_39, mk_40, mk_41, mk_42, mk_43, mk_44, mk_45, mk_46, true_or, or_true]
def gX11_value_76 (x1 : Int32) (x2 : Int32) (j3 : Int64) (S : mS) : Option (Int32 × mS) :=
  (mwA S 21 x1 x2).bind fun S101 =>
  (if x2 = 3 then
  gX11_value_98 x1 x1 0 S101
  else
  gX11_value_98 x1 x1 j3 S101)
set_option maxHeartbeats 4000000 in
set_option maxRecDepth 100000 in
theorem GX11_value_76 (z : Nat → Nat) (am : Nat) (r : aH) (x1 : Int32) (x2 : Int32) (j3 : Int64) (S : mS) : fX11_value_76 z am x1 x2 j3 (mo am S r) = (gX11_value_76 x1 x2 j3 S).map (fun q2 => (q2.1, mo am q2.2 r)) := by
  unfold fX11_value_76 gX11_value_76
  simp only [m_rdI, m_rdJ, m_rdR, m_obO, m_wrI, m_wrJ, m_arI2, m_arJ2, m_awI2, m_awJ2, o_bs, o_bm, o_mb, o_ms, o_mn, o_mi, o_bi, o_bn, mk_0, mk_1, mk_2, mk_3, mk_4, mk_5, mk_6, mk_7, mk_8, mk_9, mk_10, mk_11, mk_12, mk_13, mk_14, mk_15, mk_16, mk_17, mk_18, mk_19, mk_20, mk_21, mk_22, mk_23, mk_24, mk_25, mk_26, mk_27, mk_28, mk_29, mk_30, mk_31, mk_32, mk_33, mk_34, mk_35, mk_36, mk_37, mk_38, mk_39, mk_40, mk_41, mk_42, mk_43, mk_44, mk_45, mk_46, true_or, or_true, (GX11_value_98 z am r)]
def gX11_value_43 (x1 : Int32) (x2 : Int32) (j3 : Int64) (sj0 : Int64) (sj1 : Int64) (sj2 : Int64) (S : mS) : Option (Int32 × mS) :=
  (gX11_in sj0 sj1 sj2 S).bind fun q101 =>
  (if q101.1 = 0 then
  some ((-3), q101.2)
  else
  (gX11_in (Int32.toInt64 x2) 0 3 q101.2).bind fun q102 =>
  (if q102.1 = 0 then
  some ((-3), q102.2)
  else
  (if x2 = 0 then
  (if (lg_cmp (Int32.toInt64 (Int64.toInt32 j3)) j3) = 0 then
  gX11_value_76 x1 x2 j3 q102.2
  else
  some ((-3), q102.2))
  else
  gX11_value_76 x1 x2 j3 q102.2)))
set_option maxHeartbeats 4000000 in
set_option maxRecDepth 100000 in
theorem GX11_value_43 (z : Nat → Nat) (am : Nat) (r : aH) (x1 : Int32) (x2 : Int32) (j3 : Int64) (sj0 : Int64) (sj1 : Int64) (sj2 : Int64) (S : mS) : fX11_value_43 z am x1 x2 j3 sj0 sj1 sj2 (mo am S r) = (gX11_value_43 x1 x2 j3 sj0 sj1 sj2 S).map (fun q2 => (q2.1, mo am q2.2 r)) := by
  unfold fX11_value_43 gX11_value_43
  simp only [m_rdI, m_rdJ, m_rdR, m_obO, m_wrI, m_wrJ, m_arI2, m_arJ2, m_awI2, m_awJ2, o_bs, o_bm, o_mb, o_ms, o_mn, o_mi, o_bi, o_bn, mk_0, mk_1, mk_2, mk_3, mk_4, mk_5, mk_6, mk_7, mk_8, mk_9, mk_10, mk_11, mk_12, mk_13, mk_14, mk_15, mk_16, mk_17, mk_18, mk_19, mk_20, mk_21, mk_22, mk_23, mk_24, mk_25, mk_26, mk_27, mk_28, mk_29, mk_30, mk_31, mk_32, mk_33, mk_34, mk_35, mk_36, mk_37, mk_38, mk_39, mk_40, mk_41, mk_42, mk_43, mk_44, mk_45, mk_46, true_or, or_true, (GX11_value_76 z am r), GX11_in]
def gX11_value_21 (x1 : Int32) (x2 : Int32) (j3 : Int64) (S : mS) : Option (Int32 × mS) :=
  (if 5 ≤ (S.1 20) then
  gX11_value_43 x1 x2 j3 (Int32.toInt64 x1) 0 5 S
  else
  gX11_value_43 x1 x2 j3 (Int32.toInt64 x1) 0 (Int32.toInt64 (S.1 20)) S)
set_option maxHeartbeats 4000000 in
set_option maxRecDepth 100000 in
theorem GX11_value_21 (z : Nat → Nat) (am : Nat) (r : aH) (x1 : Int32) (x2 : Int32) (j3 : Int64) (S : mS) : fX11_value_21 z am x1 x2 j3 (mo am S r) = (gX11_value_21 x1 x2 j3 S).map (fun q2 => (q2.1, mo am q2.2 r)) := by
  unfold fX11_value_21 gX11_value_21
  simp only [m_rdI, m_rdJ, m_rdR, m_obO, m_wrI, m_wrJ, m_arI2, m_arJ2, m_awI2, m_awJ2, o_bs, o_bm, o_mb, o_ms, o_mn, o_mi, o_bi, o_bn, mk_0, mk_1, mk_2, mk_3, mk_4, mk_5, mk_6, mk_7, mk_8, mk_9, mk_10, mk_11, mk_12, mk_13, mk_14, mk_15, mk_16, mk_17, mk_18, mk_19, mk_20, mk_21, mk_22, mk_23, mk_24, mk_25, mk_26, mk_27, mk_28, mk_29, mk_30, mk_31, mk_32, mk_33, mk_34, mk_35, mk_36, mk_37, mk_38, mk_39, mk_40, mk_41, mk_42, mk_43, mk_44, mk_45, mk_46, true_or, or_true, (GX11_value_43 z am r)]
def gX11_value (x1 : Int32) (x2 : Int32) (j3 : Int64) (S : mS) : Option (Int32 × mS) :=
  (if x2 = 2 then
  (gX11_isRow j3 (sI S 0 0)).bind fun q101 =>
  (if q101.1 = 0 then
  some ((-2), q101.2)
  else
  gX11_value_21 x1 x2 j3 q101.2)
  else
  gX11_value_21 x1 x2 j3 (sI S 0 0))
set_option maxHeartbeats 4000000 in
set_option maxRecDepth 100000 in
theorem GX11_value (z : Nat → Nat) (am : Nat) (r : aH) (x1 : Int32) (x2 : Int32) (j3 : Int64) (S : mS) : fX11_value z am x1 x2 j3 (mo am S r) = (gX11_value x1 x2 j3 S).map (fun q2 => (q2.1, mo am q2.2 r)) := by
  unfold fX11_value gX11_value
  simp only [m_rdI, m_rdJ, m_rdR, m_obO, m_wrI, m_wrJ, m_arI2, m_arJ2, m_awI2, m_awJ2, o_bs, o_bm, o_mb, o_ms, o_mn, o_mi, o_bi, o_bn, mk_0, mk_1, mk_2, mk_3, mk_4, mk_5, mk_6, mk_7, mk_8, mk_9, mk_10, mk_11, mk_12, mk_13, mk_14, mk_15, mk_16, mk_17, mk_18, mk_19, mk_20, mk_21, mk_22, mk_23, mk_24, mk_25, mk_26, mk_27, mk_28, mk_29, mk_30, mk_31, mk_32, mk_33, mk_34, mk_35, mk_36, mk_37, mk_38, mk_39, mk_40, mk_41, mk_42, mk_43, mk_44, mk_45, mk_46, true_or, or_true, (GX11_value_21 z am r), GX11_isRow]
