/-! WHAT A RUN DOES, as a recursive function: class and reference are held against it. My own rows. -/
/-- steps (those that are SPENT too), rows, their lengths, their items, what was counted -/
abbrev aRS : Type := Nat × Nat × (Nat → Int32) × (Nat → Int32) × Int32
abbrev aRes : Type := Int32 × aVl × aRS
def bad (f : Int32) (R : aRS) : aRes := (f, (0, 0), R)
def zr (f : Nat → Int32) (b m : Nat) : Nat → Int32 := fun i => if b ≤ i ∧ i < b + m then 0 else f i
def rnew (R : aRS) (m : Nat) : aRS := (R.1, R.2.1 + 1, va_up R.2.2.1 R.2.1 (nI m), zr R.2.2.2.1 (20 * R.2.1) m, R.2.2.2.2)
def rrl (R : aRS) (i : Int32) : Option Int32 := if ¬ i < 0 ∧ i.toNatClampNeg < 60 then some (R.2.2.1 i.toNatClampNeg) else none
def rri (R : aRS) (i : Int32) : Option Int32 := if ¬ i < 0 ∧ i.toNatClampNeg < 1200 then some (R.2.2.2.1 i.toNatClampNeg) else none
def rwi (R : aRS) (i v : Int32) : Option aRS := if ¬ i < 0 ∧ i.toNatClampNeg < 1200 then some (R.1, R.2.1, R.2.2.1, va_up R.2.2.2.1 i.toNatClampNeg v, R.2.2.2.2) else none
def rcnt (R : aRS) : aRS := (R.1, R.2.1, R.2.2.1, R.2.2.2.1, R.2.2.2.2 + 1)
/-- the table: field k of handle c -/
abbrev tI (T : mS) (k c : Nat) : Int32 := T.2.2.1 k c
abbrev tN (T : mS) (k c : Nat) : Nat := (T.2.2.1 k c).toNatClampNeg
def spO (F : Int32) (as : List aVl) (R : aRS) : Option aRes := as[0]?.bind fun x => if x.1 = 3 then some (bad 3 R) else
  if F = 10 then (rrl R x.2.toInt32).bind fun n => some (0, (0, n.toInt64), R) else
  (rrl R x.2.toInt32).bind fun n => as[1]?.bind fun y => if inI y.2 0 (n - 1).toInt64 = 0 then some (bad 4 R) else
  if F = 8 then (rri R (20 * x.2.toInt32 + y.2.toInt32)).bind fun w => some (0, (0, w.toInt64), R) else
  as[2]?.bind fun u => (rwi R (20 * x.2.toInt32 + y.2.toInt32) u.2.toInt32).bind fun R2 => some (0, (3, 0), R2)
def sp2 (F : Int32) (x y : Int64) (R : aRS) : Option aRes :=
  if F = 2 then some (0, (0, (x + y).toInt32.toInt64), R) else
  if F = 3 then some (0, (0, (x - y).toInt32.toInt64), R) else
  if F = 4 then some (0, (0, (x * y).toInt32.toInt64), R) else
  if F = 5 then (if y = 0 then some (bad 1 R) else some (0, (0, (x / y).toInt32.toInt64), R)) else
  if F = 6 then some (0, (0, if 0 ≤ lg_cmp x y then 0 else 1), R) else
  if F = 7 then some (0, (1, x + y), R) else none
def spP (T : mS) (c : Nat) (as : List aVl) (R : aRS) : Option aRes :=
  if tI T 2 c = 0 then some (0, (if tI T 9 c = 1 then (1, (tI T 10 c).toInt64) else if tI T 9 c = 3 then (2, (tI T 10 c).toInt64) else if tI T 9 c = 4 then (3, 0) else (0, (tI T 10 c).toInt64)), R) else
  if tI T 2 c = 1 then as[0]?.bind fun v => some (0, v, R) else
  if tI T 2 c = 12 then some (bad (100 + tI T 10 c) R) else
  if tI T 2 c = 13 then some (0, (0, (R.2.2.2.2 + 1).toInt64), rcnt R) else
  if tI T 2 c = 11 then as[0]?.bind fun x => if lg_cmp x.2 0 < 0 then some (bad 5 R) else if 0 < lg_cmp x.2 20 then some (bad 6 R) else if R.2.1 = 60 then some (bad 10 R) else some (0, (2, (nI R.2.1).toInt64), rnew R x.2.toInt32.toNatClampNeg) else
  if tI T 2 c = 8 ∨ tI T 2 c = 9 ∨ tI T 2 c = 10 then spO (tI T 2 c) as R else
  as[0]?.bind fun x => as[1]?.bind fun y => sp2 (tI T 2 c) x.2 y.2 R
/-- the place of value k: a digit of a -/
def dgt (a : Int32) (n k : Nat) : Nat := (a.toNatClampNeg / 10 ^ (n - 1 - k)) % 10
def cght (f a : Int32) : Bool := decide (0 < f) && (decide (f < 7) || decide (99 < f)) && (decide (a = 0) || decide (a = f))
def adL (T : mS) (c h : Nat) : Nat → List aVl → Int32 × List aVl
  | _, [] => (0, [])
  | k, v :: r => if (adS (tI T 4 (6 * c + k)) (tI T 4 (6 * h + k)) v.1 v.2).1 = 0 then ((adL T c h (k + 1) r).1, (adS (tI T 4 (6 * c + k)) (tI T 4 (6 * h + k)) v.1 v.2).2 :: (adL T c h (k + 1) r).2) else ((adS (tI T 4 (6 * c + k)) (tI T 4 (6 * h + k)) v.1 v.2).1, [])
abbrev aRec : Type := Nat → List aVl → aRS → Option aRes
def sLoop (rec : aRec) (x : Nat) (lim : Int64) : Nat → Int64 → aVl → aRS → Option aRes
  | 0, _, _, _ => none
  | m + 1, i, v, R => if 0 ≤ lg_cmp i lim then some (0, v, R) else (rec x [v, (0, i)] R).bind fun q => if q.1 = 0 then sLoop rec x lim m (i + 1) q.2.1 q.2.2 else some q
/-- go on where it did not fail -/
def thn (x : Option aRes) (k : aVl → aRS → Option aRes) : Option aRes := x.bind fun q => if q.1 = 0 then k q.2.1 q.2.2 else some q
def gat (R : aRS) (nr : Nat) (vs : List aVl) : aRS := (R.1, R.2.1, R.2.2.1, fun i => if 20 * nr ≤ i ∧ i < 20 * nr + vs.length then (vs.getD (i - 20 * nr) (0, 0)).2.toInt32 else R.2.2.2.1 i, R.2.2.2.2)
def so (T : mS) (rec : aRec) (c : Nat) (as : List aVl) (R : aRS) : Option aRes :=
  if tI T 2 c = 20 then rec (tN T 6 c) (as.take (tN T 9 c) ++ (tI T 11 c, T.2.2.2 12 c) :: as.drop (tN T 9 c)) R else
  if tI T 2 c = 21 then rec (tN T 6 c) (as.take (tN T 9 c) ++ as.drop (tN T 9 c + 1)) R else
  if tI T 2 c = 22 then rec (tN T 6 c) ((List.range as.length).map fun k => as.getD (dgt (tI T 9 c) as.length k) (0, 0)) R else
  if tI T 2 c = 23 then thn (rec (tN T 7 c) (as.take (tN T 3 (tN T 7 c))) R) fun v R2 => rec (tN T 6 c) ((if tI T 5 (tN T 7 c) = 4 then [] else [v]) ++ as) R2 else
  if tI T 2 c = 24 then thn (rec (tN T 7 c) ((as.drop (tN T 9 c)).take 1) R) fun v R2 => rec (tN T 6 c) (as.take (tN T 9 c) ++ v :: as.drop (tN T 9 c + 1)) R2 else
  if tI T 2 c = 25 then thn (rec (tN T 6 c) as R) fun v R2 => rec (tN T 7 c) (if tI T 5 (tN T 6 c) = 4 then [] else [v]) R2 else
  if tI T 2 c = 26 then thn (rec (tN T 6 c) (as.take (tN T 3 (tN T 6 c))) R) fun v R2 => rec (if lg_cmp v.2 0 = 0 then tN T 8 c else tN T 7 c) as R2 else
  if tI T 2 c = 27 then (rec (tN T 6 c) as R).bind fun q => if cght q.1 (tI T 9 c) = true then rec (tN T 7 c) ((0, q.1.toInt64) :: as) q.2.2 else some q else
  if tI T 2 c = 28 then (rec (tN T 6 c) as R).bind fun q => (rec (tN T 7 c) ((0, if inI q.1.toInt64 7 10 = 0 then q.1.toInt64 else 99) :: as) q.2.2).bind fun q2 => if q2.1 = 0 then some (q.1, q.2.1, q2.2.2) else some q2 else
  if tI T 2 c = 29 then thn (rec (tN T 6 c) [] R) fun v R2 => thn (rec (tN T 8 c) [] R2) fun w R3 => sLoop rec (tN T 7 c) v.2 200 0 w R3 else
  if tI T 2 c = 30 then as[as.length - 1]?.bind fun v => if v.1 = 3 then some (bad 3 R) else (rrl R v.2.toInt32).bind fun n => if n = tI T 9 c then rec (tN T 6 c) (as.take (as.length - 1) ++ (List.range (tN T 9 c)).map fun k => (0, (R.2.2.2.1 (20 * v.2.toInt32.toNatClampNeg + k)).toInt64)) R else some (bad 6 R) else
  if tI T 2 c = 31 then if R.2.1 = 60 then some (bad 10 R) else rec (tN T 6 c) (as.take (as.length - tN T 9 c) ++ [(2, (nI R.2.1).toInt64)]) (gat (rnew R (tN T 9 c)) R.2.1 (as.drop (as.length - tN T 9 c))) else
  if tI T 2 c = 32 then if (adL T c (tN T 6 c) 0 as).1 = 0 then thn (rec (tN T 6 c) (adL T c (tN T 6 c) 0 as).2 R) fun v R2 => some ((adS (tI T 5 (tN T 6 c)) (tI T 5 c) v.1 v.2).1, (adS (tI T 5 (tN T 6 c)) (tI T 5 c) v.1 v.2).2, R2) else some (bad (adL T c (tN T 6 c) 0 as).1 R) else none
def sp (T : mS) : Nat → aRec
  | 0, _, _, _ => none
  | n + 1, c, as, R => if 80 < R.1 + 1 then some (bad 9 (R.1 + 1, R.2)) else if 20 ≤ tI T 2 c then so T (sp T n) c as (R.1 + 1, R.2) else spP T c as (R.1 + 1, R.2)
/-- the table is well made: how many values each handle takes, and what its parts take -/
def tP (T : mS) (nh k c : Nat) : Prop := tI T k c = nI (tN T k c) ∧ tN T k c < nh
def WT (T : mS) (nh : Nat) : Prop := nh ≤ 60 ∧ ∀ c, c < nh → tI T 3 c = nI (tN T 3 c) ∧ tN T 3 c ≤ 6 ∧
  ((∃ j : Nat, j < 14 ∧ tI T 2 c = nI j) ∨
   (tP T nh 6 c ∧ (
    (tI T 2 c = 20 ∧ tI T 9 c = nI (tN T 9 c) ∧ tN T 9 c ≤ tN T 3 c ∧ tN T 3 (tN T 6 c) = tN T 3 c + 1) ∨
    (tI T 2 c = 21 ∧ tI T 9 c = nI (tN T 9 c) ∧ tN T 9 c < tN T 3 c ∧ tN T 3 (tN T 6 c) + 1 = tN T 3 c) ∨
    (tI T 2 c = 22 ∧ tI T 9 c = nI (tN T 9 c) ∧ tN T 9 c < 1000000 ∧ tN T 3 (tN T 6 c) = tN T 3 c ∧ ∀ k, k < tN T 3 c → dgt (tI T 9 c) (tN T 3 c) k < tN T 3 c) ∨
    (tI T 2 c = 23 ∧ tP T nh 7 c ∧ tN T 3 (tN T 7 c) ≤ tN T 3 c ∧ tN T 3 (tN T 6 c) = tN T 3 c + (if tI T 5 (tN T 7 c) = 4 then 0 else 1)) ∨
    (tI T 2 c = 24 ∧ tP T nh 7 c ∧ tI T 9 c = nI (tN T 9 c) ∧ tN T 9 c < tN T 3 c ∧ tN T 3 (tN T 7 c) = 1 ∧ tN T 3 (tN T 6 c) = tN T 3 c) ∨
    (tI T 2 c = 25 ∧ tP T nh 7 c ∧ tN T 3 (tN T 6 c) = tN T 3 c ∧ tN T 3 (tN T 7 c) = (if tI T 5 (tN T 6 c) = 4 then 0 else 1)) ∨
    (tI T 2 c = 26 ∧ tP T nh 7 c ∧ tP T nh 8 c ∧ tN T 3 (tN T 6 c) ≤ tN T 3 c ∧ tN T 3 (tN T 7 c) = tN T 3 c ∧ tN T 3 (tN T 8 c) = tN T 3 c) ∨
    (tI T 2 c = 27 ∧ tP T nh 7 c ∧ tN T 3 (tN T 6 c) = tN T 3 c ∧ tN T 3 (tN T 7 c) = tN T 3 c + 1) ∨
    (tI T 2 c = 28 ∧ tP T nh 7 c ∧ tN T 3 (tN T 6 c) = tN T 3 c ∧ tN T 3 (tN T 7 c) = tN T 3 c + 1) ∨
    (tI T 2 c = 29 ∧ tP T nh 7 c ∧ tP T nh 8 c ∧ tN T 3 c = 0 ∧ tN T 3 (tN T 6 c) = 0 ∧ tN T 3 (tN T 7 c) = 2 ∧ tN T 3 (tN T 8 c) = 0) ∨
    (tI T 2 c = 30 ∧ tI T 9 c = nI (tN T 9 c) ∧ 1 ≤ tN T 3 c ∧ tN T 9 c ≤ 6 ∧ tN T 3 (tN T 6 c) + 1 = tN T 3 c + tN T 9 c) ∨
    (tI T 2 c = 31 ∧ tI T 9 c = nI (tN T 9 c) ∧ tN T 9 c ≤ tN T 3 c ∧ tN T 9 c ≤ 5 ∧ tN T 3 (tN T 6 c) + tN T 9 c = tN T 3 c + 1) ∨
    (tI T 2 c = 32 ∧ tN T 3 (tN T 6 c) = tN T 3 c))))
