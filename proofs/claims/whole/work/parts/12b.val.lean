/-- the values that calls answer with, of which letters stand (H) and what for (F) -/
def kObjB (k : Int) : Bool := decide ((2 ≤ k ∧ k ≤ 6) ∨ (12 ≤ k ∧ k ≤ 16))
def kMirB (k : Int) : Bool := k == 3 || k == 6 || k == 13 || k == 16
theorem kObjB_iff {k : Int} : kObjB k = true ↔ kObj k := by unfold kObjB kObj; exact decide_eq_true_iff
theorem kMirB_iff {k : Int} : kMirB k = true ↔ kMir k := by unfold kMirB kMir; simp [or_assoc]
def kSo (w : Int) (f : KF) : Bool := if w = 0 then true else if w = 1 then kind f == 2 else if w = 2 then kObjB (kind f) else if w = 3 then kMirB (kind f) else kMot f
/-- a set of letters as bits -/
def kBits (p : Nat → Bool) : Nat → Nat
  | 0 => 0
  | n + 1 => if p n = true then kBits p n ||| 2 ^ n else kBits p n
theorem kBits_lt (p : Nat → Bool) : ∀ n, kBits p n < 2 ^ n
  | 0 => by show 0 < 1; omega
  | n + 1 => by
    have := kBits_lt p n
    show (if p n = true then kBits p n ||| 2 ^ n else kBits p n) < 2 ^ (n + 1)
    rw [Nat.pow_succ]
    split
    · have := Nat.or_lt_two_pow (n := n + 1) (x := kBits p n) (y := 2 ^ n) (by rw [Nat.pow_succ]; omega) (by rw [Nat.pow_succ]; have := Nat.two_pow_pos n; omega)
      rw [Nat.pow_succ] at this; exact this
    · omega
def vLetters (H : Int → Bool) (F : Int → KF) (w : Int) : Int := if 0 ≤ w ∧ w ≤ 4 then (kBits (fun l => H l && kSo w (F l)) 12 : Int) else -1
def vPart (H : Int → Bool) (F : Int → KF) (l p : Int) : Int := if H l = true ∧ 0 ≤ p ∧ p < 16 then F l p else -1000000000
def vFormIs (H : Int → Bool) (F : Int → KF) (l w : Int) : Int := if H l = true ∧ 0 ≤ w ∧ w ≤ 4 then (if w = 0 then kind (F l) else if w = 1 then (kgr (F l) : Int) else if w = 2 then (if kMot (F l) = true then 1 else 0) else if w = 3 then kOrd (F l) else (kcnN 16 (F l) : Int)) else -1
