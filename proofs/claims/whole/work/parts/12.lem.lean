theorem k32i {z : Int} (h : -2147483648 ≤ z ∧ z < 2147483648) : k32 z := h
theorem k64i {z : Int} (h : -9223372036854775808 ≤ z ∧ z < 9223372036854775808) : k64 z := h
theorem k32_toInt (x : Int32) : k32 x.toInt := ⟨Int32.le_toInt x, Int32.toInt_lt x⟩
theorem k64_toInt (x : Int64) : k64 x.toInt := ⟨Int64.le_toInt x, Int64.toInt_lt x⟩
theorem k32_kand (a b : Int) : k32 (kand a b) := k32_toInt _
theorem k32_kor (a b : Int) : k32 (kor a b) := k32_toInt _
theorem k32_kxor (a b : Int) : k32 (kxor a b) := k32_toInt _
theorem k32_kshl (a b : Int) : k32 (kshl a b) := k32_toInt _
theorem k32_kshr (a b : Int) : k32 (kshr a b) := k32_toInt _
theorem k32_kushr (a b : Int) : k32 (kushr a b) := k32_toInt _
theorem k64_klxor (a b : Int) : k64 (klxor a b) := k64_toInt _
theorem k32_i2b (a : Int) : k32 (ki2b a) := k32_toInt _
/-- a switch -/
theorem k2_tsw {G : KG} {S0 : KSh} {M : KM} {d pc : Nat} {ls : List (Option AV)} {st : List AV} {c : KMem} {P : Option AV → KMem → Prop} {a df lo hi : Int} {offs : Array Int} {len : Nat} (hd : decode M.2.1 pc = .ok (.tableswitch df lo hi offs, len)) (ha : k32 a) (tdf : Nat) (htd : (pc : Int) + df = (tdf : Int)) (k2 : a < lo ∨ hi < a → kW2 G S0 M d tdf ls st c P)
    (k1 : ∀ (j : Nat) (off : Int) (tgt : Nat), a = lo + j → a ≤ hi → offs[j]? = some off → (pc : Int) + off = (tgt : Int) → kW2 G S0 M d tgt ls st c P) (hz : ∀ j : Nat, j < offs.size → 0 ≤ (pc : Int) + offs.getD j 0 := by decide) (hs : hi - lo < offs.size := by decide) : kW2 G S0 M d pc ls (kI a :: st) c P := by
  refine kw_tswitch hd ha k1 (fun j hj => ?_) tdf htd k2
  have hj2 : j < offs.size := by omega
  have h1 := hz j hj2
  obtain ⟨t, ht⟩ := Int.eq_ofNat_of_zero_le h1
  refine ⟨offs.getD j 0, t, ?_, ht⟩
  simp [Array.getD, hj2]
/-- how many bits -/
def kpc : Nat → Nat → Nat
  | 0, _ => 0
  | n + 1, x => x % 2 + kpc n (x / 2)
abbrev kpop (x : Nat) : Nat := kpc 12 x
theorem k4096 {p : Nat → Prop} (h : ∀ a, a < 64 → ∀ b, b < 64 → p (64 * a + b)) (x : Nat) (hx : x < 4096) : p x := by
  have := h (x / 64) (by omega) (x % 64) (by omega)
  rwa [show 64 * (x / 64) + x % 64 = x by omega] at this
theorem kpop_step (x : Nat) (hx : x < 4096) (h0 : 0 < x) : kpop (x &&& (x - 1)) + 1 = kpop x ∧ x &&& (x - 1) < x :=
  k4096 (p := fun x => 0 < x → kpop (x &&& (x - 1)) + 1 = kpop x ∧ x &&& (x - 1) < x) (by decide +kernel) x hx h0
theorem kpop_le (x : Nat) (hx : x < 4096) : kpop x ≤ 12 := k4096 (p := fun x => kpop x ≤ 12) (by decide +kernel) x hx
theorem kbv_of {n : Nat} (h : n < 2147483648) : (Int32.ofInt (n : Int)).toBitVec = BitVec.ofNat 32 n := by
  rw [Int32.ofInt_eq_ofNat]
  rfl
theorem ktoInt_bv (x : Int32) (n : Nat) (h : n < 2147483648) (e : x.toBitVec.toNat = n) : x.toInt = n := by
  show x.toBitVec.toInt = n
  rw [BitVec.toInt_eq_toNat_of_lt (by omega), e]
theorem kand_nat (a b : Nat) (ha : a < 2147483648) (hb : b < 2147483648) : kand a b = ((a &&& b : Nat) : Int) := by
  unfold kand
  refine ktoInt_bv _ _ (Nat.lt_of_le_of_lt Nat.and_le_left ha) ?_
  rw [Int32.toBitVec_and, kbv_of ha, kbv_of hb, BitVec.toNat_and, BitVec.toNat_ofNat, BitVec.toNat_ofNat, Nat.mod_eq_of_lt (by omega), Nat.mod_eq_of_lt (by omega)]
theorem kor_nat (a b : Nat) (ha : a < 2147483648) (hb : b < 2147483648) : kor a b = ((a ||| b : Nat) : Int) := by
  unfold kor
  have h1 : a ||| b < 2 ^ 31 := Nat.or_lt_two_pow (by omega) (by omega)
  refine ktoInt_bv _ _ (by omega) ?_
  rw [Int32.toBitVec_or, kbv_of ha, kbv_of hb, BitVec.toNat_or, BitVec.toNat_ofNat, BitVec.toNat_ofNat, Nat.mod_eq_of_lt (by omega), Nat.mod_eq_of_lt (by omega)]
theorem kxor_nat (a b : Nat) (ha : a < 2147483648) (hb : b < 2147483648) : kxor a b = ((a ^^^ b : Nat) : Int) := by
  unfold kxor
  have h1 : a ^^^ b < 2 ^ 31 := Nat.xor_lt_two_pow (by omega) (by omega)
  refine ktoInt_bv _ _ (by omega) ?_
  rw [Int32.toBitVec_xor, kbv_of ha, kbv_of hb, BitVec.toNat_xor, BitVec.toNat_ofNat, BitVec.toNat_ofNat, Nat.mod_eq_of_lt (by omega), Nat.mod_eq_of_lt (by omega)]
theorem kint_nat {z : Int} (h : 0 ≤ z) : ∃ n : Nat, z = n := Int.eq_ofNat_of_zero_le h
theorem k32_pop (n : Nat) : k32 (kpop n : Int) := by
  have : ∀ m x, kpc m x ≤ m := by
    intro m
    induction m with
    | zero => intro x; exact Nat.le_refl 0
    | succ m ih => intro x; have := ih (x / 2); show x % 2 + kpc m (x / 2) ≤ m + 1; omega
  have h12 : kpop n ≤ 12 := this 12 n
  exact k32i (by omega)
/-- sums -/
def kSum : Nat → (Nat → Int) → Int
  | 0, _ => 0
  | n + 1, f => kSum n f + f n
theorem kSum_congr {n : Nat} {f g : Nat → Int} (h : ∀ i, i < n → f i = g i) : kSum n f = kSum n g := by
  induction n with
  | zero => rfl
  | succ n ih => show kSum n f + f n = kSum n g + g n; rw [ih (fun i hi => h i (by omega)), h n (by omega)]
theorem kSum_0 {n : Nat} {f : Nat → Int} (h : ∀ i, i < n → f i = 0) : kSum n f = 0 := by
  induction n with
  | zero => rfl
  | succ n ih => show kSum n f + f n = 0; rw [ih (fun i hi => h i (by omega)), h n (by omega)]; rfl
/-- the signs of the products of units -/
def kSgL : List Nat := [0, 0, 43690, 43690, 26214, 26214, 52428, 52428, 27030, 27030, 49980, 49980, 4080, 4080, 42330, 42330]
def ksg (a b : Nat) : Int := if ((kSgL.getD a 0) >>> b) % 2 = 1 then -1 else 1
theorem kx16 : ∀ a, a < 16 → ∀ b, b < 16 → a ^^^ b < 16 ∧ (a ^^^ b) ^^^ b = a ∧ a ^^^ (a ^^^ b) = b := by decide +kernel
/-- which units count in a kind of product: 0 TIMES, 1 OUTER, 2 INNER -/
def kcb (kd a b : Int) : Bool := kd == 0 || (kd == 1 && kand a b == 0) || (kd == 2 && kand a b == a)
theorem kcb_iff (kd a b : Int) : kcb kd a b = true ↔ kd = 0 ∨ (kd = 1 ∧ kand a b = 0) ∨ (kd = 2 ∧ kand a b = a) := by
  simp [kcb, or_assoc]
/-- a FORM: its sixteen PARTS -/
abbrev KF : Type := Int → Int
def kT (kd : Int) (f g : KF) (k a : Nat) : Int := if kcb kd a ((a ^^^ k : Nat) : Int) = true then ksg a (a ^^^ k) * f a * g ((a ^^^ k : Nat) : Int) else 0
def mulP (kd : Int) (f g : KF) : KF := fun k => kSum 16 (kT kd f g k.toNat)
/-- two FORMS are the same -/
def kEq (f g : KF) : Prop := ∀ k : Int, 0 ≤ k → k < 16 → f k = g k
theorem kEq.rf {f : KF} : kEq f f := fun _ _ _ => rfl
theorem kEq.sy {f g : KF} (h : kEq f g) : kEq g f := fun k h0 h1 => (h k h0 h1).symm
theorem kEq.tr {f g e : KF} (h : kEq f g) (h2 : kEq g e) : kEq f e := fun k h0 h1 => (h k h0 h1).trans (h2 k h0 h1)
theorem mulP_congr {kd : Int} {f g f' g' : KF} (hf : kEq f f') (hg : kEq g g') : kEq (mulP kd f g) (mulP kd f' g') := by
  intro k h0 h1
  refine kSum_congr fun a ha => ?_
  unfold kT
  have hx := (kx16 a ha k.toNat (by omega)).1
  rw [hf a (by omega) (by omega), hg _ (Int.natCast_nonneg _) (by omega)]
/-- REVERSE; TIMES the WHOLE UNIT with a sign; a PLACE -/
def revP (f : KF) : KF := fun k => if 2 ≤ (kpop k.toNat : Int) ∧ (kpop k.toNat : Int) ≤ 3 then -f k else f k
def whlP (s : Int) (f : KF) : KF := fun k => s * ksg (15 ^^^ k.toNat) 15 * f ((15 ^^^ k.toNat : Nat) : Int)
def plcP (u v : Int) : KF := fun k => if k = 1 then 2 * u else if k = 2 then 2 * v else if k = 4 then u * u + v * v - 1 else if k = 8 then u * u + v * v + 1 else 0
theorem revP_congr {f g : KF} (h : kEq f g) : kEq (revP f) (revP g) := fun k h0 h1 => by unfold revP; rw [h k h0 h1]
theorem whlP_congr {s : Int} {f g : KF} (h : kEq f g) : kEq (whlP s f) (whlP s g) := fun k h0 h1 => by
  have := (kx16 15 (by omega) k.toNat (by omega)).1
  unfold whlP; rw [h _ (Int.natCast_nonneg _) (by omega)]
/-- the greatest common divisor of the first PARTS; whether the first one that isn't 0 is below 0 -/
def kgdN : Nat → KF → Nat
  | 0, _ => 0
  | n + 1, f => Int.gcd (kgdN n f) (f n)
def kngN : Nat → KF → Bool
  | 0, _ => false
  | n + 1, f => if kgdN n f = 0 then decide (f n < 0) else kngN n f
def nrmD (f : KF) : Int := if kngN 16 f = true then -(kgdN 16 f : Int) else (kgdN 16 f : Int)
/-- NORMAL -/
def nrmP (f : KF) : KF := fun k => if kgdN 16 f = 0 then f k else Int.tdiv (f k) (nrmD f)
theorem kgdN_congr {f g : KF} : ∀ n : Nat, (∀ k : Nat, k < n → f k = g k) → kgdN n f = kgdN n g
  | 0, _ => rfl
  | n + 1, h => by show Int.gcd _ _ = Int.gcd _ _; rw [kgdN_congr n (fun k hk => h k (by omega)), h n (by omega)]
theorem kngN_congr {f g : KF} : ∀ n : Nat, (∀ k : Nat, k < n → f k = g k) → kngN n f = kngN n g
  | 0, _ => rfl
  | n + 1, h => by
    show (if _ then _ else _) = (if _ then _ else _)
    rw [kgdN_congr n (fun k hk => h k (by omega)), h n (by omega), kngN_congr n (fun k hk => h k (by omega))]
theorem nrmP_congr {f g : KF} (h : kEq f g) : kEq (nrmP f) (nrmP g) := fun k h0 h1 => by
  have h' : ∀ k : Nat, k < 16 → f k = g k := fun k hk => h k (by omega) (by omega)
  unfold nrmP nrmD
  rw [kgdN_congr 16 h', kngN_congr 16 h', h k h0 h1]
theorem kgdN_0 {f : KF} : ∀ n : Nat, kgdN n f = 0 ↔ ∀ k : Nat, k < n → f k = 0
  | 0 => ⟨fun _ k hk => absurd hk (by omega), fun _ => rfl⟩
  | n + 1 => by
    show Int.gcd _ _ = 0 ↔ _
    rw [Int.gcd_eq_zero_iff]
    constructor
    · rintro ⟨a, b⟩ k hk
      by_cases e : k = n
      · subst e; exact b
      · exact (kgdN_0 n).mp (by omega) k (by omega)
    · intro h
      exact ⟨by have := (kgdN_0 n).mpr (fun k hk => h k (by omega)); omega, h n (by omega)⟩
theorem kgdN_dvd {f : KF} (m : Nat) : ∀ n : Nat, m ∣ kgdN n f ↔ ∀ k : Nat, k < n → (m : Int) ∣ f k
  | 0 => ⟨fun _ k hk => absurd hk (by omega), fun _ => Nat.dvd_zero m⟩
  | n + 1 => by
    show m ∣ Int.gcd _ _ ↔ _
    rw [Int.dvd_gcd_iff]
    constructor
    · rintro ⟨a, b⟩ k hk
      by_cases e : k = n
      · subst e; exact b
      · exact (kgdN_dvd m n).mp (Int.natCast_dvd_natCast.mp a) k (by omega)
    · intro h
      exact ⟨Int.natCast_dvd_natCast.mpr ((kgdN_dvd m n).mpr (fun k hk => h k (by omega))), h n (by omega)⟩
theorem kngN_iff {f : KF} : ∀ n : Nat, kngN n f = true ↔ ∃ k : Nat, k < n ∧ f k < 0 ∧ ∀ j : Nat, j < k → f j = 0
  | 0 => ⟨fun h => absurd h (by simp [kngN]), fun ⟨k, hk, _⟩ => absurd hk (by omega)⟩
  | n + 1 => by
    show (if _ then _ else _) = true ↔ _
    by_cases e : kgdN n f = 0
    · rw [if_pos e, decide_eq_true_eq]
      have h0 := (kgdN_0 n).mp e
      constructor
      · intro h; exact ⟨n, by omega, h, h0⟩
      · rintro ⟨k, hk, h1, h2⟩
        by_cases e2 : k = n
        · subst e2; exact h1
        · have := h0 k (by omega); omega
    · rw [if_neg e, kngN_iff n]
      constructor
      · rintro ⟨k, hk, h⟩; exact ⟨k, by omega, h⟩
      · rintro ⟨k, hk, h1, h2⟩
        by_cases e2 : k = n
        · subst e2; exact absurd ((kgdN_0 k).mpr h2) e
        · exact ⟨k, by omega, h1, h2⟩
/-- GRADES -/
def kgrN : Nat → KF → Nat
  | 0, _ => 0
  | n + 1, f => if f n = 0 then kgrN n f else kgrN n f ||| 2 ^ kpop n
def kgr (f : KF) : Nat := kgrN 16 f
theorem kgrN_congr {f g : KF} : ∀ n : Nat, (∀ k : Nat, k < n → f k = g k) → kgrN n f = kgrN n g
  | 0, _ => rfl
  | n + 1, h => by show (if _ then _ else _) = (if _ then _ else _); rw [h n (by omega), kgrN_congr n (fun k hk => h k (by omega))]
theorem kgr_congr {f g : KF} (h : kEq f g) : kgr f = kgr g := kgrN_congr 16 (fun k hk => h k (by omega) (by omega))
theorem kgrN_lt {f : KF} : ∀ n : Nat, n ≤ 16 → kgrN n f < 32
  | 0, _ => by show 0 < 32; omega
  | n + 1, h => by
    have h1 : ∀ n, n < 16 → 2 ^ kpop n < 32 := by decide +kernel
    show (if _ then _ else _) < 32
    split
    · exact kgrN_lt n (by omega)
    · exact Nat.or_lt_two_pow (n := 5) (kgrN_lt n (by omega)) (h1 n (by omega))
theorem kshl1 : ∀ n : Nat, n < 31 → kshl 1 n = (2 ^ n : Nat) := by decide +kernel
/-- THE FAR ONE -/
def farP : KF := fun k => if k = 4 ∨ k = 8 then 1 else 0
theorem ksg_abs (a b : Nat) : ksg a b = 1 ∨ ksg a b = -1 := by unfold ksg; split <;> simp
def kB (M : Int) (f : KF) : Prop := ∀ k : Int, 0 ≤ k → k < 16 → -M ≤ f k ∧ f k ≤ M
theorem kB.eq {M : Int} {f g : KF} (h : kB M f) (e : kEq g f) : kB M g := fun k h0 h1 => by rw [e k h0 h1]; exact h k h0 h1
theorem kB.le {M N : Int} {f : KF} (h : kB M f) (e : M ≤ N) : kB N f := fun k h0 h1 => by have := h k h0 h1; omega
theorem kSum_bd {N : Int} {f : Nat → Int} (hN : 0 ≤ N) : ∀ n : Nat, (∀ i, i < n → -N ≤ f i ∧ f i ≤ N) → -(n * N) ≤ kSum n f ∧ kSum n f ≤ n * N
  | 0, _ => by simp [kSum]
  | n + 1, h => by
    have h1 := kSum_bd hN n (fun i hi => h i (by omega))
    have h2 := h n (by omega)
    have e : ((n + 1 : Nat) : Int) * N = n * N + N := by rw [Int.natCast_add, Int.add_mul]; simp
    show -(((n + 1 : Nat) : Int) * N) ≤ kSum n f + f n ∧ kSum n f + f n ≤ ((n + 1 : Nat) : Int) * N
    rw [e]
    omega
theorem kmul_bd {a b M N : Int} (ha : -M ≤ a ∧ a ≤ M) (hb : -N ≤ b ∧ b ≤ N) : -(M * N) ≤ a * b ∧ a * b ≤ M * N := by
  have h1 : a.natAbs * b.natAbs ≤ M.toNat * N.toNat := Nat.mul_le_mul (by omega) (by omega)
  have h2 : ((a * b).natAbs : Int) ≤ M * N := by
    rw [Int.natAbs_mul]
    have e1 : M = (M.toNat : Int) := by omega
    have e2 : N = (N.toNat : Int) := by omega
    rw [e1, e2]
    exact_mod_cast h1
  omega
theorem mulP_bd {kd M N : Int} {f g : KF} (hM : 0 ≤ M) (hN : 0 ≤ N) (hf : kB M f) (hg : kB N g) : kB (16 * (M * N)) (mulP kd f g) := by
  intro k h0 h1
  have hMN : 0 ≤ M * N := Int.mul_nonneg hM hN
  refine kSum_bd hMN 16 (fun a ha => ?_)
  have hx := (kx16 a ha k.toNat (by omega)).1
  unfold kT
  split
  · have h2 := hf a (by omega) (by omega)
    have h3 := hg ((a ^^^ k.toNat : Nat) : Int) (Int.natCast_nonneg _) (by omega)
    have h4 := kmul_bd h2 h3
    rcases ksg_abs a (a ^^^ k.toNat) with e | e <;> rw [e]
    · rw [Int.one_mul]; exact h4
    · rw [Int.neg_one_mul, Int.neg_mul]; omega
  · omega
theorem revP_bd {M : Int} {f : KF} (h : kB M f) : kB M (revP f) := fun k h0 h1 => by have := h k h0 h1; unfold revP; split <;> omega
theorem whlP_bd {s M : Int} {f : KF} (hs : s = 1 ∨ s = -1) (h : kB M f) : kB M (whlP s f) := fun k h0 h1 => by
  have hx := (kx16 15 (by omega) k.toNat (by omega)).1
  have := h ((15 ^^^ k.toNat : Nat) : Int) (Int.natCast_nonneg _) (by omega)
  unfold whlP
  rcases hs with rfl | rfl <;> rcases ksg_abs (15 ^^^ k.toNat) 15 with e | e <;> rw [e] <;> omega
theorem nrmP_bd {M : Int} {f : KF} (h : kB M f) : kB M (nrmP f) := fun k h0 h1 => by
  have h2 := h k h0 h1
  unfold nrmP
  split
  · exact h2
  · have h3 : (Int.tdiv (f k) (nrmD f)).natAbs ≤ (f k).natAbs := by rw [Int.natAbs_tdiv]; exact Nat.div_le_self _ _
    omega
/-- KINDS -/
def kQ4 (f : KF) : Int := f 1 * f 1 + f 2 * f 2 + f 4 * f 4 - f 8 * f 8
def kOne (f : KF) : Int := if f 4 = f 8 then (if f 1 ≠ 0 ∨ f 2 ≠ 0 then 6 else 5) else if kQ4 f = 0 then 2 else if 0 < kQ4 f then 3 else 4
def kZb (f : KF) : Bool := (List.range 16).all (fun k => f (k : Int) == 0)
theorem kZb_iff {f : KF} : kZb f = true ↔ kEq f (fun _ => 0) := by
  unfold kZb
  rw [List.all_eq_true]
  constructor
  · intro h k h0 h1
    obtain ⟨n, rfl⟩ := kint_nat h0
    exact eq_of_beq (h n (List.mem_range.mpr (by omega)))
  · intro h k hk
    exact beq_iff_eq.mpr (h k (Int.natCast_nonneg _) (by have := List.mem_range.mp hk; omega))
theorem kZb_congr {f g : KF} (h : kEq f g) : kZb f = kZb g := by
  rw [Bool.eq_iff_iff, kZb_iff, kZb_iff]
  exact ⟨fun q => h.sy.tr q, fun q => h.tr q⟩
def kTwo (f : KF) : Int := if kZb (mulP 1 f f) = false then 9 else if kZb (mulP 1 farP f) = true then 8 else if 0 < mulP 0 f f 0 then 20 else if mulP 0 f f 0 = 0 then 21 else 22
def kind (f : KF) : Int := if kgr f = 0 then 0 else if kgr f = 1 then 1 else if kgr f = 2 then kOne f else if kgr f = 4 then kTwo f else if kgr f = 8 then 10 + kOne (whlP (-1) f) else if kgr f = 16 then 30 else if kgr f &&& 10 = 0 then 40 else if kgr f &&& 21 = 0 then 41 else 42
theorem kOne_congr {f g : KF} (h : kEq f g) : kOne f = kOne g := by
  unfold kOne kQ4
  rw [h 1 (by omega) (by omega), h 2 (by omega) (by omega), h 4 (by omega) (by omega), h 8 (by omega) (by omega)]
theorem kTwo_congr {f g : KF} (h : kEq f g) : kTwo f = kTwo g := by
  unfold kTwo
  rw [kZb_congr (mulP_congr h h), kZb_congr (mulP_congr (kEq.rf (f := farP)) h), mulP_congr h h 0 (by omega) (by omega)]
theorem kind_congr {f g : KF} (h : kEq f g) : kind f = kind g := by
  unfold kind
  rw [kgr_congr h, kOne_congr h, kTwo_congr h, kOne_congr (whlP_congr h)]
theorem kOne_rg (f : KF) : 2 ≤ kOne f ∧ kOne f ≤ 6 := by
  unfold kOne; repeat' split
  all_goals omega
theorem kTwo_rg (f : KF) : kTwo f = 8 ∨ kTwo f = 9 ∨ kTwo f = 20 ∨ kTwo f = 21 ∨ kTwo f = 22 := by
  unfold kTwo; repeat' split
  all_goals omega
theorem kind_rg (f : KF) : 0 ≤ kind f ∧ kind f ≤ 42 := by
  have h1 := kOne_rg f; have h2 := kOne_rg (whlP (-1) f); have h3 := kTwo_rg f
  unfold kind; repeat' split
  all_goals omega
theorem kgrN_bit {f : KF} (j : Nat) : ∀ n : Nat, Nat.testBit (kgrN n f) j = true ↔ ∃ k : Nat, k < n ∧ f k ≠ 0 ∧ kpop k = j
  | 0 => by
    constructor
    · intro h; rw [show kgrN 0 f = 0 from rfl, Nat.zero_testBit] at h; cases h
    · rintro ⟨k, hk, -⟩; omega
  | n + 1 => by
    have ih := kgrN_bit (f := f) j n
    show Nat.testBit (if f n = 0 then kgrN n f else kgrN n f ||| 2 ^ kpop n) j = true ↔ _
    by_cases h : f n = 0
    · rw [if_pos h, ih]
      constructor
      · rintro ⟨k, a, b⟩; exact ⟨k, by omega, b⟩
      · rintro ⟨k, a, b, e⟩
        by_cases w : k = n
        · subst w; exact absurd h b
        · exact ⟨k, by omega, b, e⟩
    · rw [if_neg h, Nat.testBit_or, Bool.or_eq_true, ih, Nat.testBit_two_pow, decide_eq_true_eq]
      constructor
      · rintro (⟨k, a, b⟩ | e)
        · exact ⟨k, by omega, b⟩
        · exact ⟨n, by omega, h, e⟩
      · rintro ⟨k, a, b, e⟩
        by_cases w : k = n
        · subst w; exact Or.inr e
        · exact Or.inl ⟨k, by omega, b, e⟩
/-- a FORM of one GRADE alone has no PART of another one -/
theorem kgr_alone {f : KF} {j : Nat} (h : kgr f = 2 ^ j) {k : Nat} (hk : k < 16) (hp : kpop k ≠ j) : f k = 0 := by
  apply Classical.byContradiction
  intro q
  have h1 := (kgrN_bit (f := f) (kpop k) 16).mpr ⟨k, hk, q, rfl⟩
  have h2 : Nat.testBit (2 ^ j) (kpop k) = true := by rw [← h]; exact h1
  rw [Nat.testBit_two_pow, decide_eq_true_eq] at h2
  exact hp h2.symm
theorem kgr_some {f : KF} {j : Nat} (h : kgr f = 2 ^ j) : ∃ k : Nat, k < 16 ∧ f k ≠ 0 ∧ kpop k = j := by
  refine (kgrN_bit (f := f) j 16).mp ?_
  rw [show kgrN 16 f = 2 ^ j from h, Nat.testBit_two_pow, decide_eq_true_eq]
theorem kgr_is {f : KF} {j : Nat} (h1 : ∃ k : Nat, k < 16 ∧ f k ≠ 0 ∧ kpop k = j) (h2 : ∀ k : Nat, k < 16 → kpop k ≠ j → f k = 0) : kgr f = 2 ^ j := by
  apply Nat.eq_of_testBit_eq
  intro i
  rw [Bool.eq_iff_iff, Nat.testBit_two_pow, decide_eq_true_eq]
  show Nat.testBit (kgrN 16 f) i = true ↔ _
  rw [kgrN_bit]
  constructor
  · rintro ⟨k, a, b, e⟩
    apply Classical.byContradiction
    intro q
    exact b (h2 k a (fun z => q (z.symm.trans e)))
  · intro e
    subst e
    exact h1
theorem kgr_0 {f : KF} : kgr f = 0 ↔ kEq f (fun _ => 0) := by
  constructor
  · intro h k h0 h1
    obtain ⟨n, rfl⟩ := kint_nat h0
    apply Classical.byContradiction
    intro q
    have h2 := (kgrN_bit (f := f) (kpop n) 16).mpr ⟨n, by omega, q, rfl⟩
    rw [show kgrN 16 f = 0 from h, Nat.zero_testBit] at h2
    cases h2
  · intro h
    have : ∀ n : Nat, n ≤ 16 → kgrN n f = 0 := by
      intro n
      induction n with
      | zero => intro _; rfl
      | succ n ih => intro hn; show (if _ then _ else _) = _; rw [if_pos (h n (by omega) (by omega))]; exact ih (by omega)
    exact this 16 (by omega)
/-- a plain number that isn't 0 -/
theorem kgr_1 {f : KF} : kgr f = 1 ↔ f 0 ≠ 0 ∧ ∀ k : Int, 1 ≤ k → k < 16 → f k = 0 := by
  have hp : ∀ k, k < 16 → (kpop k = 0 ↔ k = 0) := by decide +kernel
  constructor
  · intro h
    have h' : kgr f = 2 ^ 0 := h
    refine ⟨?_, fun k h1 h2 => ?_⟩
    · obtain ⟨k, a, b, e⟩ := kgr_some h'
      rw [(hp k a).mp e] at b
      exact b
    · obtain ⟨n, rfl⟩ := kint_nat (z := k) (by omega)
      exact kgr_alone h' (by omega) (fun q => by have := (hp n (by omega)).mp q; omega)
  · rintro ⟨h1, h2⟩
    refine kgr_is (j := 0) ⟨0, by omega, h1, by decide⟩ (fun k hk hq => h2 k ?_ (by omega))
    have : k ≠ 0 := fun q => hq ((hp k hk).mpr q)
    omega
/-- an OBJECT's VECTOR -/
def kObj (k : Int) : Prop := (2 ≤ k ∧ k ≤ 6) ∨ (12 ≤ k ∧ k ≤ 16)
def kMir (k : Int) : Prop := k = 3 ∨ k = 6 ∨ k = 13 ∨ k = 16
def vecP (f : KF) : KF := if kgr f = 8 then whlP (-1) f else f
theorem vecP_congr {f g : KF} (h : kEq f g) : kEq (vecP f) (vecP g) := by
  unfold vecP
  rw [kgr_congr h]
  split
  · exact whlP_congr h
  · exact h
theorem vecP_bd {M : Int} {f : KF} (h : kB M f) : kB M (vecP f) := by
  unfold vecP
  split
  · exact whlP_bd (Or.inr rfl) h
  · exact h
theorem kObj_gr {f : KF} (h : kObj (kind f)) : kgr f = 2 ∨ kgr f = 8 := by
  have h1 := kOne_rg f; have h3 := kTwo_rg f
  unfold kObj kind at h
  repeat' split at h
  all_goals omega
/-- what a vector needs: its four PARTS are not all 0 (GRADE 1 alone) or all 0 (GRADE 3 alone) -/
theorem kvec_02 {f : KF} (h : kgr f = 2) : ¬ (f 1 = 0 ∧ f 2 = 0 ∧ f 4 = 0 ∧ f 8 = 0) := by
  obtain ⟨k, a, b, e⟩ := kgr_some (j := 1) h
  have hp : ∀ k, k < 16 → kpop k = 1 → k = 1 ∨ k = 2 ∨ k = 4 ∨ k = 8 := by decide +kernel
  rcases hp k a e with rfl | rfl | rfl | rfl <;> rintro ⟨q1, q2, q4, q8⟩
  · exact b q1
  · exact b q2
  · exact b q4
  · exact b q8
theorem kvec_08 {f : KF} (h : kgr f = 8) : f 1 = 0 ∧ f 2 = 0 ∧ f 4 = 0 ∧ f 8 = 0 :=
  ⟨kgr_alone (j := 3) h (k := 1) (by omega) (by decide), kgr_alone (j := 3) h (k := 2) (by omega) (by decide), kgr_alone (j := 3) h (k := 4) (by omega) (by decide), kgr_alone (j := 3) h (k := 8) (by omega) (by decide)⟩
/-- within the BOUND -/
def kWb (f : KF) : Bool := (List.range 16).all (fun k => decide (-100000000 ≤ f (k : Int)) && decide (f (k : Int) ≤ 100000000))
theorem kWb_iff {f : KF} : kWb f = true ↔ kB 100000000 f := by
  unfold kWb
  rw [List.all_eq_true]
  constructor
  · intro h k h0 h1
    obtain ⟨n, rfl⟩ := kint_nat h0
    have := h n (List.mem_range.mpr (by omega))
    simp only [Bool.and_eq_true, decide_eq_true_eq] at this
    exact this
  · intro h k hk
    simp only [Bool.and_eq_true, decide_eq_true_eq]
    exact h k (Int.natCast_nonneg _) (by have := List.mem_range.mp hk; omega)
theorem kWb_congr {f g : KF} (h : kEq f g) : kWb f = kWb g := by
  rw [Bool.eq_iff_iff, kWb_iff, kWb_iff]
  exact ⟨fun q => q.eq h.sy, fun q => q.eq h⟩
/-- a MOTION -/
def kMot (f : KF) : Bool := (kind f == 1 || kind f == 3 || kind f == 4 || kind f == 6 || kind f == 40 || kind f == 41) && (kgr (mulP 0 f (revP f)) == 1)
theorem kMot_iff {f : KF} : kMot f = true ↔ (kind f = 1 ∨ kind f = 3 ∨ kind f = 4 ∨ kind f = 6 ∨ kind f = 40 ∨ kind f = 41) ∧ kgr (mulP 0 f (revP f)) = 1 := by
  simp [kMot, or_assoc]
theorem kMot_congr {f g : KF} (h : kEq f g) : kMot f = kMot g := by
  unfold kMot
  rw [kind_congr h, kgr_congr (mulP_congr h (revP_congr h))]
/-- ORDER -/
def kOrdN (f : KF) : Nat → KF → Int → Int
  | 0, _, _ => -2
  | m + 1, A, n => if kind A = 1 then n else if kWb (mulP 0 A f) = true then kOrdN f m (nrmP (mulP 0 A f)) (n + 1) else -2
theorem kOrdN_congr {f f' : KF} (hf : kEq f f') : ∀ (m : Nat) (A A' : KF) (n : Int), kEq A A' → kOrdN f m A n = kOrdN f' m A' n
  | 0, _, _, _, _ => rfl
  | m + 1, A, A', n, h => by
    have h2 := mulP_congr (kd := 0) h hf
    show (if _ then _ else _) = (if _ then _ else _)
    rw [kind_congr h, kWb_congr h2, kOrdN_congr hf m _ _ _ (nrmP_congr h2)]
def kOrd (f : KF) : Int := if kMot f = true then kOrdN f 24 (nrmP f) 1 else -3
theorem kOrd_congr {f g : KF} (h : kEq f g) : kOrd f = kOrd g := by
  unfold kOrd
  rw [kMot_congr h, kOrdN_congr h 24 _ _ 1 (nrmP_congr h)]
/-- how many PARTS are not 0 -/
def kcnN : Nat → KF → Nat
  | 0, _ => 0
  | n + 1, f => if f n = 0 then kcnN n f else kcnN n f + 1
theorem kcnN_le (f : KF) : ∀ n, kcnN n f ≤ n
  | 0 => Nat.le_refl 0
  | n + 1 => by have := kcnN_le f n; show (if f n = 0 then kcnN n f else kcnN n f + 1) ≤ n + 1; split <;> omega
theorem kcnN_congr {f g : KF} : ∀ n : Nat, (∀ k : Nat, k < n → f k = g k) → kcnN n f = kcnN n g
  | 0, _ => rfl
  | n + 1, h => by show (if _ then _ else _) = (if _ then _ else _); rw [h n (by omega), kcnN_congr n (fun k hk => h k (by omega))]
theorem kcnN_0 {f : KF} : ∀ n : Nat, kcnN n f = 0 ↔ ∀ k : Nat, k < n → f k = 0
  | 0 => ⟨fun _ k hk => absurd hk (by omega), fun _ => rfl⟩
  | n + 1 => by
    have ih := kcnN_0 (f := f) n
    show (if f n = 0 then kcnN n f else kcnN n f + 1) = 0 ↔ _
    by_cases h : f n = 0
    · rw [if_pos h, ih]
      constructor
      · intro q k hk
        by_cases e : k = n
        · subst e; exact h
        · exact q k (by omega)
      · intro q k hk; exact q k (by omega)
    · rw [if_neg h]
      exact ⟨fun q => by omega, fun q => absurd (q n (by omega)) h⟩
