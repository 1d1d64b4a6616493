/-- THE FAR ONE OUTER a FORM of GRADE 2 alone -/
theorem far_out (f : KF) (k : Nat) : mulP 1 farP f (k : Int) = kT 1 farP f k 4 + kT 1 farP f k 8 := by
  have e : ∀ a : Nat, a < 16 → a ≠ 4 → a ≠ 8 → kT 1 farP f k a = 0 := fun a ha h4 h8 => kT_0 (by unfold farP; rw [if_neg (by omega)])
  show kSum 16 (kT 1 farP f ((k : Int).toNat)) = _
  rw [show ((k : Int)).toNat = k by omega]
  simp only [kSum]
  rw [e 0 (by omega) (by omega) (by omega), e 1 (by omega) (by omega) (by omega), e 2 (by omega) (by omega) (by omega), e 3 (by omega) (by omega) (by omega), e 5 (by omega) (by omega) (by omega), e 6 (by omega) (by omega) (by omega), e 7 (by omega) (by omega) (by omega), e 9 (by omega) (by omega) (by omega), e 10 (by omega) (by omega) (by omega), e 11 (by omega) (by omega) (by omega), e 12 (by omega) (by omega) (by omega), e 13 (by omega) (by omega) (by omega), e 14 (by omega) (by omega) (by omega), e 15 (by omega) (by omega) (by omega)]
  omega
theorem kcb1_c : ∀ a, a < 16 → ∀ b, b < 16 → (kcb 1 ((a : Nat) : Int) ((b : Nat) : Int) = decide (a &&& b = 0)) := by decide +kernel
theorem far_t {f : KF} {k a : Nat} (ha : a = 4 ∨ a = 8) (hk : k < 16) : kT 1 farP f k a = if a &&& (a ^^^ k) = 0 then ksg a (a ^^^ k) * f ((a ^^^ k : Nat) : Int) else 0 := by
  have hx := (kx16 a (by omega) k hk).1
  unfold kT
  have e : farP (a : Int) = 1 := by unfold farP; rw [if_pos (by omega)]
  rw [kcb1_c a (by omega) _ hx, e, Int.mul_one]
  by_cases q : a &&& (a ^^^ k) = 0
  · rw [if_pos q, if_pos (by rw [decide_eq_true_eq]; exact q)]
  · rw [if_neg q, if_neg (by rw [decide_eq_true_eq]; exact q)]
theorem far_0c : ∀ k, k < 16 → (k = 7 ∨ k = 11 ∨ k = 13 ∨ k = 14) ∨ ((4 &&& (4 ^^^ k) ≠ 0 ∨ kpop (4 ^^^ k) ≠ 2) ∧ (8 &&& (8 ^^^ k) ≠ 0 ∨ kpop (8 ^^^ k) ≠ 2)) := by decide +kernel
theorem far_two {f : KF} (h : kgr f = 4) : kZb (mulP 1 farP f) = true ↔ f 3 = 0 ∧ f 5 = f 9 ∧ f 6 = f 10 := by
  have z : ∀ b : Nat, b < 16 → kpop b ≠ 2 → f b = 0 := fun b hb hq => kgr_alone (j := 2) h hb hq
  have e7 : mulP 1 farP f 7 = f 3 := by
    have := far_out f 7
    rw [far_t (Or.inl rfl) (by omega), far_t (Or.inr rfl) (by omega), if_pos (by decide), if_neg (by decide), show ksg 4 (4 ^^^ 7) = 1 by decide] at this
    rw [show (7 : Int) = ((7 : Nat) : Int) by omega, this]; simp
  have e11 : mulP 1 farP f 11 = f 3 := by
    have := far_out f 11
    rw [far_t (Or.inl rfl) (by omega), far_t (Or.inr rfl) (by omega), if_neg (by decide), if_pos (by decide), show ksg 8 (8 ^^^ 11) = 1 by decide] at this
    rw [show (11 : Int) = ((11 : Nat) : Int) by omega, this]; simp
  have e13 : mulP 1 farP f 13 = -f 9 + f 5 := by
    have := far_out f 13
    rw [far_t (Or.inl rfl) (by omega), far_t (Or.inr rfl) (by omega), if_pos (by decide), if_pos (by decide), show ksg 4 (4 ^^^ 13) = -1 by decide, show ksg 8 (8 ^^^ 13) = 1 by decide] at this
    rw [show (13 : Int) = ((13 : Nat) : Int) by omega, this]; simp
  have e14 : mulP 1 farP f 14 = -f 10 + f 6 := by
    have := far_out f 14
    rw [far_t (Or.inl rfl) (by omega), far_t (Or.inr rfl) (by omega), if_pos (by decide), if_pos (by decide), show ksg 4 (4 ^^^ 14) = -1 by decide, show ksg 8 (8 ^^^ 14) = 1 by decide] at this
    rw [show (14 : Int) = ((14 : Nat) : Int) by omega, this]; simp
  rw [kZb_iff]
  constructor
  · intro q
    have q7 := q 7 (by omega) (by omega)
    have q13 := q 13 (by omega) (by omega)
    have q14 := q 14 (by omega) (by omega)
    rw [e7] at q7; rw [e13] at q13; rw [e14] at q14
    exact ⟨q7, by have q13 : -f 9 + f 5 = 0 := q13; omega, by have q14 : -f 10 + f 6 = 0 := q14; omega⟩
  · rintro ⟨h3, h5, h6⟩ k k0 k1
    obtain ⟨n, rfl⟩ := kint_nat k0
    have hn : n < 16 := by omega
    rcases far_0c n hn with (rfl | rfl | rfl | rfl) | ⟨a, b⟩
    · exact e7.trans h3
    · exact e11.trans h3
    · refine e13.trans ?_; show -f 9 + f 5 = 0; omega
    · refine e14.trans ?_; show -f 10 + f 6 = 0; omega
    · rw [far_out, far_t (Or.inl rfl) hn, far_t (Or.inr rfl) hn]
      have h4 : (if 4 &&& (4 ^^^ n) = 0 then ksg 4 (4 ^^^ n) * f ((4 ^^^ n : Nat) : Int) else 0) = 0 := by
        split
        · rw [z _ (kx16 4 (by omega) n hn).1 (by rcases a with a | a; exact absurd (by assumption) a; exact a)]; simp
        · rfl
      have h8 : (if 8 &&& (8 ^^^ n) = 0 then ksg 8 (8 ^^^ n) * f ((8 ^^^ n : Nat) : Int) else 0) = 0 := by
        split
        · rw [z _ (kx16 8 (by omega) n hn).1 (by rcases b with b | b; exact absurd (by assumption) b; exact b)]; simp
        · rfl
      rw [h4, h8]; rfl
/-- what a VECTOR is made of -/
theorem vec_1 {f : KF} (h : kObj (kind f)) {k : Nat} (hk : k < 16) (hp : kpop k ≠ 1) : vecP f k = 0 := by
  unfold vecP
  rcases kObj_gr h with q | q
  · rw [if_neg (by omega)]
    exact kgr_alone (j := 1) q hk hp
  · rw [if_pos q]
    unfold whlP
    have hx := (kx16 15 (by omega) k hk).1
    have hc : ∀ k, k < 16 → kpop k ≠ 1 → kpop (15 ^^^ k) ≠ 3 := by decide +kernel
    have := kgr_alone (f := f) (j := 3) q hx (hc k hk hp)
    rw [show ((k : Nat) : Int).toNat = k by omega, this]; simp
theorem inn_vec {p f : KF} (h : kObj (kind f)) : mulP 2 p (vecP f) 0 = p 1 * vecP f 1 + p 2 * vecP f 2 + p 4 * vecP f 4 - p 8 * vecP f 8 := by
  have hp0 : ∀ k, k < 16 → (k = 1 ∨ k = 2 ∨ k = 4 ∨ k = 8) ∨ kpop k ≠ 1 := by decide +kernel
  have hp : ∀ k, k < 16 → k ≠ 1 → k ≠ 2 → k ≠ 4 → k ≠ 8 → kpop k ≠ 1 := fun k hk a b e g => (hp0 k hk).resolve_left (fun q => by omega)
  have e : ∀ a : Nat, a < 16 → a ≠ 1 → a ≠ 2 → a ≠ 4 → a ≠ 8 → kT 2 p (vecP f) 0 a = 0 := fun a ha h1 h2 h4 h8 => by
    unfold kT
    rw [Nat.xor_zero, vec_1 h ha (hp a ha h1 h2 h4 h8)]; split <;> simp
  have g : ∀ a : Nat, a < 16 → kcb 2 ((a : Nat) : Int) ((a : Nat) : Int) = true := by decide +kernel
  have t : ∀ a : Nat, a < 16 → kT 2 p (vecP f) 0 a = ksg a a * p a * vecP f a := fun a ha => by
    unfold kT; rw [Nat.xor_zero, if_pos (g a ha)]
  show kSum 16 (kT 2 p (vecP f) 0) = _
  simp only [kSum]
  rw [e 0 (by omega) (by omega) (by omega) (by omega) (by omega), e 3 (by omega) (by omega) (by omega) (by omega) (by omega), e 5 (by omega) (by omega) (by omega) (by omega) (by omega), e 6 (by omega) (by omega) (by omega) (by omega) (by omega), e 7 (by omega) (by omega) (by omega) (by omega) (by omega), e 9 (by omega) (by omega) (by omega) (by omega) (by omega), e 10 (by omega) (by omega) (by omega) (by omega) (by omega), e 11 (by omega) (by omega) (by omega) (by omega) (by omega), e 12 (by omega) (by omega) (by omega) (by omega) (by omega), e 13 (by omega) (by omega) (by omega) (by omega) (by omega), e 14 (by omega) (by omega) (by omega) (by omega) (by omega), e 15 (by omega) (by omega) (by omega) (by omega) (by omega), t 1 (by omega), t 2 (by omega), t 4 (by omega), t 8 (by omega), show ksg 1 1 = 1 by decide, show ksg 2 2 = 1 by decide, show ksg 4 4 = 1 by decide, show ksg 8 8 = -1 by decide]
  simp only [Int.one_mul, Int.neg_mul, Int.neg_one_mul]
  show 0 + 0 + p 1 * vecP f 1 + p 2 * vecP f 2 + 0 + p 4 * vecP f 4 + 0 + 0 + 0 + -(p 8 * vecP f 8) + 0 + 0 + 0 + 0 + 0 + 0 + 0 = _
  omega
theorem kgr_41c : ∀ n, n < 32 → (n = 0 ∨ n = 2 ∨ n = 8 ∨ n &&& 10 = 0) ∨ (n &&& 21 = 0 ↔ n = 10) := by decide +kernel
theorem kgr_41 (n : Nat) (hn : n < 32) (h0 : n ≠ 0) (h2 : n ≠ 2) (h8 : n ≠ 8) (h10 : n &&& 10 ≠ 0) : (n &&& 21 = 0 ↔ n = 10) := (kgr_41c n hn).resolve_left (fun q => by rcases q with q | q | q | q; exact h0 q; exact h2 q; exact h8 q; exact h10 q)
section CSH
variable {G : KG} {S0 : KSh} {d : Nat} {P : Option AV → KMem → Prop} {c : KMem} {x0 x1 x2 x3 x4 : Int} {f g : KF} {M : Int}
theorem s_X8_canBear (hL : kLay S0) (r0 : k32 x0) (h1 : kBear x0 → P (some (kI 1)) c) (h0 : ¬ kBear x0 → P (some (kI 0)) c) : kC2 G S0 kM_X8_canBear (d + 1) [kI x0] c P := by
  unfold kBear at h1 h0
  exact v_X8_canBear hL r0 ⟨fun a => h1 (Or.inl a), fun a => ⟨fun b => h1 (Or.inr (Or.inl b)), fun b => ⟨fun e => h0 (fun q => by rcases q with q | q | q; exact a q; exact b q; exact e q), fun e => h1 (Or.inr (Or.inr e))⟩⟩⟩
theorem s_X8_gradesOf (hL : kLay S0) (hx0 : S0.2.1 x0 = (2, 16)) (h64 : ∀ k : Int, 0 ≤ k → k < 16 → k64 (c x0 k)) (h : P (some (kI (kgr (c x0)))) c) : kC2 G S0 kM_X8_gradesOf (d + 1) [kA x0] c P := by
  have loop : ∀ n k : Nat, k + n = 16 → kW2 G S0 kM_X8_gradesOf (d + 1) 4 [some (kA x0), some (kI (kgrN k (c x0))), some (kI k)] [] c P := by
    intro n
    induction n with
    | zero =>
      intro k hk
      obtain rfl : k = 16 := by omega
      have := kgrN_lt (f := c x0) 16 (by omega)
      exact v_X8_gradesOf_4 hL hx0 (by omega) (by omega) ⟨fun _ => h, fun z => by omega⟩
    | succ n ih =>
      intro k hk
      have h1 := kgrN_lt (f := c x0) k (by omega)
      have e1 : kgrN (k + 1) (c x0) = if c x0 k = 0 then kgrN k (c x0) else kgrN k (c x0) ||| 2 ^ kpop k := rfl
      refine v_X8_gradesOf_4 hL hx0 (by omega) (by omega) ⟨fun z => by omega, fun _ => ⟨h64 k (by omega) (by omega), fun z => ?_, fun z => ?_⟩⟩
      · have := ih (k + 1) (by omega)
        rw [e1, if_pos z] at this
        exact this
      · have := ih (k + 1) (by omega)
        rw [e1, if_neg z] at this
        have h2 : ∀ n, n < 16 → kpop n ≤ 4 := by decide +kernel
        have h3 := h2 k (by omega)
        have h4 : 2 ^ kpop k < 32 := Nat.lt_of_le_of_lt (Nat.pow_le_pow_right (by omega) h3) (by decide)
        rw [show (k : Int).toNat = k by omega, kshl1 (kpop k) (by omega), kor_nat _ _ (by omega) (by omega)]
        exact this
  exact v_X8_gradesOf hL hx0 (loop 16 0 (by omega))
theorem s_X8_kindOfVector (hL : kLay S0) (hb : kB kLB f) (h : P (some (kI (kOne f))) c) : kC2 G S0 kM_X8_kindOfVector d [kL (f 1), kL (f 2), kL (f 4), kL (f 8)] c P := by
  have hq := kQ4_bd hb
  have hk := kb64 hb (by decide)
  have eq : f 1 * f 1 + f 2 * f 2 + f 4 * f 4 - f 8 * f 8 = kQ4 f := rfl
  refine v_X8_kindOfVector hL ?_
  rw [eq]
  unfold kOne at h
  refine ⟨hk 4 (by omega) (by omega), hk 8 (by omega) (by omega), fun z => ⟨k64i (by omega), fun y => ⟨fun w => ?_, fun w => ?_⟩, fun y => ?_⟩, fun z => ⟨hk 1 (by omega) (by omega), fun y => ?_, fun y => ⟨hk 2 (by omega) (by omega), fun w => ?_, fun w => ?_⟩⟩⟩
  · rw [if_neg z, if_neg y, if_neg (by omega)] at h; exact h
  · rw [if_neg z, if_neg y, if_pos w] at h; exact h
  · rw [if_neg z, if_pos y] at h; exact h
  · rw [if_pos z, if_pos (Or.inl y)] at h; exact h
  · rw [if_pos z, if_neg (by omega)] at h; exact h
  · rw [if_pos z, if_pos (Or.inr w)] at h; exact h
theorem s_X8_isOnFarOne (hL : kLay S0) (hx0 : S0.2.1 x0 = (2, 16)) (h64 : ∀ k : Int, 0 ≤ k → k < 16 → k64 (c x0 k)) (h1 : (c x0 3 = 0 ∧ c x0 5 = c x0 9 ∧ c x0 6 = c x0 10) → P (some (kI 1)) c) (h0 : ¬ (c x0 3 = 0 ∧ c x0 5 = c x0 9 ∧ c x0 6 = c x0 10) → P (some (kI 0)) c) : kC2 G S0 kM_X8_isOnFarOne d [kA x0] c P :=
  v_X8_isOnFarOne hL hx0 ⟨h64 3 (by omega) (by omega), fun a => h0 (fun q => a q.1), fun a => ⟨h64 5 (by omega) (by omega), h64 9 (by omega) (by omega), fun b => h0 (fun q => b q.2.1), fun b => ⟨h64 6 (by omega) (by omega), h64 10 (by omega) (by omega), fun e => h0 (fun q => e q.2.2), fun e => h1 ⟨a, b, e⟩⟩⟩⟩
theorem s_X8_kindOfPair (hL : kLay S0) (hx0 : S0.2.1 x0 = (2, 16)) (hb : kB kLB (c x0)) (hg : kgr (c x0) = 4) (h : P (some (kI (kTwo (c x0)))) c) : kC2 G S0 kM_X8_kindOfPair (d + 3) [kA x0] c P := by
  have h64 := kb64 hb (by decide)
  have hm := mulP_bdL (kd := 0) hb hb 0 (by omega) (by omega)
  unfold kTwo at h
  refine v_X8_kindOfPair hL hx0 (s_X0_isOuterZero hL hx0 hx0 hb hb (by decide) (by decide) (by decide) (fun z => ⟨1, rfl, kq1 ?_⟩) (fun z => ⟨0, rfl, kq0 ?_⟩))
  · rw [if_neg (by rw [z]; decide)] at h
    refine s_X8_isOnFarOne hL hx0 h64 (fun y => ⟨1, rfl, kr1 ?_⟩) (fun y => ⟨0, rfl, kr0 ?_⟩)
    · rw [if_pos ((far_two hg).mpr y)] at h; exact h
    · rw [if_neg (fun q => y ((far_two hg).mp q))] at h
      refine s_X0_square hL hx0 h64 ⟨_, rfl, k64i (by omega), fun w => ⟨fun v => ?_, fun v => ?_⟩, fun w => ?_⟩
      · rw [if_neg (by omega), if_neg v] at h; exact h
      · rw [if_neg (by omega), if_pos v] at h; exact h
      · rw [if_pos w] at h; exact h
  · rw [if_pos (by cases q : kZb (mulP 1 (c x0) (c x0)); rfl; exact absurd q z)] at h; exact h
theorem s_X8_vectorPart (hL : kLay S0) (hx0 : S0.2.1 x0 = (2, 16)) (r1 : 0 ≤ x1 ∧ x1 < 16) (h64 : ∀ k : Int, 0 ≤ k → k < 16 → k64 (c x0 k)) (h : P (some (kL (vecP (c x0) x1))) c) : kC2 G S0 kM_X8_vectorPart (d + 2) [kA x0, kI x1] c P := by
  have hg := kgrN_lt (f := c x0) 16 (by omega)
  have hg' : kgr (c x0) < 32 := hg
  obtain ⟨k, rfl⟩ := kint_nat r1.1
  have e : kand ((k : Nat) : Int) 15 = (k : Int) := by
    have : ∀ k, k < 16 → kand ((k : Nat) : Int) 15 = (k : Int) := by decide +kernel
    exact this k (by omega)
  unfold vecP at h
  refine v_X8_vectorPart hL hx0 (by omega) r1 (s_X8_gradesOf hL hx0 h64 ⟨_, rfl, k32i (by omega), fun z => ?_, fun z => s_X0_timesWholeUnit hL hx0 (by omega) ⟨_, rfl, ?_⟩⟩)
  · rw [e]; rw [if_neg (by omega)] at h; exact ⟨r1, h⟩
  · rw [if_pos (by omega), whl_neg] at h; exact h
theorem s_X8_kindOf (hL : kLay S0) (hx0 : S0.2.1 x0 = (2, 16)) (hb : kB kLB (c x0)) (h : P (some (kI (kind (c x0)))) c) : kC2 G S0 kM_X8_kindOf (d + 4) [kA x0] c P := by
  have hg : kgr (c x0) < 32 := kgrN_lt (f := c x0) 16 (by omega)
  have h64 := kb64 hb (by decide)
  have e10 : kand (kgr (c x0) : Int) 10 = ((kgr (c x0) &&& 10 : Nat) : Int) := kand_gr (f := c x0) (m := 10) (by decide)
  unfold kind at h
  refine v_X8_kindOf hL hx0 (s_X8_gradesOf hL hx0 h64 ⟨_, rfl, k32i (by omega), fun n0 => ⟨fun n1 => ⟨fun n2 => ⟨fun n8 => ⟨fun n4 => ⟨fun n16 => ?_, fun z => ?_⟩, fun z => ?_⟩, fun z => ?_⟩, fun z => ?_⟩, fun z => ?_⟩, fun z => ?_⟩)
  · rw [if_neg (by omega), if_neg (by omega), if_neg (by omega), if_neg (by omega), if_neg (by omega), if_neg (by omega)] at h
    rw [e10]
    refine ⟨fun z => ⟨fun y => ?_, fun y => ?_⟩, fun z => ?_⟩
    · have := kgr_41 _ hg (by omega) (by omega) (by omega) (by omega)
      rw [if_neg (by omega), if_neg (by omega)] at h; exact h
    · have := kgr_41 _ hg (by omega) (by omega) (by omega) (by omega)
      rw [if_neg (by omega), if_pos (by omega)] at h; exact h
    · rw [if_pos (by omega)] at h; exact h
  · rw [if_neg (by omega), if_neg (by omega), if_neg (by omega), if_neg (by omega), if_neg (by omega), if_pos (by omega)] at h; exact h
  · rw [if_neg (by omega), if_neg (by omega), if_neg (by omega), if_pos (by omega)] at h
    exact s_X8_kindOfPair hL hx0 hb (by omega) ⟨_, rfl, h⟩
  · rw [if_neg (by omega), if_neg (by omega), if_neg (by omega), if_neg (by omega), if_pos (by omega)] at h
    have ev : vecP (c x0) = whlP (-1) (c x0) := by unfold vecP; rw [if_pos (by omega)]
    rw [← ev] at h
    refine s_X8_vectorPart hL hx0 (by omega) h64 ⟨_, rfl, s_X8_vectorPart hL hx0 (by omega) h64 ⟨_, rfl, s_X8_vectorPart hL hx0 (by omega) h64 ⟨_, rfl, s_X8_vectorPart hL hx0 (by omega) h64 ⟨_, rfl, ?_⟩⟩⟩⟩
    exact s_X8_kindOfVector hL (vecP_bd hb) ⟨_, rfl, h⟩
  · rw [if_neg (by omega), if_neg (by omega), if_pos (by omega)] at h
    exact s_X8_kindOfVector hL hb ⟨_, rfl, h⟩
  · rw [if_neg (by omega), if_pos (by omega)] at h; exact h
  · rw [if_pos (by omega)] at h; exact h
theorem s_X8_vectorOf (hL : kLay S0) (hx0 : S0.2.1 x0 = (2, 16)) (hx1 : S0.2.1 x1 = (2, 16)) (ne : x0 ≠ x1) (h64 : ∀ k : Int, 0 ≤ k → k < 16 → k64 (c x0 k)) (h : ∀ c', kEq (c' x1) (vecP (c x0)) → kO x1 c c' → P none c') : kC2 G S0 kM_X8_vectorOf (d + 3) [kA x0, kA x1] c P := by
  have loop : ∀ n k : Nat, k + n = 16 → ∀ c', kMp x1 (vecP (c x0)) (c x1) k c' → kO x1 c c' → kW2 G S0 kM_X8_vectorOf (d + 3) 2 [some (kA x0), some (kA x1), some (kI (k : Int))] [] c' P := by
    intro n
    induction n with
    | zero =>
      intro k hk c' h1 h2
      obtain rfl : k = 16 := by omega
      exact v_X8_vectorOf_2 hL hx0 hx1 (by omega) ⟨fun _ => h c' h1.fin h2, fun z => by omega⟩
    | succ n ih =>
      intro k hk c' h1 h2
      have e := h2.e ne
      exact v_X8_vectorOf_2 hL hx0 hx1 (by omega) ⟨fun z => by omega, fun _ => s_X8_vectorPart hL hx0 (by omega) (by rw [e]; exact h64) ⟨_, rfl, ih (k + 1) (by omega) _ (h1.up (by rw [e])) h2.up⟩⟩
  exact v_X8_vectorOf hL hx0 hx1 (loop 16 0 (by omega) c kMp.ini kO.rf)
theorem inn_bd {p f : KF} (hp : kB kLB p) (hf : kB kLB f) : -40000000000000000 ≤ p 1 * f 1 + p 2 * f 2 + p 4 * f 4 - p 8 * f 8 ∧ p 1 * f 1 + p 2 * f 2 + p 4 * f 4 - p 8 * f 8 ≤ 40000000000000000 := by
  have h1 := kmul_bd (hp 1 (by omega) (by omega)) (hf 1 (by omega) (by omega))
  have h2 := kmul_bd (hp 2 (by omega) (by omega)) (hf 2 (by omega) (by omega))
  have h4 := kmul_bd (hp 4 (by omega) (by omega)) (hf 4 (by omega) (by omega))
  have h8 := kmul_bd (hp 8 (by omega) (by omega)) (hf 8 (by omega) (by omega))
  have e : kLB * kLB = 10000000000000000 := by decide
  rw [e] at h1 h2 h4 h8
  omega
theorem s_X8_bears1 (hL : kLay S0) (hx0 : S0.2.1 x0 = (2, 16)) (hx2 : S0.2.1 x2 = (2, 16)) (r1 : k32 x1) (ho : kObj x1) (hv : kObj (kind (c x0))) (b0 : kB kLB (c x0)) (b2 : kB kLB (c x2)) (h1 : mulP 2 (c x2) (vecP (c x0)) 0 = 0 → P (some (kI 1)) c) (h0 : ¬ mulP 2 (c x2) (vecP (c x0)) 0 = 0 → P (some (kI 0)) c) : kC2 G S0 kM_X8_bears (d + 3) [kA x0, kI x1, kA x2] c P := by
  have h64 := kb64 b0 (by decide)
  have hbd := inn_bd b2 (vecP_bd b0)
  rw [inn_vec hv] at h1 h0
  refine v_X8_bears hL hx0 r1 hx2 ⟨fun _ => s_X8_vectorPart hL hx0 (by omega) h64 ⟨_, rfl, s_X8_vectorPart hL hx0 (by omega) h64 ⟨_, rfl, s_X8_vectorPart hL hx0 (by omega) h64 ⟨_, rfl, s_X8_vectorPart hL hx0 (by omega) h64 ⟨_, rfl, k64i (by omega), fun z => h0 z, fun z => h1 z⟩⟩⟩⟩, fun z => absurd ho z⟩
theorem s_X8_bears0 (hL : kLay S0) (hx0 : S0.2.1 x0 = (2, 16)) (hx2 : S0.2.1 x2 = (2, 16)) (r1 : k32 x1) (ho : ¬ kObj x1) (b0 : kB kLB (c x0)) (b2 : kB kLB (c x2)) (h1 : kZb (mulP 1 (c x2) (c x0)) = true → P (some (kI 1)) c) (h0 : ¬ kZb (mulP 1 (c x2) (c x0)) = true → P (some (kI 0)) c) : kC2 G S0 kM_X8_bears (d + 3) [kA x0, kI x1, kA x2] c P :=
  v_X8_bears hL hx0 r1 hx2 ⟨fun z => absurd z ho, fun _ => s_X0_isOuterZero hL hx2 hx0 b2 b0 (by decide) (by decide) (by decide) (fun z => ⟨1, rfl, ko1 (h1 z)⟩) (fun z => ⟨0, rfl, ko0 (h0 z)⟩)⟩
/-- what a spot holds -/
def kSp (c : KMem) (a : Int) (f : KF) : KMem := kup (kup (kup (kup (kup c a 0 (mdX f)) a 1 (mdY f)) a 2 (mdL f)) a 3 (mdS f 0)) a 4 (mdS f 1)
theorem mdG_ne (hne : f 4 ≠ f 8) : mdG f ≠ 0 := by
  have he : mdE f ≠ 0 := by unfold mdE; omega
  have : Int.gcd (Int.gcd (f 1) (f 2) : Int) (mdE f) ≠ 0 := fun q => he (Int.gcd_eq_zero_iff.mp q).2
  unfold mdG; split <;> omega
theorem s_X9_take (hL : kLay S0) (hx0 : S0.2.1 x0 = (17, 5)) (hx1 : S0.2.1 x1 = (2, 16)) (hb : kB kLB (c x1)) (hne : c x1 4 ≠ c x1 8) (h : P none (kSp c x0 (c x1))) : kC2 G S0 kM_X9_take (d + 2) [kA x0, kA x1] c P := by
  have n01 : x1 ≠ x0 := fun q => by rw [q, hx0] at hx1; cases hx1
  have h63 := kb63 hb (by decide)
  have q1 : -100000000 ≤ c x1 1 ∧ c x1 1 ≤ 100000000 := hb 1 (by omega) (by omega)
  have q2 : -100000000 ≤ c x1 2 ∧ c x1 2 ≤ 100000000 := hb 2 (by omega) (by omega)
  have q4 : -100000000 ≤ c x1 4 ∧ c x1 4 ≤ 100000000 := hb 4 (by omega) (by omega)
  have q8 : -100000000 ≤ c x1 8 ∧ c x1 8 ≤ 100000000 := hb 8 (by omega) (by omega)
  have hq := kQ4_bd hb
  have l12 := kgcd_le (a := c x1 1) (b := c x1 2) (N := 100000000) (by omega) (by omega)
  have eg : (Int.gcd (Int.gcd (c x1 1) (c x1 2) : Int) (c x1 4 - c x1 8)) = Int.gcd (Int.gcd (c x1 1) (c x1 2) : Int) (mdE (c x1)) := by
    have : mdE (c x1) = -(c x1 4 - c x1 8) := by unfold mdE; omega
    rw [this, Int.gcd_neg]
  have l3 := kgcd_le (a := (Int.gcd (c x1 1) (c x1 2) : Int)) (b := mdE (c x1)) (N := 200000000) (by omega) (by unfold mdE; omega)
  have hee : (c x1 4 - c x1 8) * (c x1 4 - c x1 8) = mdE (c x1) * mdE (c x1) := by
    have : mdE (c x1) = -(c x1 4 - c x1 8) := by unfold mdE; omega
    rw [this, Int.neg_mul_neg]
  have ebd := kmul_bd (a := mdE (c x1)) (b := mdE (c x1)) (M := 200000000) (N := 200000000) (by unfold mdE; omega) (by unfold mdE; omega)
  have e4 : (200000000 : Int) * 200000000 = 40000000000000000 := by decide
  rw [e4] at ebd
  have ene : mdE (c x1) ≠ 0 := by unfold mdE; omega
  have ene2 : mdE (c x1) * mdE (c x1) ≠ 0 := Int.mul_ne_zero ene ene
  have gne := mdG_ne hne
  have g52 : kW2 G S0 kM_X9_take (d + 2) 52 [some (kA x0), some (kA x1), some (kL (c x1 1)), none, some (kL (c x1 2)), none, some (kL (c x1 4 - c x1 8)), none, some (kL (mdG (c x1))), none, none, none] [] c P := by
    refine v_X9_take_52 hL hx0 hx1 ⟨by unfold mdG; split <;> exact k64i (by omega), fun _ => ⟨k63_64 (h63 1 (by omega) (by omega)), gne, k63_64 (h63 2 (by omega) (by omega)), k64i (by omega), v_X9_take_87 hL hx0 hx1 ?_⟩, fun z => absurd z gne⟩
    have r4 : (kup (kup (kup c x0 0 (Int.tdiv (c x1 1) (mdG (c x1)))) x0 1 (Int.tdiv (c x1 2) (mdG (c x1)))) x0 2 (Int.tdiv (-(c x1 4 - c x1 8)) (mdG (c x1)))) x1 4 = c x1 4 := by rw [kup_n (Or.inl n01), kup_n (Or.inl n01), kup_n (Or.inl n01)]
    have r8 : (kup (kup (kup c x0 0 (Int.tdiv (c x1 1) (mdG (c x1)))) x0 1 (Int.tdiv (c x1 2) (mdG (c x1)))) x0 2 (Int.tdiv (-(c x1 4 - c x1 8)) (mdG (c x1)))) x1 8 = c x1 8 := by rw [kup_n (Or.inl n01), kup_n (Or.inl n01), kup_n (Or.inl n01)]
    rw [r4, r8]
    refine v_X9_take_116 hL hx0 ?_
    have eQ : c x1 1 * c x1 1 + c x1 2 * c x1 2 + c x1 4 * c x1 4 - c x1 8 * c x1 8 = kQ4 (c x1) := rfl
    rw [eQ, hee]
    have hl : -(c x1 4 - c x1 8) = mdE (c x1) := by unfold mdE; omega
    rw [hl]
    refine s_X0_lowest hL (k32i (by omega)) (by unfold k63; omega) (by unfold k63; omega) ene2 ⟨_, rfl, s_X0_lowest hL (k32i (by omega)) (by unfold k63; omega) (by unfold k63; omega) ene2 ⟨_, rfl, h⟩⟩
  refine v_X9_take hL hx0 hx1 (v_X9_take_19 hL hx0 hx1 ⟨k64i (by omega), fun _ => s_X0_gcd hL (h63 1 (by omega) (by omega)) (h63 2 (by omega) (by omega)) ⟨_, rfl, s_X0_gcd hL (by unfold k63; omega) (by unfold k63; omega) ⟨_, rfl, ?_⟩⟩, fun z => by omega⟩)
  refine v_X9_take_40 hL hx0 hx1 ⟨k64i (by omega), fun z => ?_, fun z => ?_⟩
  · rw [eg]
    have : mdG (c x1) = (Int.gcd (Int.gcd (c x1 1) (c x1 2) : Int) (mdE (c x1)) : Int) := if_neg (by unfold mdE; omega)
    rw [this] at g52; exact g52
  · rw [eg]
    have : mdG (c x1) = -(Int.gcd (Int.gcd (c x1 1) (c x1 2) : Int) (mdE (c x1)) : Int) := if_pos (by unfold mdE; omega)
    rw [this] at g52; exact g52
end CSH
