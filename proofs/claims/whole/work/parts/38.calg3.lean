section CAL
variable {G : KG} {S0 : KSh} {d : Nat} {P : Option AV → KMem → Prop} {c : KMem} {x0 x1 x2 x3 x4 : Int}
theorem s_X0_gcd (hL : kLay S0) (r0 : k63 x0) (r2 : k63 x2) (h : P (some (kL (Int.gcd x0 x2 : Int))) c) : kC2 G S0 kM_X0_gcd d [kL x0, kL x2] c P := by
  have stop : ∀ (x t : Nat), t ≤ 100 → x = Int.gcd x0 x2 → x < 9223372036854775808 → kW2 G S0 kM_X0_gcd d 31 [none, none, none, none, some (kL (x : Int)), none, some (kL ((0 : Nat) : Int)), none, some (kI (t : Int)), none, none] [] c P := by
    intro x t ht e hx
    have h' : P (some (kL (x : Int))) c := by rw [e]; exact h
    exact v_X0_gcd_31 hL (by omega) ⟨fun _ => h', fun _ => ⟨k64i (by omega), fun _ => h', fun q => absurd rfl q⟩⟩
  have loop : ∀ n t : Nat, t + n ≤ 100 → ∀ x y : Nat, y < x → x < 9223372036854775808 → (y < (kLame n).2 ∨ x < (kLame (n + 1)).2) → Nat.gcd x y = Int.gcd x0 x2 → kW2 G S0 kM_X0_gcd d 31 [none, none, none, none, some (kL (x : Int)), none, some (kL (y : Int)), none, some (kI (t : Int)), none, none] [] c P := by
    intro n
    induction n with
    | zero =>
      intro t ht x y hxy hx hf e
      have e1 : (kLame 0).2 = 1 := rfl
      have e2 : (kLame (0 + 1)).2 = 1 := rfl
      obtain rfl : y = 0 := by omega
      exact stop x t (by omega) (by rw [← e, Nat.gcd_zero_right]) hx
    | succ n ih =>
      intro t ht x y hxy hx hf e
      by_cases hy : y = 0
      · subst hy
        exact stop x t (by omega) (by rw [← e, Nat.gcd_zero_right]) hx
      · have hp : 0 < y := by omega
        have hr := Nat.mod_lt x hp
        have e1 : (kLame (n + 1)).2 = (kLame n).1 + (kLame n).2 := rfl
        have e2 : (kLame (n + 1 + 1)).2 = (kLame n).2 + (kLame (n + 1)).2 := rfl
        have hm : x % y + y ≤ x := by
          have h1 := Nat.div_add_mod x y
          have h2 : 1 ≤ x / y := (Nat.one_le_div_iff hp).mpr (by omega)
          have h3 : y * 1 ≤ y * (x / y) := Nat.mul_le_mul_left y h2
          omega
        refine v_X0_gcd_31 hL (by omega) ⟨fun q => by omega, fun _ => ⟨k64i (by omega), fun q => by omega, fun _ => ⟨k64i (by omega), by omega, ?_⟩⟩⟩
        rw [show Int.tmod (x : Int) (y : Int) = ((x % y : Nat) : Int) from rfl]
        exact ih (t + 1) (by omega) y (x % y) hr (by omega) (by omega) (by rw [← e, Nat.gcd_comm y, ← Nat.gcd_rec, Nat.gcd_comm])
  have first : ∀ x y : Nat, x < 9223372036854775808 → y < 9223372036854775808 → Nat.gcd x y = Int.gcd x0 x2 → kW2 G S0 kM_X0_gcd d 31 [none, none, none, none, some (kL (x : Int)), none, some (kL (y : Int)), none, some (kI ((0 : Nat) : Int)), none, none] [] c P := by
    intro x y hx hy e
    by_cases hy0 : y = 0
    · subst hy0
      exact stop x 0 (by omega) (by rw [← e, Nat.gcd_zero_right]) hx
    · have hp : 0 < y := by omega
      have hr := Nat.mod_lt x hp
      refine v_X0_gcd_31 hL (by omega) ⟨fun q => by omega, fun _ => ⟨k64i (by omega), fun q => by omega, fun _ => ⟨k64i (by omega), by omega, ?_⟩⟩⟩
      rw [show Int.tmod (x : Int) (y : Int) = ((x % y : Nat) : Int) from rfl]
      exact loop 92 1 (by omega) y (x % y) hr hy (Or.inl (by have := kLame_92; omega)) (by rw [← e, Nat.gcd_comm y, ← Nat.gcd_rec, Nat.gcd_comm])
  have fin := first x0.natAbs x2.natAbs (by unfold k63 at r0; omega) (by unfold k63 at r2; omega) rfl
  refine v_X0_gcd hL ⟨k63_64 r0, fun a => ⟨k63_64 r2, fun b => ?_, fun b => ?_⟩, fun a => ⟨k63_64 r2, fun b => ?_, fun b => ?_⟩⟩
  · rw [show ((x0.natAbs : Nat) : Int) = x0 by omega, show ((x2.natAbs : Nat) : Int) = x2 by omega] at fin; exact fin
  · rw [show ((x0.natAbs : Nat) : Int) = x0 by omega, show ((x2.natAbs : Nat) : Int) = -x2 by omega] at fin; exact fin
  · rw [show ((x0.natAbs : Nat) : Int) = -x0 by omega, show ((x2.natAbs : Nat) : Int) = x2 by omega] at fin; exact fin
  · rw [show ((x0.natAbs : Nat) : Int) = -x0 by omega, show ((x2.natAbs : Nat) : Int) = -x2 by omega] at fin; exact fin
theorem s_X0_lowest (hL : kLay S0) (r4 : k32 x4) (r0 : k63 x0) (r2 : k63 x2) (hz : x2 ≠ 0) (h : P (some (kL (klow x0 x2 x4))) c) : kC2 G S0 kM_X0_lowest (d + 1) [kL x0, kL x2, kI x4] c P := by
  have hg0 : (Int.gcd x0 x2 : Int) ≠ 0 := by
    intro q
    have : Int.gcd x0 x2 = 0 := by omega
    exact hz (Int.gcd_eq_zero_iff.mp this).2
  have hg1 : (Int.gcd x0 x2 : Int) < 9223372036854775808 := by
    have h1 : Int.gcd x0 x2 ∣ x2.natAbs := Nat.gcd_dvd_right _ _
    have h2 := Nat.le_of_dvd (by omega) h1
    unfold k63 at r2
    omega
  have g1 : k64 (Int.gcd x0 x2 : Int) := k64i (by omega)
  have g2 : k64 (-(Int.gcd x0 x2 : Int)) := k64i (by omega)
  unfold klow at h
  refine v_X0_lowest hL r4 (s_X0_gcd hL r0 r2 ⟨_, rfl, g1, fun _ => ⟨k63_64 r2, fun a => ⟨fun b => ⟨hg0, ?_⟩, fun b => ⟨k63_64 r0, hg0, ?_⟩⟩, fun a => ⟨fun b => ⟨g2, by omega, ?_⟩, fun b => ⟨k63_64 r0, g2, by omega, ?_⟩⟩⟩, fun q => absurd q hg0⟩)
  · rw [if_neg b, if_neg (by omega)] at h; exact h
  · rw [if_pos b, if_neg (by omega)] at h; exact h
  · rw [if_neg b, if_pos a] at h; exact h
  · rw [if_pos b, if_pos a] at h; exact h
theorem kgdN_le {f : KF} {M : Int} (h : kB M f) (hM : 0 ≤ M) : ∀ n : Nat, n ≤ 16 → (kgdN n f : Int) ≤ M
  | 0, _ => hM
  | n + 1, hn => by
    have ih := kgdN_le h hM n (by omega)
    have h1 := h n (by omega) (by omega)
    have := kgcd_le (a := (kgdN n f : Int)) (b := f n) (N := M.toNat) (by omega) (by omega)
    show (Int.gcd (kgdN n f) (f n) : Int) ≤ M
    omega
theorem s_X0_normalise (hL : kLay S0) (hx0 : S0.2.1 x0 = (2, 16)) {M : Int} (hb : kB M (c x0)) (hM : 0 ≤ M ∧ M < 9223372036854775807) (h : ∀ c', kEq (c' x0) (nrmP (c x0)) → kO x0 c c' → P none c') : kC2 G S0 kM_X0_normalise (d + 1) [kA x0] c P := by
  have hg := kgdN_le hb hM.1 16 (by omega)
  have L2 : kgdN 16 (c x0) ≠ 0 → ∀ n k : Nat, k + n = 16 → ∀ c', kMp x0 (nrmP (c x0)) (c x0) k c' → kO x0 c c' → kW2 G S0 kM_X0_normalise (d + 1) 67 [some (kA x0), some (kL (nrmD (c x0))), none, none, some (kI (k : Int))] [] c' P := by
    intro hz n
    induction n with
    | zero =>
      intro k hk c' h1 h2
      obtain rfl : k = 16 := by omega
      exact v_X0_normalise_67 hL hx0 (by omega) ⟨fun _ => h c' h1.fin h2, fun z => by omega⟩
    | succ n ih =>
      intro k hk c' h1 h2
      have e := h1.at (by omega)
      have hne : nrmD (c x0) ≠ 0 := by unfold nrmD; split <;> omega
      have h64 : k64 (nrmD (c x0)) := by unfold nrmD; split <;> exact k64i (by omega)
      refine v_X0_normalise_67 hL hx0 (by omega) ⟨fun z => by omega, fun _ => ⟨by rw [e]; exact kb64 hb hM.2 k (by omega) (by omega), h64, hne, ih (k + 1) (by omega) _ (h1.up ?_) h2.up⟩⟩
      rw [e]; unfold nrmP; rw [if_neg hz]
  have L1 : ∀ n k : Nat, k + n = 16 → kW2 G S0 kM_X0_normalise (d + 1) 7 [some (kA x0), some (kL (kgdN k (c x0) : Int)), none, some (kI (if kngN k (c x0) = true then 1 else 0)), some (kI (k : Int))] [] c P := by
    intro n
    induction n with
    | zero =>
      intro k hk
      obtain rfl : k = 16 := by omega
      refine v_X0_normalise_7 hL hx0 (by split <;> omega) (by omega) (by omega) ⟨fun _ => ⟨k64i (by omega), fun z => ⟨fun y => ?_, fun y => ?_⟩, fun z => h c (fun j a b => ?_) kO.rf⟩, fun q => by omega⟩
      · have := L2 (by omega) 16 0 (by omega) c kMp.ini kO.rf
        have e : nrmD (c x0) = (kgdN 16 (c x0) : Int) := by unfold nrmD; rw [if_neg (fun w => by rw [if_pos w] at y; omega)]
        rw [e] at this; exact this
      · have := L2 (by omega) 16 0 (by omega) c kMp.ini kO.rf
        have e : nrmD (c x0) = -(kgdN 16 (c x0) : Int) := by unfold nrmD; rw [if_pos (Classical.byContradiction fun w => by rw [if_neg w] at y; omega)]
        rw [e] at this; exact this
      · unfold nrmP; rw [if_pos (by omega)]
    | succ n ih =>
      intro k hk
      have hgk := kgdN_le hb hM.1 k (by omega)
      have e1 : (Int.gcd (kgdN k (c x0)) (c x0 k) : Int) = (kgdN (k + 1) (c x0) : Int) := rfl
      have e2 : kngN (k + 1) (c x0) = if kgdN k (c x0) = 0 then decide (c x0 k < 0) else kngN k (c x0) := rfl
      have hf := kb63 hb hM.2 k (by omega) (by omega)
      have hr := ih (k + 1) (by omega)
      refine v_X0_normalise_7 hL hx0 (by split <;> omega) (by omega) (by omega) ⟨fun q => by omega, fun _ => ⟨k64i (by omega), fun z => s_X0_gcd hL (by unfold k63; omega) hf ⟨_, rfl, ?_⟩, fun z => ⟨k63_64 hf, fun y => s_X0_gcd hL (by unfold k63; omega) hf ⟨_, rfl, ?_⟩, fun y => s_X0_gcd hL (by unfold k63; omega) hf ⟨_, rfl, ?_⟩⟩⟩⟩
      · have e3 : kngN (k + 1) (c x0) = kngN k (c x0) := by rw [e2, if_neg (by omega)]
        rw [e1]; rw [e3] at hr; exact hr
      · have e3 : kngN (k + 1) (c x0) = false := by rw [e2, if_pos (by omega)]; exact decide_eq_false (by omega)
        rw [e1]; rw [e3, if_neg (by decide)] at hr; exact hr
      · have e3 : kngN (k + 1) (c x0) = true := by rw [e2, if_pos (by omega)]; exact decide_eq_true y
        rw [e1]; rw [e3, if_pos rfl] at hr; exact hr
  exact v_X0_normalise hL hx0 (L1 16 0 (by omega))
theorem s_X0_partsNotZero (hL : kLay S0) (hx0 : S0.2.1 x0 = (2, 16)) (h64 : ∀ k : Int, 0 ≤ k → k < 16 → k64 (c x0 k)) (h : P (some (kI (kcnN 16 (c x0) : Int))) c) : kC2 G S0 kM_X0_partsNotZero d [kA x0] c P := by
  have loop : ∀ n k : Nat, k + n = 16 → kW2 G S0 kM_X0_partsNotZero d 4 [some (kA x0), some (kI (kcnN k (c x0) : Int)), some (kI (k : Int))] [] c P := by
    intro n
    induction n with
    | zero =>
      intro k hk
      obtain rfl : k = 16 := by omega
      have := kcnN_le (c x0) 16
      exact v_X0_partsNotZero_4 hL hx0 (by omega) (by omega) ⟨fun _ => h, fun z => by omega⟩
    | succ n ih =>
      intro k hk
      have := kcnN_le (c x0) k
      have hr := ih (k + 1) (by omega)
      have e : kcnN (k + 1) (c x0) = if c x0 k = 0 then kcnN k (c x0) else kcnN k (c x0) + 1 := rfl
      refine v_X0_partsNotZero_4 hL hx0 (by omega) (by omega) ⟨fun z => by omega, fun _ => ⟨h64 k (by omega) (by omega), fun z => ?_, fun z => ?_⟩⟩
      · rw [e, if_pos z] at hr; exact hr
      · rw [e, if_neg z] at hr; exact hr
  exact v_X0_partsNotZero hL hx0 (loop 16 0 (by omega))
theorem kcnN_z {f : KF} : kcnN 16 f = 0 ↔ kZb f = true := by
  rw [kcnN_0, kZb_iff]
  exact ⟨fun h k a b => by obtain ⟨n, rfl⟩ := kint_nat a; exact h n (by omega), fun h k hk => h k (by omega) (by omega)⟩
theorem s_X0_isZero (hL : kLay S0) (hx0 : S0.2.1 x0 = (2, 16)) (h64 : ∀ k : Int, 0 ≤ k → k < 16 → k64 (c x0 k)) (h1 : kZb (c x0) = true → P (some (kI 1)) c) (h0 : ¬ kZb (c x0) = true → P (some (kI 0)) c) : kC2 G S0 kM_X0_isZero (d + 1) [kA x0] c P := by
  have := kcnN_le (c x0) 16
  exact v_X0_isZero hL hx0 (s_X0_partsNotZero hL hx0 h64 ⟨_, rfl, k32i (by omega), fun z => h0 (fun q => by have := kcnN_z.mpr q; omega), fun z => h1 (kcnN_z.mp (by omega))⟩)
theorem s_X0_isSame (hL : kLay S0) (hx0 : S0.2.1 x0 = (2, 16)) (hx1 : S0.2.1 x1 = (2, 16)) (h64 : ∀ k : Int, 0 ≤ k → k < 16 → k64 (c x0 k)) (h64b : ∀ k : Int, 0 ≤ k → k < 16 → k64 (c x1 k)) (h1 : kEq (c x0) (c x1) → P (some (kI 1)) c) (h0 : ¬ kEq (c x0) (c x1) → P (some (kI 0)) c) : kC2 G S0 kM_X0_isSame d [kA x0, kA x1] c P := by
  have loop : ∀ n k : Nat, k + n = 16 → (∀ j : Int, 0 ≤ j → j < k → c x0 j = c x1 j) → kW2 G S0 kM_X0_isSame d 2 [some (kA x0), some (kA x1), some (kI (k : Int))] [] c P := by
    intro n
    induction n with
    | zero =>
      intro k hk q
      exact v_X0_isSame_2 hL hx0 hx1 (by omega) ⟨fun _ => h1 (fun j a b => q j a (by omega)), fun z => by omega⟩
    | succ n ih =>
      intro k hk q
      refine v_X0_isSame_2 hL hx0 hx1 (by omega) ⟨fun z => by omega, fun _ => ⟨h64 k (by omega) (by omega), h64b k (by omega) (by omega), fun z => ih (k + 1) (by omega) (fun j a b => ?_), fun z => h0 (fun y => z (y k (by omega) (by omega)))⟩⟩
      by_cases e : j = k
      · rw [e]; exact z
      · exact q j a (by omega)
  exact v_X0_isSame hL hx0 hx1 (loop 16 0 (by omega) (fun j a b => by omega))
theorem s_X0_isWithinBound (hL : kLay S0) (hx0 : S0.2.1 x0 = (2, 16)) (h64 : ∀ k : Int, 0 ≤ k → k < 16 → k64 (c x0 k)) (h1 : kWb (c x0) = true → P (some (kI 1)) c) (h0 : ¬ kWb (c x0) = true → P (some (kI 0)) c) : kC2 G S0 kM_X0_isWithinBound (d + 1) [kA x0] c P := by
  rw [kWb_iff] at h1 h0
  have loop : ∀ n k : Nat, k + n = 16 → (∀ j : Int, 0 ≤ j → j < k → -100000000 ≤ c x0 j ∧ c x0 j ≤ 100000000) → kW2 G S0 kM_X0_isWithinBound (d + 1) 2 [some (kA x0), some (kI (k : Int))] [] c P := by
    intro n
    induction n with
    | zero =>
      intro k hk q
      exact v_X0_isWithinBound_2 hL hx0 (by omega) ⟨fun _ => h1 (fun j a b => q j a (by omega)), fun z => by omega⟩
    | succ n ih =>
      intro k hk q
      refine v_X0_isWithinBound_2 hL hx0 (by omega) ⟨fun z => by omega, fun _ => ⟨h64 k (by omega) (by omega), fun z => h0 (fun y => by have := y k (by omega) (by omega); omega), fun z => ih (k + 1) (by omega) (fun j a b => ?_)⟩⟩
      by_cases e : j = k
      · rw [e]; omega
      · exact q j a (by omega)
  exact v_X0_isWithinBound hL hx0 (loop 16 0 (by omega) (fun j a b => by omega))
theorem ksq_lt {a b : Nat} (h : a < b) : a * a < b * b := Nat.mul_lt_mul_of_lt_of_le h (by omega) (by omega)
theorem s_X0_rootOf (hL : kLay S0) (h0 : 0 ≤ x0 ∧ x0 < 9223372036854775807) (h : P (some (kL (if krtI x0 * krtI x0 = x0 then krtI x0 else -1))) c) : kC2 G S0 kM_X0_rootOf d [kL x0] c P := by
  obtain ⟨q, rfl⟩ := kint_nat h0.1
  have hk : krtI (q : Int) = (krt q : Int) := by unfold krtI; rw [show ((q : Nat) : Int).toNat = q by omega]
  rw [hk] at h
  have hq := krt_is q
  have hfin : ∀ l : Nat, l = krt q → l ≤ 3037000499 → P (some (kL (if (l : Int) * l = q then (l : Int) else -1))) c := fun l e _ => by rw [e]; exact h
  have sm : ∀ a : Nat, a ≤ 3037000499 → a * a ≤ 9223372030926249001 := fun a ha => by
    have := Nat.mul_le_mul ha ha
    omega
  have loop : ∀ n t : Nat, t + n = 64 → ∀ l r : Nat, l ≤ krt q → krt q ≤ r → r ≤ 3037000499 → r - l < 2 ^ n → kW2 G S0 kM_X0_rootOf d 10 [some (kL (q : Int)), none, some (kL (l : Int)), none, some (kL (r : Int)), none, some (kI (t : Int)), none, none] [] c P := by
    intro n
    induction n with
    | zero =>
      intro t ht l r hl hr hr2 hd
      have e : l = krt q := by have : (2 : Nat) ^ 0 = 1 := rfl; omega
      have h3 := hfin l e (by omega)
      have h4 := sm l (by omega)
      have h5 : ((l : Int) * l) = ((l * l : Nat) : Int) := by simp
      refine v_X0_rootOf_10 hL (by omega) ⟨fun _ => ⟨by rw [h5]; exact k64i (by omega), k64i (by omega), fun z => ?_, fun z => ?_⟩, fun z => by omega⟩
      · rw [if_neg z] at h3; exact h3
      · rw [if_pos z] at h3; exact h3
    | succ n ih =>
      intro t ht l r hl hr hr2 hd
      have h4 := sm l (by omega)
      have h5 : ((l : Int) * l) = ((l * l : Nat) : Int) := by simp
      refine v_X0_rootOf_10 hL (by omega) ⟨fun z => by omega, fun _ => ⟨k64i (by omega), k64i (by omega), fun y => ?_, fun y => ?_⟩⟩
      · have h3 := hfin l (by omega) (by omega)
        refine ⟨by rw [h5]; exact k64i (by omega), k64i (by omega), fun z => ?_, fun z => ?_⟩
        · rw [if_neg z] at h3; exact h3
        · rw [if_pos z] at h3; exact h3
      · have em : (l : Int) + Int.tdiv ((r : Int) - l + 1) 2 = ((l + (r - l + 1) / 2 : Nat) : Int) := by
          rw [show (r : Int) - l + 1 = ((r - l + 1 : Nat) : Int) by omega]
          rw [show Int.tdiv ((r - l + 1 : Nat) : Int) 2 = (((r - l + 1) / 2 : Nat) : Int) from rfl]
          omega
        rw [em]
        have hm : l + (r - l + 1) / 2 ≤ r := by omega
        have h6 := sm (l + (r - l + 1) / 2) (by omega)
        have h7 : (((l + (r - l + 1) / 2 : Nat) : Int) * ((l + (r - l + 1) / 2 : Nat) : Int)) = (((l + (r - l + 1) / 2) * (l + (r - l + 1) / 2) : Nat) : Int) := by simp
        have hp : (2 : Nat) ^ (n + 1) = 2 * 2 ^ n := by rw [Nat.pow_succ, Nat.mul_comm]
        rw [h7]
        refine ⟨k64i (by omega), k64i (by omega), k64i (by omega), fun z => ?_, fun z => ?_⟩
        · have : krt q < l + (r - l + 1) / 2 := by
            apply Classical.byContradiction
            intro w
            have := Nat.mul_le_mul (show l + (r - l + 1) / 2 ≤ krt q by omega) (show l + (r - l + 1) / 2 ≤ krt q by omega)
            omega
          rw [show (((l + (r - l + 1) / 2 : Nat) : Int) - 1) = ((l + (r - l + 1) / 2 - 1 : Nat) : Int) by omega]
          exact ih (t + 1) (by omega) l (l + (r - l + 1) / 2 - 1) hl (by omega) (by omega) (by omega)
        · have : l + (r - l + 1) / 2 ≤ krt q := by
            apply Classical.byContradiction
            intro w
            have := Nat.mul_le_mul (show krt q + 1 ≤ l + (r - l + 1) / 2 by omega) (show krt q + 1 ≤ l + (r - l + 1) / 2 by omega)
            omega
          exact ih (t + 1) (by omega) (l + (r - l + 1) / 2) r (by omega) hr hr2 (by omega)
  have hr : krt q ≤ 3037000499 := by
    apply Classical.byContradiction
    intro w
    have := Nat.mul_le_mul (show 3037000500 ≤ krt q by omega) (show 3037000500 ≤ krt q by omega)
    omega
  exact v_X0_rootOf hL (loop 64 0 (by omega) 0 3037000499 (by omega) hr (by omega) (by decide))
theorem whlP_congr1 {f g : KF} (h : kEq f g) : kEq (whlP 1 f) (whlP 1 g) := whlP_congr h
theorem s_X0_meet (hL : kLay S0) (hx0 : S0.2.1 x0 = (2, 16)) (hx1 : S0.2.1 x1 = (2, 16)) (hx2 : S0.2.1 x2 = (2, 16)) (hx3 : S0.2.1 x3 = (2, 16)) (hx4 : S0.2.1 x4 = (2, 16)) (ne : x0 ≠ x2 ∧ x0 ≠ x3 ∧ x0 ≠ x4 ∧ x1 ≠ x2 ∧ x1 ≠ x3 ∧ x1 ≠ x4 ∧ x2 ≠ x3 ∧ x2 ≠ x4 ∧ x3 ≠ x4) (b0 : kB kLB (c x0)) (b1 : kB kLB (c x1)) (h1 : ∀ c', kEq (c' x4) (metP (c x0) (c x1)) → (∀ x i : Int, x ≠ x2 → x ≠ x3 → x ≠ x4 → c' x i = c x i) → kWb (mulP 1 (whlP (-1) (c x0)) (whlP (-1) (c x1))) = true → P (some (kI 1)) c') (h0 : ∀ c', kEq (c' x4) (metP (c x0) (c x1)) → (∀ x i : Int, x ≠ x2 → x ≠ x3 → x ≠ x4 → c' x i = c x i) → ¬ kWb (mulP 1 (whlP (-1) (c x0)) (whlP (-1) (c x1))) = true → P (some (kI 0)) c') : kC2 G S0 kM_X0_meet (d + 2) [kA x0, kA x1, kA x2, kA x3, kA x4] c P := by
  obtain ⟨n02, n03, n04, n12, n13, n14, n23, n24, n34⟩ := ne
  refine v_X0_meet hL hx0 hx1 hx2 hx3 hx4 (s_X0_dual hL hx0 hx2 n02 (fun c1 e1 o1 => ⟨rfl, s_X0_dual hL hx1 hx3 n13 (fun c2 e2 o2 => ⟨rfl, ?_⟩)⟩))
  rw [o1.e n12] at e2
  have e1' : kEq (c2 x2) (whlP (-1) (c x0)) := by rw [o2.e n23]; exact e1
  have q0 := whlP_bd (s := -1) (Or.inr rfl) b0
  have q1 := whlP_bd (s := -1) (Or.inr rfl) b1
  refine s_X0_multiply hL (Or.inr (Or.inl rfl)) hx2 hx3 hx4 n24 n34 (kb64 (q0.eq e1') (by decide)) (kb64 (q1.eq e2) (by decide)) (fun c3 e3 o3 => ⟨rfl, s_X0_copy hL hx4 hx2 (fun c4 e4 o4 => ⟨rfl, ?_⟩)⟩)
  have e5 : kEq (c4 x2) (mulP 1 (whlP (-1) (c x0)) (whlP (-1) (c x1))) := e4.tr (e3.tr (mulP_congr e1' e2))
  have b5 : kB 160000000000000000 (c4 x2) := (mulP_bdL q0 q1).eq e5
  have loop : ∀ n k : Nat, k + n = 16 → ∀ c', kMp x4 (metP (c x0) (c x1)) (c4 x4) k c' → kO x4 c4 c' → kW2 G S0 kM_X0_meet (d + 2) 27 [none, none, some (kA x2), none, some (kA x4), some (kI (k : Int))] [] c' P := by
    intro n
    induction n with
    | zero =>
      intro k hk c' p1 p2
      obtain rfl : k = 16 := by omega
      have fr : ∀ x i : Int, x ≠ x2 → x ≠ x3 → x ≠ x4 → c' x i = c x i := fun x i a b e => (p2 x i e).trans ((o4 x i a).trans ((o3 x i e).trans ((o2 x i b).trans (o1 x i a))))
      have e6 : kEq (c' x2) (mulP 1 (whlP (-1) (c x0)) (whlP (-1) (c x1))) := by rw [p2.e n24]; exact e5
      refine v_X0_meet_27 hL hx2 hx4 (by omega) ⟨fun _ => s_X0_isWithinBound hL hx2 (by rw [p2.e n24]; exact kb64 b5 (by decide)) (fun q => ⟨1, rfl, ko1 (h1 c' p1.fin fr (by rw [← kWb_congr e6]; exact q))⟩) (fun q => ⟨0, rfl, ko0 (h0 c' p1.fin fr (by rw [← kWb_congr e6]; exact q))⟩), fun z => by omega⟩
    | succ n ih =>
      intro k hk c' p1 p2
      refine v_X0_meet_27 hL hx2 hx4 (by omega) ⟨fun z => by omega, fun _ => s_X0_timesWholeUnit hL hx2 (by omega) ⟨_, rfl, ih (k + 1) (by omega) _ (p1.up ?_) p2.up⟩⟩
      rw [p2.e n24]
      exact whlP_congr1 e5 k (by omega) (by omega)
  exact loop 16 0 (by omega) c4 kMp.ini kO.rf
end CAL
