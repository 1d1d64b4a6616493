theorem kCm_swap (p : Nat → Nat → Bool) (m : Nat) : ∀ n, kCm (fun i j => p j i) n m = kCm p m n
  | 0 => by
    have : ∀ m, kCm (fun i j => p j i) 0 m = 0 := by
      intro m
      induction m with
      | zero => rfl
      | succ m ih => show kCm (fun i j => p j i) 0 m + 0 = 0; rw [ih]
    exact this m
  | n + 1 => by
    have e : ∀ m, kCm (fun i j => p j i) (n + 1) m = kCm (fun i j => p j i) n m + kCn (p n) m := by
      intro m
      induction m with
      | zero => rfl
      | succ m ih =>
        show kCm (fun i j => p j i) (n + 1) m + kCn (fun j => p j m) (n + 1) = kCm (fun i j => p j i) n m + kCn (fun j => p j m) n + kCn (p n) (m + 1)
        have e1 : kCn (fun j => p j m) (n + 1) = if p n m = true then kCn (fun j => p j m) n + 1 else kCn (fun j => p j m) n := rfl
        have e2 : kCn (p n) (m + 1) = if p n m = true then kCn (p n) m + 1 else kCn (p n) m := rfl
        rw [ih, e1, e2]
        by_cases q : p n m = true
        · rw [if_pos q, if_pos q]; omega
        · rw [if_neg q, if_neg q]; omega
    rw [e, kCm_swap p m n]; rfl
theorem kpl_bd {f : KF} {u v : Int} (hu : -99 ≤ u ∧ u ≤ 99) (hv : -99 ≤ v ∧ v ≤ 99) (hb : kB kLB f) : k64 (kpl f u v) := by
  have m1 := kmul_bd (a := u) (b := u) (M := 99) (N := 99) hu hu
  have m2 := kmul_bd (a := v) (b := v) (M := 99) (N := 99) hv hv
  have ee : (99 : Int) * 99 = 9801 := by decide
  rw [ee] at m1 m2
  have n1 := kmul_bd (a := 2 * u) (b := f 1) (M := 30000) (N := 100000000) (by omega) (hb 1 (by omega) (by omega))
  have n2 := kmul_bd (a := 2 * v) (b := f 2) (M := 30000) (N := 100000000) (by omega) (hb 2 (by omega) (by omega))
  have n4 := kmul_bd (a := u * u + v * v - 1) (b := f 4) (M := 30000) (N := 100000000) (by omega) (hb 4 (by omega) (by omega))
  have n8 := kmul_bd (a := u * u + v * v + 1) (b := f 8) (M := 30000) (N := 100000000) (by omega) (hb 8 (by omega) (by omega))
  have e3 : (30000 : Int) * 100000000 = 3000000000000 := by decide
  rw [e3] at n1 n2 n4 n8
  unfold kpl
  exact k64i (by omega)
section CQ
variable {G : KG} {S0 : KSh} {d : Nat} {P : Option AV → KMem → Prop} {c c0 : KMem} {Ψ : Int → KF} {H : Int → Bool} {F : Int → KF} {f g : KF} {M : Int} {x0 x1 x2 x3 x4 : Int}
theorem CSt.hh (hs : CSt H F c) (l : Int) : kHs c 3 l ↔ H l = true := (hs.1.2.1 l).symm
theorem tc_kindAt (hL : kLay S0) (hs : kCh Ψ c0 c) (h : P (some (kI (kind f))) c) (r : 0 ≤ x1 ∧ x1 < 12 := by omega) (e1 : Ψ (3 + 2 + x1) = f := by repeat (first | with_reducible exact kUs | with_reducible assumption | (with_reducible apply kUn; omega) | exact rfl)) (b1 : kB kLB f := by repeat' (first | with_reducible assumption | with_reducible exact farP_bdL | with_reducible apply vecP_bd | with_reducible apply nrmP_bd | with_reducible apply revP_bd | with_reducible apply whlP_bd (Or.inr rfl) | with_reducible apply whlP_bd (Or.inl rfl) | with_reducible apply mulP_bdL | with_reducible exact plcP_bd (by omega) (by omega))) : kC2 G S0 kM_X10_kindAt (d + 5) [kA 0, kI x1] c P :=
  v_X10_kindAt hL (by omega) ⟨r, tc_kindOf hL hs ⟨_, rfl, h⟩ (lrow hL r.1 r.2) e1 b1⟩
theorem s_X10_part (hL : kLay S0) (r1 : k32 x1) (r2 : k32 x2) (hs : CSt H F c) (h : ∀ c', kCP c c' → P (some (kI (vPart H F x1 x2))) c') : kC2 G S0 kM_X10_part (d + 1) [kA 0, kI x1, kI x2] c P := by
  have hP := kCi h
  unfold vPart at hP
  refine v_X10_part hL r1 r2 ⟨hs.1.1, fun a => ⟨fun b => hP _ _ kCP.rf (by rw [if_neg (by omega)]), fun b => ⟨fun e => ⟨⟨a.1, a.2.1⟩, ?_⟩, fun e => hP _ _ kCP.rf (by rw [if_neg (by omega)])⟩⟩, fun a => hP _ _ kCP.rf (by rw [if_neg (fun q => a ((hs.hh _).mpr q.1))])⟩
  have y := (hs.hh _).mp a
  exact hP _ _ kCP.rf (by rw [if_pos ⟨y, b, e⟩]; exact (hs.1.2.2 _ y).1 x2 b e)
theorem s_X10_on (hL : kLay S0) (r1 : k32 x1) (r2 : k32 x2) (r3 : k32 x3) (hs : CSt H F c) (h : ∀ c', kCP c c' → P (some (kI (vOn H F x1 x2 x3))) c') : kC2 G S0 kM_X10_on (d + 5) [kA 0, kI x1, kI x2, kI x3] c P := by
  have hP := kCi h
  unfold vOn at hP
  obtain ⟨Ψ, s0, hl⟩ := hs.op
  refine v_X10_on hL r1 r2 r3 ⟨hs.1.1, fun a => ⟨fun b => hP _ _ kCP.rf (by rw [if_neg (by omega)]), fun b => ⟨fun e => hP _ _ kCP.rf (by rw [if_neg (by omega)]), fun e => ⟨⟨a.1, a.2.1⟩, ?_⟩⟩⟩, fun a => hP _ _ kCP.rf (by rw [if_neg (fun q => a ((hs.hh _).mpr q.1))])⟩
  have y := (hs.hh _).mp a
  obtain ⟨a1, b1, e1, q1⟩ := hl.1 _ y
  have w1 := lrow hL a1 b1
  have hk := kind_rg (F x1)
  rw [if_pos ⟨y, by omega, by omega⟩] at hP
  refine tc_kindOf hL s0 ⟨_, rfl, ?_⟩
  refine ⟨k32i (by omega), fun z => ?_, fun z => ?_⟩
  · rw [if_pos (kBearB_iff.mpr z)] at hP
    refine tc_place hL s0 (by omega) (by omega) (fun c1 s1 => ⟨rfl, ?_⟩)
    have hp := plcP_bd (u := x2) (v := x3) (by omega) (by omega)
    by_cases ho : kObj (kind (F x1))
    · have ek : kOn (F x1) x2 x3 = (mulP 2 (plcP x2 x3) (vecP (F x1)) 0 == 0) := by unfold kOn; rw [if_pos (kObjB_iff.mpr ho)]
      rw [ek] at hP
      refine tc_bears1 hL s1 ho (fun q => ⟨1, rfl, kr1 ?_⟩) (fun q => ⟨0, rfl, kr0 ?_⟩)
      · exact hP _ _ s1.rp (by rw [if_pos (by simp only [beq_iff_eq]; exact q)])
      · exact hP _ _ s1.rp (by rw [if_neg (by simp only [beq_iff_eq]; exact q)])
    · have ek : kOn (F x1) x2 x3 = kZb (mulP 1 (plcP x2 x3) (F x1)) := by unfold kOn; rw [if_neg (fun q => ho (kObjB_iff.mp q))]
      rw [ek] at hP
      refine tc_bears0 hL s1 ho (fun q => ⟨1, rfl, kr1 ?_⟩) (fun q => ⟨0, rfl, kr0 ?_⟩)
      · exact hP _ _ s1.rp (by rw [if_pos q])
      · exact hP _ _ s1.rp (by rw [if_neg q])
  · exact hP _ _ s0.rp (by rw [if_neg (fun q => z (kBearB_iff.mp q))])
theorem s_X10_row (hL : kLay S0) (r1 : k32 x1) (r2 : k32 x2) (hs : CSt H F c) (h : ∀ c', kCP c c' → P (some (kI (vRow H F x1 x2))) c') : kC2 G S0 kM_X10_row (d + 5) [kA 0, kI x1, kI x2] c P := by
  have hP := kCi h
  unfold vRow at hP
  obtain ⟨Ψ, s0, hl⟩ := hs.op
  refine v_X10_row hL r1 r2 ⟨hs.1.1, fun a => ⟨fun b => hP _ _ kCP.rf (by rw [if_neg (by omega)]), fun b => ⟨⟨a.1, a.2.1⟩, ?_⟩⟩, fun a => hP _ _ kCP.rf (by rw [if_neg (fun q => a ((hs.hh _).mpr q.1))])⟩
  have y := (hs.hh _).mp a
  obtain ⟨a1, b1, e1, q1⟩ := hl.1 _ y
  have w1 := lrow hL a1 b1
  have hk := kind_rg (F x1)
  rw [if_pos ⟨y, by omega⟩] at hP
  refine tc_kindOf hL s0 ⟨_, rfl, ?_⟩
  refine ⟨k32i (by omega), fun z => ?_, fun z => ?_⟩
  · rw [if_pos (kBearB_iff.mpr z)] at hP
    have loop : ∀ n k : Nat, k + n = 31 → ∀ Ψ' c', kCh Ψ' c c' → Ψ' (3 + 2 + x1) = F x1 → kW2 G S0 kM_X10_row (d + 5) 53 [some (kA 0), none, some (kI x2), some (kA (3 + 2 + x1)), some (kI (kind (F x1))), some (kI (kBits (fun k => kOn (F x1) ((k : Int) - 15) x2) k : Int)), some (kI ((k : Int) - 15))] [] c' P := by
      intro n
      induction n with
      | zero =>
        intro k hk9 Ψ' c' s1 e1
        obtain rfl : k = 31 := by omega
        have hb := kBits_lt (fun k => kOn (F x1) ((k : Int) - 15) x2) 31
        exact v_X10_row_53 hL (by omega) w1 (by omega) (by omega) (by omega) ⟨fun _ => hP _ _ s1.rp rfl, fun q => by omega⟩
      | succ n ih =>
        intro k hk9 Ψ' c' s1 e1
        have hb := kBits_lt (fun k => kOn (F x1) ((k : Int) - 15) x2) k
        have hb2 : 2 ^ k ≤ 2 ^ 30 := Nat.pow_le_pow_right (by omega) (by omega)
        have hp := plcP_bd (u := (k : Int) - 15) (v := x2) (by omega) (by omega)
        have ed : kBits (fun k => kOn (F x1) ((k : Int) - 15) x2) (k + 1) = if kOn (F x1) ((k : Int) - 15) x2 = true then kBits (fun k => kOn (F x1) ((k : Int) - 15) x2) k ||| 2 ^ k else kBits (fun k => kOn (F x1) ((k : Int) - 15) x2) k := rfl
        have ek : (k : Int) - 15 + 1 = ((k + 1 : Nat) : Int) - 15 := by omega
        refine v_X10_row_53 hL (by omega) w1 (by omega) (by omega) (by omega) ⟨fun q => by omega, fun _ => ?_⟩
        refine tc_place hL s1 (k32i (by omega)) (k32i (by omega)) (fun c1 s2 => ⟨rfl, ?_⟩)
        have e2 : kU Ψ' 557 (plcP ((k : Int) - 15) x2) (3 + 2 + x1) = F x1 := kUn (by omega) e1
        have yes : kOn (F x1) ((k : Int) - 15) x2 = true → kW2 G S0 kM_X10_row (d + 5) 53 [some (kA 0), none, some (kI x2), some (kA (3 + 2 + x1)), some (kI (kind (F x1))), some (kI (kor (kBits (fun k => kOn (F x1) ((k : Int) - 15) x2) k : Int) (kshl 1 ((k : Int) - 15 + 15)))), some (kI ((k : Int) - 15 + 1))] [] c1 P := fun q => by
          rw [show (k : Int) - 15 + 15 = (k : Int) by omega, kshl1 k (by omega), kor_nat _ _ (by omega) (by omega), ek]
          have := ih (k + 1) (by omega) _ _ s2 e2
          rw [ed, if_pos q] at this; exact this
        have no : ¬ kOn (F x1) ((k : Int) - 15) x2 = true → kW2 G S0 kM_X10_row (d + 5) 53 [some (kA 0), none, some (kI x2), some (kA (3 + 2 + x1)), some (kI (kind (F x1))), some (kI (kBits (fun k => kOn (F x1) ((k : Int) - 15) x2) k : Int)), some (kI ((k : Int) - 15 + 1))] [] c1 P := fun q => by
          rw [ek]
          have := ih (k + 1) (by omega) _ _ s2 e2
          rw [ed, if_neg q] at this; exact this
        by_cases ho : kObj (kind (F x1))
        · have ek : kOn (F x1) ((k : Int) - 15) x2 = (mulP 2 (plcP ((k : Int) - 15) x2) (vecP (F x1)) 0 == 0) := by unfold kOn; rw [if_pos (kObjB_iff.mpr ho)]
          refine tc_bears1 hL s2 ho (fun q => ⟨1, rfl, kr1 (yes ?_)⟩) (fun q => ⟨0, rfl, kr0 (no ?_)⟩)
          · rw [ek]; simp only [beq_iff_eq]; exact q
          · rw [ek]; simp only [beq_iff_eq]; exact q
        · have ek : kOn (F x1) ((k : Int) - 15) x2 = kZb (mulP 1 (plcP ((k : Int) - 15) x2) (F x1)) := by unfold kOn; rw [if_neg (fun q => ho (kObjB_iff.mp q))]
          refine tc_bears0 hL s2 ho (fun q => ⟨1, rfl, kr1 (yes ?_)⟩) (fun q => ⟨0, rfl, kr0 (no ?_)⟩)
          · rw [ek]; exact q
          · rw [ek]; exact q
    exact loop 31 0 (by omega) Ψ c s0 e1
  · exact hP _ _ s0.rp (by rw [if_neg (fun q => z (kBearB_iff.mp q))])
theorem tc_placeInner (hL : kLay S0) (hs : kCh Ψ c0 c) (r0 : k32 x0) (r1 : k32 x1) (h : P (some (kL (kpl f x0 x1))) c) (hx2 : S0.2.1 x2 = (2, 16) := by first | with_reducible assumption | with_reducible exact lsh_555 hL | with_reducible exact lsh_556 hL | with_reducible exact lsh_557 hL | with_reducible exact lsh_524 hL | with_reducible exact lsh_525 hL | with_reducible exact lsh_526 hL | with_reducible exact lsh_527 hL | with_reducible exact lsh_529 hL | with_reducible exact lsh_530 hL | with_reducible exact lsh_531 hL | with_reducible exact lsh_532 hL | with_reducible exact lsh_549 hL | with_reducible exact lsh_550 hL | with_reducible exact lsh_551 hL | with_reducible exact lsh_552 hL) (e1 : Ψ x2 = f := by repeat (first | with_reducible exact kUs | with_reducible assumption | (with_reducible apply kUn; omega) | exact rfl)) : kC2 G S0 kM_X8_placeInner d [kI x0, kI x1, kA x2] c P := by
  have E := hs.e e1
  refine v_X8_placeInner hL r0 r1 hx2 ?_
  rw [E 1 (by omega) (by omega), E 2 (by omega) (by omega), E 4 (by omega) (by omega), E 8 (by omega) (by omega)]
  have : 2 * (x0 * f 1 + x1 * f 2) + (x0 * x0 + x1 * x1 - 1) * f 4 - (x0 * x0 + x1 * x1 + 1) * f 8 = kpl f x0 x1 := by
    unfold kpl
    rw [Int.mul_add, Int.mul_assoc, Int.mul_assoc]
  rw [this]; exact h
theorem s_X10_whole (hL : kLay S0) (r1 : k32 x1) (hs : CSt H F c) (h : ∀ c', kCP c c' → P (some (kI (vWhole H F x1))) c') : kC2 G S0 kM_X10_whole (d + 6) [kA 0, kI x1] c P := by
  have hP := kCi h
  unfold vWhole at hP
  obtain ⟨Ψ, s0, hl⟩ := hs.op
  refine v_X10_whole hL r1 ⟨hs.1.1, fun a => ?_, fun a => hP _ _ kCP.rf (by rw [if_neg (fun q => a ((hs.hh _).mpr q))])⟩
  have y := (hs.hh _).mp a
  obtain ⟨a1, b1, e1, q1⟩ := hl.1 _ y
  have w1 := lrow hL a1 b1
  have hk := kind_rg (F x1)
  rw [if_pos y] at hP
  refine tc_kindAt hL s0 ⟨_, rfl, ?_⟩
  refine ⟨k32i (by omega), fun z => ⟨⟨a1, b1⟩, ?_⟩, fun z => hP _ _ s0.rp (by rw [if_neg (fun q => z (kObjB_iff.mp q))])⟩
  rw [if_pos (kObjB_iff.mpr z), ← kCm_swap] at hP
  refine tc_vectorOf hL s0 (fun c2 s1 => ⟨rfl, ?_⟩)
  have hf := vecP_bd q1
  have inner : ∀ (i : Nat), i < 199 → ∀ (n j : Nat), j + n = 199 → ∀ z : Int, 0 ≤ z ∧ z ≤ 199 * i + j → (∀ z2 : Int, z2 = z + ((kCn (fun j => kpl (vecP (F x1)) ((j : Int) - 99) ((i : Int) - 99) == 0) 199 : Int) - (kCn (fun j => kpl (vecP (F x1)) ((j : Int) - 99) ((i : Int) - 99) == 0) j : Int)) → kW2 G S0 kM_X10_whole (d + 6) 47 [some (kA 0), none, some (kI z2), some (kI ((i : Int) - 99 + 1)), none] [] c2 P) → kW2 G S0 kM_X10_whole (d + 6) 57 [some (kA 0), none, some (kI z), some (kI ((i : Int) - 99)), some (kI ((j : Int) - 99))] [] c2 P := by
    intro i hi n
    induction n with
    | zero =>
      intro j hj z hz K
      obtain rfl : j = 199 := by omega
      exact v_X10_whole_57 hL (by omega) (by omega) (by omega) ⟨fun _ => K _ (by omega), fun q => by omega⟩
    | succ n ih =>
      intro j hj z hz K
      have ed : kCn (fun j => kpl (vecP (F x1)) ((j : Int) - 99) ((i : Int) - 99) == 0) (j + 1) = if (kpl (vecP (F x1)) ((j : Int) - 99) ((i : Int) - 99) == 0) = true then kCn (fun j => kpl (vecP (F x1)) ((j : Int) - 99) ((i : Int) - 99) == 0) j + 1 else kCn (fun j => kpl (vecP (F x1)) ((j : Int) - 99) ((i : Int) - 99) == 0) j := rfl
      have ei : (j : Int) - 99 + 1 = ((j + 1 : Nat) : Int) - 99 := by omega
      refine v_X10_whole_57 hL (by omega) (by omega) (by omega) ⟨fun q => by omega, fun _ => ?_⟩
      refine tc_placeInner hL s1 (k32i (by omega)) (k32i (by omega)) ⟨_, rfl, ?_⟩
      refine ⟨kpl_bd (by omega) (by omega) hf, fun q => ?_, fun q => ?_⟩
      · rw [ei]
        rw [if_neg (by simp only [beq_iff_eq]; exact q)] at ed
        exact ih (j + 1) (by omega) z (by omega) (fun z2 hz2 => K z2 (by omega))
      · rw [ei]
        rw [if_pos (by simp only [beq_iff_eq]; exact q)] at ed
        exact ih (j + 1) (by omega) (z + 1) (by omega) (fun z2 hz2 => K z2 (by omega))
  have outer : ∀ (n i : Nat), i + n = 199 → kW2 G S0 kM_X10_whole (d + 6) 47 [some (kA 0), none, some (kI (kCm (fun i j => kpl (vecP (F x1)) ((j : Int) - 99) ((i : Int) - 99) == 0) 199 i : Int)), some (kI ((i : Int) - 99)), none] [] c2 P := by
    intro n
    induction n with
    | zero =>
      intro i hi
      obtain rfl : i = 199 := by omega
      have hb := kCm_le (fun i j => kpl (vecP (F x1)) ((j : Int) - 99) ((i : Int) - 99) == 0) 199 199
      exact v_X10_whole_47 hL (by omega) (by omega) ⟨fun _ => hP _ _ s1.rp rfl, fun q => by omega⟩
    | succ n ih =>
      intro i hi
      have hb := kCm_le (fun i j => kpl (vecP (F x1)) ((j : Int) - 99) ((i : Int) - 99) == 0) 199 i
      have ed : kCm (fun i j => kpl (vecP (F x1)) ((j : Int) - 99) ((i : Int) - 99) == 0) 199 (i + 1) = kCm (fun i j => kpl (vecP (F x1)) ((j : Int) - 99) ((i : Int) - 99) == 0) 199 i + kCn (fun j => kpl (vecP (F x1)) ((j : Int) - 99) ((i : Int) - 99) == 0) 199 := rfl
      have hz : kCn (fun j => kpl (vecP (F x1)) ((j : Int) - 99) ((i : Int) - 99) == 0) 0 = 0 := rfl
      refine v_X10_whole_47 hL (by omega) (by omega) ⟨fun q => by omega, fun _ => ?_⟩
      refine inner i (by omega) 199 0 (by omega) _ (by omega) (fun z2 hz2 => ?_)
      have := ih (i + 1) (by omega)
      rw [ed] at this
      have e2 : z2 = ((kCm (fun i j => kpl (vecP (F x1)) ((j : Int) - 99) ((i : Int) - 99) == 0) 199 i + kCn (fun j => kpl (vecP (F x1)) ((j : Int) - 99) ((i : Int) - 99) == 0) 199 : Nat) : Int) := by omega
      have e4 : (i : Int) - 99 + 1 = ((i + 1 : Nat) : Int) - 99 := by omega
      rw [e2, e4]
      exact this
  exact outer 199 0 (by omega)
theorem s_X10_middle (hL : kLay S0) (r1 : k32 x1) (r2 : k32 x2) (hs : CSt H F c) (h : ∀ c', kCP c c' → P (some (kL (vMiddle H F x1 x2))) c') : kC2 G S0 kM_X10_middle (d + 6) [kA 0, kI x1, kI x2] c P := by
  have hP := kCll h
  unfold vMiddle at hP
  obtain ⟨Ψ, s0, hl⟩ := hs.op
  refine v_X10_middle hL r1 r2 ⟨hs.1.1, fun a => ⟨fun b => hP _ _ kCP.rf (by rw [if_neg (by omega)]), fun b => ⟨fun b2 => ?_, fun b2 => hP _ _ kCP.rf (by rw [if_neg (by omega)])⟩⟩, fun a => hP _ _ kCP.rf (by rw [if_neg (fun q => a ((hs.hh _).mpr q.1))])⟩
  have y := (hs.hh _).mp a
  obtain ⟨a1, b1, e1, q1⟩ := hl.1 _ y
  have w1 := lrow hL a1 b1
  have hk := kind_rg (F x1)
  rw [if_pos ⟨y, b, b2⟩] at hP
  refine tc_kindAt hL s0 ⟨_, rfl, ?_⟩
  refine ⟨k32i (by omega), fun z => ⟨⟨a1, b1⟩, ?_⟩, fun z => hP _ _ s0.rp (by rw [if_neg (fun q => z (kMidB_iff.mp q))])⟩
  rw [if_pos (kMidB_iff.mpr z)] at hP
  obtain ⟨ho, hne⟩ := kMid_ne z
  refine tc_vectorOf hL s0 (fun c2 s1 => ⟨rfl, ?_⟩)
  refine tc_take hL s1 hne (fun c3 sp s2 hp => ⟨rfl, ?_⟩)
  refine tc_number hL s2 r2 hp ⟨_, rfl, ?_⟩
  exact hP _ _ s2.rp rfl
theorem tc_lineNumber (hL : kLay S0) (hs : kCh Ψ c0 c) (r1 : k32 x1) (hne : f 1 ≠ 0 ∨ f 2 ≠ 0) (h : P (some (kL (lnN f x1))) c) (hx0 : S0.2.1 x0 = (2, 16) := by first | with_reducible assumption | with_reducible exact lsh_555 hL | with_reducible exact lsh_556 hL | with_reducible exact lsh_557 hL | with_reducible exact lsh_524 hL | with_reducible exact lsh_525 hL | with_reducible exact lsh_526 hL | with_reducible exact lsh_527 hL | with_reducible exact lsh_529 hL | with_reducible exact lsh_530 hL | with_reducible exact lsh_531 hL | with_reducible exact lsh_532 hL | with_reducible exact lsh_549 hL | with_reducible exact lsh_550 hL | with_reducible exact lsh_551 hL | with_reducible exact lsh_552 hL) (e1 : Ψ x0 = f := by repeat (first | with_reducible exact kUs | with_reducible assumption | (with_reducible apply kUn; omega) | exact rfl)) (b1 : kB kLB f := by repeat' (first | with_reducible assumption | with_reducible exact farP_bdL | with_reducible apply vecP_bd | with_reducible apply nrmP_bd | with_reducible apply revP_bd | with_reducible apply whlP_bd (Or.inr rfl) | with_reducible apply whlP_bd (Or.inl rfl) | with_reducible apply mulP_bdL | with_reducible exact plcP_bd (by omega) (by omega))) : kC2 G S0 kM_X8_lineNumber (d + 1) [kA x0, kI x1] c P := by
  have E := hs.e e1
  have E1 := E 1 (by omega) (by omega)
  have E2 := E 2 (by omega) (by omega)
  have E4 := E 4 (by omega) (by omega)
  have v1 : -100000000 ≤ f 1 ∧ f 1 ≤ 100000000 := b1 1 (by omega) (by omega)
  have v2 : -100000000 ≤ f 2 ∧ f 2 ≤ 100000000 := b1 2 (by omega) (by omega)
  have v4 : -100000000 ≤ f 4 ∧ f 4 ≤ 100000000 := b1 4 (by omega) (by omega)
  have hgg : Int.gcd (f 1) (f 2) ≤ 100000000 := kgcd_le (by omega) (by omega)
  have hg0 : Int.gcd (f 1) (f 2) ≠ 0 := fun q => by have := Int.gcd_eq_zero_iff.mp q; omega
  have hgk : Int.gcd (Int.gcd (f 1) (f 2) : Int) (f 4) ≤ 100000000 := kgcd_le (by omega) (by omega)
  have hk0 : Int.gcd (Int.gcd (f 1) (f 2) : Int) (f 4) ≠ 0 := fun q => by have := (Int.gcd_eq_zero_iff.mp q).1; omega
  have fin : ∀ x : Int, x = lnG f → k64 x → x ≠ 0 → kW2 G S0 kM_X8_lineNumber (d + 1) 51 [some (kA x0), some (kI x1), some (kL x), none, none, none] [] c P := by
    intro x ex x64 xn
    unfold lnN at h
    refine v_X8_lineNumber_51 hL hx0 r1 ?_
    rw [E1, E2, E4]
    refine ⟨fun w0 => ⟨fun w1 => ?_, fun w1 => ?_⟩, fun w0 => ?_⟩
    · rw [if_neg w0, if_neg w1, ← ex] at h; exact ⟨k64i (by omega), x64, xn, h⟩
    · rw [if_neg w0, if_pos w1, ← ex] at h; exact ⟨k64i (by omega), x64, xn, h⟩
    · rw [if_pos w0, ← ex] at h; exact ⟨k64i (by omega), x64, xn, h⟩
  refine v_X8_lineNumber hL hx0 r1 ?_
  rw [E1, E2]
  refine s_X0_gcd hL (by unfold k63; omega) (by unfold k63; omega) ⟨_, rfl, ?_⟩
  dsimp only
  rw [E4]
  refine s_X0_gcd hL (by unfold k63; omega) (by unfold k63; omega) ⟨_, rfl, ?_⟩
  dsimp only
  rw [E1, E2]
  exact ⟨k64i (by omega), fun _ => ⟨k64i (by omega), fun w => fin _ (by unfold lnG; rw [if_pos (by omega)]) (k64i (by omega)) (by omega), fun w => ⟨fun w2 => fin _ (by unfold lnG; rw [if_neg (by omega)]) (k64i (by omega)) (by omega), fun w2 => ⟨k64i (by omega), fun w3 => fin _ (by unfold lnG; rw [if_neg (by omega)]) (k64i (by omega)) (by omega), fun w3 => fin _ (by unfold lnG; rw [if_pos (by omega)]) (k64i (by omega)) (by omega)⟩⟩⟩, fun q => by omega⟩
theorem kind_tm {z : Int} (h : 0 ≤ z ∧ z ≤ 42) : Int.tmod z 10 = 6 ↔ z = 6 ∨ z = 16 ∨ z = 26 ∨ z = 36 := by
  rw [Int.tmod_eq_emod_of_nonneg h.1]; omega
theorem kind_no {f : KF} : kind f ≠ 26 ∧ kind f ≠ 36 := by
  have h1 := kOne_rg f; have h2 := kOne_rg (whlP (-1) f); have h3 := kTwo_rg f
  unfold kind; repeat' split
  all_goals omega
theorem s_X10_line (hL : kLay S0) (r1 : k32 x1) (r2 : k32 x2) (hs : CSt H F c) (h : ∀ c', kCP c c' → P (some (kI (vLine H F x1 x2))) c') : kC2 G S0 kM_X10_line (d + 6) [kA 0, kI x1, kI x2] c P := by
  have hP := kCi h
  unfold vLine at hP
  obtain ⟨Ψ, s0, hl⟩ := hs.op
  refine v_X10_line hL r1 r2 ⟨hs.1.1, fun a => ⟨fun b => hP _ _ kCP.rf (by rw [if_neg (by omega)]), fun b => ⟨fun b2 => ?_, fun b2 => hP _ _ kCP.rf (by rw [if_neg (by omega)])⟩⟩, fun a => hP _ _ kCP.rf (by rw [if_neg (fun q => a ((hs.hh _).mpr q.1.1))])⟩
  have y := (hs.hh _).mp a
  obtain ⟨a1, b1, e1, q1⟩ := hl.1 _ y
  have w1 := lrow hL a1 b1
  have hk := kind_rg (F x1)
  have hn := kind_no (f := F x1)
  have ht := kind_tm hk
  refine tc_kindAt hL s0 ⟨_, rfl, ?_⟩
  refine ⟨k32i (by omega), by rw [Int.tmod_eq_emod_of_nonneg hk.1]; exact k32i (by omega), fun z => ⟨⟨a1, b1⟩, ?_⟩, fun z => hP _ _ s0.rp (by rw [if_neg (by omega)])⟩
  have z' : kind (F x1) = 6 ∨ kind (F x1) = 16 := by omega
  rw [if_pos ⟨⟨y, b, b2⟩, z'⟩] at hP
  obtain ⟨ho, hne⟩ := kLin_ne z'
  refine tc_vectorOf hL s0 (fun c2 s1 => ⟨rfl, ?_⟩)
  refine tc_lineNumber hL s1 r2 hne ⟨_, rfl, ?_⟩
  exact hP _ _ s1.rp rfl
theorem s_X10_product (hL : kLay S0) (r1 : k32 x1) (r2 : k32 x2) (r3 : k32 x3) (r4 : k32 x4) (hs : CSt H F c) (h : ∀ c', kCP c c' → P (some (kL (vProd H F x1 x2 x3 x4))) c') : kC2 G S0 kM_X10_product (d + 2) [kA 0, kI x1, kI x2, kI x3, kI x4] c P := by
  have hP := kCll h
  unfold vProd at hP
  obtain ⟨Ψ, s0, hl⟩ := hs.op
  have no2 : ¬ H x2 = true → P (some (kL (-2000000000000000000))) c := fun q => hP _ _ kCP.rf (by rw [if_neg q]; split <;> rfl)
  have no3 : ¬ H x3 = true → P (some (kL (-2000000000000000000))) c := fun q => hP _ _ kCP.rf (by rw [if_neg q]; (repeat' split) <;> rfl)
  have no1 : ¬ (0 ≤ x1 ∧ x1 ≤ 3) → P (some (kL (-2000000000000000000))) c := fun q => hP _ _ kCP.rf (by rw [if_neg q])
  have no4 : ¬ (0 ≤ x4 ∧ x4 ≤ 15) → P (some (kL (-2000000000000000000))) c := fun q => hP _ _ kCP.rf (by rw [if_neg q]; (repeat' split) <;> rfl)
  refine v_X10_product hL r1 r2 r3 r4 ⟨hs.1.1, fun y2 => ⟨fun y3 => ⟨fun b => no1 (by omega), fun b => ⟨fun b2 => no1 (by omega), fun b2 => ⟨fun b4 => no4 (by omega), fun b4 => ⟨fun b5 => ?_, fun b5 => no4 (by omega)⟩⟩⟩⟩, fun y3 => no3 (fun q => y3 ((hs.hh _).mpr q))⟩, fun y2 => no2 (fun q => y2 ((hs.hh _).mpr q))⟩
  have y2' := (hs.hh _).mp y2
  have y3' := (hs.hh _).mp y3
  obtain ⟨a2, b2', e2, q2⟩ := hl.1 _ y2'
  obtain ⟨a3, b3', e3, q3⟩ := hl.1 _ y3'
  have w2 := lrow hL a2 b2'
  have w3 := lrow hL a3 b3'
  rw [if_pos ⟨b, b2⟩, if_pos y2', if_pos y3', if_pos ⟨b4, by omega⟩] at hP
  refine ⟨fun m => ⟨⟨a2, b2'⟩, ?_⟩, fun m => ⟨⟨a2, b2'⟩, ⟨a3, b3'⟩, ?_⟩⟩
  · rw [if_pos (by omega)] at hP
    refine tc_dual hL s0 (fun c1 s1 => ⟨rfl, ⟨a3, b3'⟩, ?_⟩)
    refine tc_dual hL s1 (fun c2 s2 => ⟨rfl, ?_⟩)
    refine tc_multiply hL s2 (Or.inr (Or.inl rfl)) (fun c3 s3 => ⟨rfl, ?_⟩)
    refine tc_timesWholeUnit hL s3 ⟨b4, b5⟩ ⟨_, rfl, ?_⟩
    exact hP _ _ s3.rp rfl
  · rw [if_neg (by omega)] at hP
    refine tc_partOf hL s0 (by omega) ⟨b4, b5⟩ ⟨_, rfl, ?_⟩
    exact hP _ _ s0.rp rfl
theorem s_X10_lies (hL : kLay S0) (r1 : k32 x1) (r2 : k32 x2) (hs : CSt H F c) (h : ∀ c', kCP c c' → P (some (kI (vLies H F x1 x2))) c') : kC2 G S0 kM_X10_lies (d + 6) [kA 0, kI x1, kI x2] c P := by
  have hP := kCi h
  unfold vLies at hP
  obtain ⟨Ψ, s0, hl⟩ := hs.op
  refine v_X10_lies hL r1 r2 ⟨hs.1.1, fun y1 => ⟨fun y2 => ?_, fun y2 => hP _ _ kCP.rf (by rw [if_neg (fun q => y2 ((hs.hh _).mpr q))]; split <;> rfl)⟩, fun y1 => hP _ _ kCP.rf (by rw [if_neg (fun q => y1 ((hs.hh _).mpr q))])⟩
  have y1' := (hs.hh _).mp y1
  have y2' := (hs.hh _).mp y2
  obtain ⟨a1, b1, e1, q1⟩ := hl.1 _ y1'
  obtain ⟨a2, b2, e2, q2⟩ := hl.1 _ y2'
  have w1 := lrow hL a1 b1
  have w2 := lrow hL a2 b2
  have hk1 := kind_rg (F x1)
  have hk2 := kind_rg (F x2)
  rw [if_pos y1', if_pos y2'] at hP
  refine tc_kindAt hL s0 ⟨_, rfl, ?_⟩
  refine tc_kindAt hL s0 ⟨_, rfl, ?_⟩
  refine ⟨k32i (by omega), fun z => hP _ _ s0.rp (by rw [if_neg z]), fun z => ⟨k32i (by omega), fun z2 => ⟨⟨a2, b2⟩, ⟨a1, b1⟩, ?_⟩, fun z2 => hP _ _ s0.rp (by rw [if_neg (fun q => z2 (kObjB_iff.mp q))]; split <;> rfl)⟩⟩
  rw [if_pos z, if_pos (kObjB_iff.mpr z2)] at hP
  refine tc_bears1 hL s0 z2 (fun q => ⟨1, rfl, kr1 ?_⟩) (fun q => ⟨0, rfl, kr0 ?_⟩)
  · exact hP _ _ s0.rp (by rw [if_pos q])
  · exact hP _ _ s0.rp (by rw [if_neg q])
end CQ
