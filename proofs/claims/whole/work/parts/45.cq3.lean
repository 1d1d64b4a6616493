section CQ
variable {G : KG} {S0 : KSh} {d : Nat} {P : Option AV → KMem → Prop} {c c0 : KMem} {Ψ : Int → KF} {H : Int → Bool} {F : Int → KF} {f g s sg : KF} {M : Int} {x0 x1 x2 x3 x4 : Int}
theorem s_abs (hL : kLay S0) (r0 : k63 x0) (h : P (some (kL (x0.natAbs : Int))) c) : kC2 G S0 kM_J9_abs_067f4 d [kL x0] c P := by
  refine v_J9_abs_067f4 hL ⟨k63_64 r0, fun a => ?_, fun a => ?_⟩
  · rw [show ((x0.natAbs : Nat) : Int) = x0 by omega] at h; exact h
  · rw [show ((x0.natAbs : Nat) : Int) = -x0 by omega] at h; exact h
theorem s_max (hL : kLay S0) (r0 : k64 x0) (r2 : k64 x2) (h : P (some (kL (if x0 < x2 then x2 else x0))) c) : kC2 G S0 kM_J9_max_f86c9 d [kL x0, kL x2] c P := by
  refine v_J9_max_f86c9 hL ⟨r0, r2, fun a => ?_, fun a => ?_⟩
  · rw [if_pos a] at h; exact h
  · rw [if_neg (by omega)] at h; exact h
theorem tc_longM (hL : kLay S0) (hs : kCh Ψ c0 c) (hp : kSpt s f) (b1 : kB kLB f) (hne : f 4 ≠ f 8) (h : ∀ z : Int, k64 z → (∀ m : Int, m < z ↔ kFar f m = true) → P (some (kL z)) c) (hx0 : S0.2.1 x0 = (17, 5) := by first | with_reducible assumption | with_reducible exact lsh_553 hL | with_reducible exact lsh_554 hL) (e1 : Ψ x0 = s := by repeat (first | with_reducible exact kUs | with_reducible assumption | (with_reducible apply kUn; omega) | exact rfl)) : kC2 G S0 kM_X9_longestOfMiddle (d + 1) [kA x0] c P := by
  have E := hs.e e1
  have p0 := (E 0 (by omega) (by omega)).trans hp.1
  have p1 := (E 1 (by omega) (by omega)).trans hp.2.1
  have p2 := (E 2 (by omega) (by omega)).trans hp.2.2.1
  have bx := mdX_bd b1
  have bY := mdY_bd b1
  have bl := mdL_pos b1 hne
  refine v_X9_longestOfMiddle hL hx0 ?_
  rw [p0, p2]
  refine s_abs hL (by unfold k63; omega) ⟨_, rfl, ?_⟩
  dsimp only
  rw [p1]
  refine s_abs hL (by unfold k63; omega) ⟨_, rfl, ?_⟩
  refine s_max hL (k64i (by omega)) (k64i (by omega)) ⟨_, rfl, ?_⟩
  refine s_max hL (k64i (by omega)) (by split <;> exact k64i (by omega)) ⟨_, rfl, ?_⟩
  refine h _ (by repeat' split
                 all_goals exact k64i (by omega)) (fun m => ?_)
  unfold kFar
  rw [decide_eq_true_iff]
  repeat' split
  all_goals omega
theorem tc_longS (hL : kLay S0) (hs : kCh Ψ c0 c) (hp : kSpt s f) (b1 : kB kLB f) (hne : f 4 ≠ f 8) (h : ∀ z : Int, k64 z → (∀ m : Int, m < z ↔ (m < ((mdS f 0).natAbs : Int) ∨ m < mdS f 1)) → P (some (kL z)) c) (hx0 : S0.2.1 x0 = (17, 5) := by first | with_reducible assumption | with_reducible exact lsh_553 hL | with_reducible exact lsh_554 hL) (e1 : Ψ x0 = s := by repeat (first | with_reducible exact kUs | with_reducible assumption | (with_reducible apply kUn; omega) | exact rfl)) : kC2 G S0 kM_X9_longestOfSize (d + 1) [kA x0] c P := by
  have E := hs.e e1
  have p3 := (E 3 (by omega) (by omega)).trans hp.2.2.2.1
  have p4 := (E 4 (by omega) (by omega)).trans hp.2.2.2.2
  have s4 := mdS_bd b1 hne 0
  have s5 := mdS_bd b1 hne 1
  refine v_X9_longestOfSize hL hx0 ?_
  rw [p3, p4]
  refine s_abs hL (by unfold k63; omega) ⟨_, rfl, ?_⟩
  refine s_max hL (k64i (by omega)) (k64i (by omega)) ⟨_, rfl, ?_⟩
  refine h _ (by split <;> exact k64i (by omega)) (fun m => ?_)
  split <;> omega
theorem s_X10_distance (hL : kLay S0) (r1 : k32 x1) (r2 : k32 x2) (r3 : k32 x3) (hs : CSt H F c) (h : ∀ c', kCP c c' → P (some (kL (vDist H F x1 x2 x3))) c') : kC2 G S0 kM_X10_distance (d + 6) [kA 0, kI x1, kI x2, kI x3] c P := by
  have hP := kCll h
  unfold vDist at hP
  obtain ⟨Ψ, s0, hl⟩ := hs.op
  refine v_X10_distance hL r1 r2 r3 ⟨hs.1.1, fun y1 => ?_, fun y1 => hP _ _ kCP.rf (by rw [if_neg (fun q => y1 ((hs.hh _).mpr q))])⟩
  have y1' := (hs.hh _).mp y1
  rw [if_pos y1'] at hP
  refine ⟨fun y2 => ?_, fun y2 => hP _ _ kCP.rf (by rw [if_neg (fun q => y2 ((hs.hh _).mpr q))])⟩
  have y2' := (hs.hh _).mp y2
  rw [if_pos y2'] at hP
  obtain ⟨a1, b1, e1, q1⟩ := hl.1 _ y1'
  obtain ⟨a2, b2, e2, q2⟩ := hl.1 _ y2'
  have w1 := lrow hL a1 b1
  have w2 := lrow hL a2 b2
  have hk1 := kind_rg (F x1)
  have hk2 := kind_rg (F x2)
  refine ⟨fun z => hP _ _ kCP.rf (by rw [if_neg (by omega)]), fun z0 => ⟨fun z1 => ?_, fun z => hP _ _ kCP.rf (by rw [if_neg (by omega)])⟩⟩
  rw [if_pos ⟨z0, z1⟩] at hP
  refine tc_kindAt hL s0 ⟨_, rfl, ?_⟩
  refine ⟨k32i (by omega), fun z => hP _ _ s0.rp (by rw [if_neg z]), fun z => ?_⟩
  rw [if_pos z] at hP
  have n1 := kPt_ne z
  refine tc_kindAt hL s0 ⟨_, rfl, ?_⟩
  refine ⟨k32i (by omega), fun z => ?_, fun z => hP _ _ s0.rp (by rw [if_neg z])⟩
  rw [if_pos z] at hP
  have n2 := kPt_ne z
  refine ⟨⟨a1, b1⟩, ?_⟩
  refine tc_take hL s0 n1 (fun c2 p1 s2 hp1 => ⟨rfl, ⟨a2, b2⟩, ?_⟩)
  refine tc_take hL s2 n2 (fun c3 p2 s3 hp2 => ⟨rfl, ?_⟩)
  refine tc_longM hL s3 hp1 q1 n1 (fun zz zk zm => ⟨_, rfl, zk, fun w => hP _ _ s3.rp (by rw [if_pos ((zm 1000).mp w)]), fun w => ?_⟩)
  have f1 : ¬ kFar (F x1) 1000 = true := fun q => by have := (zm 1000).mpr q; omega
  rw [if_neg f1] at hP
  refine tc_longM hL s3 hp2 q2 n2 (fun zz zk zm => ⟨_, rfl, zk, fun w => ?_, fun w => hP _ _ s3.rp (by rw [if_pos ((zm 1000).mp w)])⟩)
  have f2 : ¬ kFar (F x2) 1000 = true := fun q => by have := (zm 1000).mpr q; omega
  rw [if_neg f2] at hP
  have g1 := kfar_no f1
  have g2 := kfar_no f2
  have g3 := mdL_pos q1 n1
  have g4 := mdL_pos q2 n2
  have E1 := s3.e (a := 553) (f := p1) (by repeat (first | with_reducible exact kUs | with_reducible assumption | (with_reducible apply kUn; omega) | exact rfl))
  have E2 := s3.e (a := 554) (f := p2) (by repeat (first | with_reducible exact kUs | with_reducible assumption | (with_reducible apply kUn; omega) | exact rfl))
  refine v_X9_distanceTo hL (lsh_553 hL) (lsh_554 hL) r3 ?_
  rw [(E1 0 (by omega) (by omega)).trans hp1.1, (E1 1 (by omega) (by omega)).trans hp1.2.1, (E1 2 (by omega) (by omega)).trans hp1.2.2.1, (E2 0 (by omega) (by omega)).trans hp2.1, (E2 1 (by omega) (by omega)).trans hp2.2.1, (E2 2 (by omega) (by omega)).trans hp2.2.2.1]
  unfold dstN at hP
  rw [show mdL (F x1) * mdL (F x1) * mdL (F x2) * mdL (F x2) = mdL (F x1) * mdL (F x2) * (mdL (F x1) * mdL (F x2)) by ac_rfl] at hP
  have k1 := kmul_bd (a := mdX (F x1)) (b := mdL (F x2)) (M := 1000) (N := 1000) (by omega) (by omega)
  have k2 := kmul_bd (a := mdX (F x2)) (b := mdL (F x1)) (M := 1000) (N := 1000) (by omega) (by omega)
  have k3 := kmul_bd (a := mdY (F x1)) (b := mdL (F x2)) (M := 1000) (N := 1000) (by omega) (by omega)
  have k4 := kmul_bd (a := mdY (F x2)) (b := mdL (F x1)) (M := 1000) (N := 1000) (by omega) (by omega)
  have k5 := kmul_bd (a := mdL (F x1)) (b := mdL (F x2)) (M := 1000) (N := 1000) (by omega) (by omega)
  have ee : (1000 : Int) * 1000 = 1000000 := by decide
  rw [ee] at k1 k2 k3 k4 k5
  have k6 := kmul_bd (a := mdX (F x1) * mdL (F x2) - mdX (F x2) * mdL (F x1)) (b := mdX (F x1) * mdL (F x2) - mdX (F x2) * mdL (F x1)) (M := 2000000) (N := 2000000) (by omega) (by omega)
  have k7 := kmul_bd (a := mdY (F x1) * mdL (F x2) - mdY (F x2) * mdL (F x1)) (b := mdY (F x1) * mdL (F x2) - mdY (F x2) * mdL (F x1)) (M := 2000000) (N := 2000000) (by omega) (by omega)
  have k8 := kmul_bd (a := mdL (F x1) * mdL (F x2)) (b := mdL (F x1) * mdL (F x2)) (M := 2000000) (N := 2000000) (by omega) (by omega)
  have ee2 : (2000000 : Int) * 2000000 = 4000000000000 := by decide
  rw [ee2] at k6 k7 k8
  have kp := Int.mul_pos (Int.mul_pos g3.1 g4.1) (Int.mul_pos g3.1 g4.1)
  exact s_X0_lowest hL r3 (by unfold k63; omega) (by unfold k63; omega) (by omega) ⟨_, rfl, ⟨_, rfl, hP _ _ s3.rp rfl⟩⟩
theorem s_X10_power (hL : kLay S0) (r1 : k32 x1) (r2 : k32 x2) (r3 : k32 x3) (r4 : k32 x4) (hs : CSt H F c) (h : ∀ c', kCP c c' → P (some (kL (vPow H F x1 x2 x3 x4))) c') : kC2 G S0 kM_X10_power (d + 6) [kA 0, kI x1, kI x2, kI x3, kI x4] c P := by
  have hP := kCll h
  unfold vPow at hP
  obtain ⟨Ψ, s0, hl⟩ := hs.op
  refine v_X10_power hL r1 r2 r3 r4 ⟨hs.1.1, fun y1 => ?_, fun y1 => hP _ _ kCP.rf (by rw [if_neg (fun q => y1 ((hs.hh _).mpr q))])⟩
  have y1' := (hs.hh _).mp y1
  rw [if_pos y1'] at hP
  obtain ⟨a1, b1, e1, q1⟩ := hl.1 _ y1'
  have w1 := lrow hL a1 b1
  have hk1 := kind_rg (F x1)
  refine ⟨fun z => hP _ _ kCP.rf (by rw [if_neg (by omega)]), fun z2 => ?_⟩
  have z2' : -99 ≤ x2 ∧ x2 ≤ 99 := by omega
  rw [if_pos z2'] at hP
  refine ⟨fun z => hP _ _ kCP.rf (by rw [if_neg (by omega)]), fun z3 => ?_⟩
  have z3' : -99 ≤ x3 ∧ x3 ≤ 99 := by omega
  rw [if_pos z3'] at hP
  refine ⟨fun z => hP _ _ kCP.rf (by rw [if_neg (by omega)]), fun z4 => ⟨fun z5 => ?_, fun z => hP _ _ kCP.rf (by rw [if_neg (by omega)])⟩⟩
  rw [if_pos ⟨z4, z5⟩] at hP
  refine tc_kindAt hL s0 ⟨_, rfl, ?_⟩
  refine ⟨k32i (by omega), fun z => ⟨⟨a1, b1⟩, ?_⟩, fun z => hP _ _ s0.rp (by rw [if_neg (fun q => z (kMidB_iff.mp q))])⟩
  rw [if_pos (kMidB_iff.mpr z)] at hP
  obtain ⟨ho, hne⟩ := kMid_ne z
  have hb := vecP_bd q1
  refine tc_vectorOf hL s0 (fun c2 s1 => ⟨rfl, ?_⟩)
  refine tc_take hL s1 hne (fun c3 sp s3 hp => ⟨rfl, ?_⟩)
  refine tc_longM hL s3 hp hb hne (fun zz zk zm => ⟨_, rfl, zk, fun w => hP _ _ s3.rp (by rw [if_pos ((zm 10000).mp w)]), fun w => ?_⟩)
  have f1 : ¬ kFar (vecP (F x1)) 10000 = true := fun q => by have := (zm 10000).mpr q; omega
  rw [if_neg f1] at hP
  refine tc_longS hL s3 hp hb hne (fun zz zk zm => ⟨_, rfl, zk, fun w => ?_, fun w => hP _ _ s3.rp ?_⟩)
  · have nw := zm 10000
    rw [if_neg (by omega), if_neg (by omega)] at hP
    have g1 := kfar_no f1
    have g3 := mdL_pos hb hne
    have s6 := mdS_pos hb hne
    have E1 := s3.e (a := 553) (f := sp) (by repeat (first | with_reducible exact kUs | with_reducible assumption | (with_reducible apply kUn; omega) | exact rfl))
    refine v_X9_powerOf hL (lsh_553 hL) r2 r3 r4 ?_
    rw [(E1 0 (by omega) (by omega)).trans hp.1, (E1 1 (by omega) (by omega)).trans hp.2.1, (E1 2 (by omega) (by omega)).trans hp.2.2.1, (E1 3 (by omega) (by omega)).trans hp.2.2.2.1, (E1 4 (by omega) (by omega)).trans hp.2.2.2.2]
    rw [show mdS (vecP (F x1)) 0 * mdL (vecP (F x1)) * mdL (vecP (F x1)) = mdS (vecP (F x1)) 0 * (mdL (vecP (F x1)) * mdL (vecP (F x1))) from Int.mul_assoc _ _ _]
    unfold pwN at hP
    have k1 := kmul_bd (a := x2) (b := mdL (vecP (F x1))) (M := 99) (N := 10000) z2' (by omega)
    have k2 := kmul_bd (a := x3) (b := mdL (vecP (F x1))) (M := 99) (N := 10000) z3' (by omega)
    have ee : (99 : Int) * 10000 = 990000 := by decide
    rw [ee] at k1 k2
    have k3 := kmul_bd (a := x2 * mdL (vecP (F x1)) - mdX (vecP (F x1))) (b := x2 * mdL (vecP (F x1)) - mdX (vecP (F x1))) (M := 1000000) (N := 1000000) (by omega) (by omega)
    have k4 := kmul_bd (a := x3 * mdL (vecP (F x1)) - mdY (vecP (F x1))) (b := x3 * mdL (vecP (F x1)) - mdY (vecP (F x1))) (M := 1000000) (N := 1000000) (by omega) (by omega)
    have ee2 : (1000000 : Int) * 1000000 = 1000000000000 := by decide
    rw [ee2] at k3 k4
    have k5 := kmul_bd (a := (x2 * mdL (vecP (F x1)) - mdX (vecP (F x1))) * (x2 * mdL (vecP (F x1)) - mdX (vecP (F x1))) + (x3 * mdL (vecP (F x1)) - mdY (vecP (F x1))) * (x3 * mdL (vecP (F x1)) - mdY (vecP (F x1)))) (b := mdS (vecP (F x1)) 1) (M := 2000000000000) (N := 10000) (by omega) (by omega)
    have ee3 : (2000000000000 : Int) * 10000 = 20000000000000000 := by decide
    rw [ee3] at k5
    have k6 := kmul_bd (a := mdL (vecP (F x1))) (b := mdL (vecP (F x1))) (M := 10000) (N := 10000) (by omega) (by omega)
    have ee4 : (10000 : Int) * 10000 = 100000000 := by decide
    rw [ee4] at k6
    have k7 := kmul_bd (a := mdS (vecP (F x1)) 0) (b := mdL (vecP (F x1)) * mdL (vecP (F x1))) (M := 10000) (N := 100000000) (by omega) k6
    have ee5 : (10000 : Int) * 100000000 = 1000000000000 := by decide
    rw [ee5] at k7
    have k8 := kmul_bd (a := mdL (vecP (F x1)) * mdL (vecP (F x1))) (b := mdS (vecP (F x1)) 1) (M := 100000000) (N := 10000) k6 (by omega)
    have ee6 : (100000000 : Int) * 10000 = 1000000000000 := by decide
    rw [ee6] at k8
    have kp := Int.mul_pos (Int.mul_pos g3.1 g3.1) s6
    exact s_X0_lowest hL r4 (by unfold k63; omega) (by unfold k63; omega) (by omega) ⟨_, rfl, ⟨_, rfl, hP _ _ s3.rp rfl⟩⟩
  · have nw := (zm 10000).mp w
    by_cases q : 10000 < ((mdS (vecP (F x1)) 0).natAbs : Int)
    · rw [if_pos q]
    · rw [if_neg q, if_pos (by omega)]
theorem s_X10_cosine (hL : kLay S0) (r1 : k32 x1) (r2 : k32 x2) (r3 : k32 x3) (hs : CSt H F c) (h : ∀ c', kCP c c' → P (some (kL (vCos H F x1 x2 x3))) c') : kC2 G S0 kM_X10_cosine (d + 6) [kA 0, kI x1, kI x2, kI x3] c P := by
  have hP := kCll h
  unfold vCos at hP
  obtain ⟨Ψ, s0, hl⟩ := hs.op
  refine v_X10_cosine hL r1 r2 r3 ⟨hs.1.1, fun y1 => ?_, fun y1 => hP _ _ kCP.rf (by rw [if_neg (fun q => y1 ((hs.hh _).mpr q))])⟩
  have y1' := (hs.hh _).mp y1
  rw [if_pos y1'] at hP
  refine ⟨fun y2 => ?_, fun y2 => hP _ _ kCP.rf (by rw [if_neg (fun q => y2 ((hs.hh _).mpr q))])⟩
  have y2' := (hs.hh _).mp y2
  rw [if_pos y2'] at hP
  obtain ⟨a1, b1, e1, q1⟩ := hl.1 _ y1'
  obtain ⟨a2, b2, e2, q2⟩ := hl.1 _ y2'
  have w1 := lrow hL a1 b1
  have w2 := lrow hL a2 b2
  have hk1 := kind_rg (F x1)
  have hk2 := kind_rg (F x2)
  refine ⟨fun z => hP _ _ kCP.rf (by rw [if_neg (by omega)]), fun z0 => ⟨fun z1 => ?_, fun z => hP _ _ kCP.rf (by rw [if_neg (by omega)])⟩⟩
  rw [if_pos ⟨z0, z1⟩] at hP
  refine tc_kindAt hL s0 ⟨_, rfl, ?_⟩
  refine ⟨k32i (by omega), fun z => ?_, fun z => hP _ _ s0.rp (by rw [if_neg (fun q => z (kObjB_iff.mp q))])⟩
  rw [if_pos (kObjB_iff.mpr z)] at hP
  refine tc_kindAt hL s0 ⟨_, rfl, ?_⟩
  refine ⟨k32i (by omega), fun z => ?_, fun z => hP _ _ s0.rp (by rw [if_neg (fun q => z (kObjB_iff.mp q))])⟩
  rw [if_pos (kObjB_iff.mpr z)] at hP
  refine ⟨⟨a1, b1⟩, ?_⟩
  refine tc_vectorOf hL s0 (fun c2 s1 => ⟨rfl, ⟨a2, b2⟩, ?_⟩)
  refine tc_vectorOf hL s1 (fun c3 s2 => ⟨rfl, ?_⟩)
  have v1 := vecP_bd q1
  have v2 := vecP_bd q2
  have m1 : -160000000000000000 ≤ mulP 0 (vecP (F x1)) (vecP (F x1)) 0 ∧ mulP 0 (vecP (F x1)) (vecP (F x1)) 0 ≤ 160000000000000000 := mulP_bdL v1 v1 0 (by omega) (by omega)
  have m2 : -160000000000000000 ≤ mulP 0 (vecP (F x2)) (vecP (F x2)) 0 ∧ mulP 0 (vecP (F x2)) (vecP (F x2)) 0 ≤ 160000000000000000 := mulP_bdL v2 v2 0 (by omega) (by omega)
  have m3 : -160000000000000000 ≤ mulP 2 (vecP (F x1)) (vecP (F x2)) 0 ∧ mulP 2 (vecP (F x1)) (vecP (F x2)) 0 ≤ 160000000000000000 := mulP_bdL v1 v2 0 (by omega) (by omega)
  refine tc_square hL s2 ⟨_, rfl, ?_⟩
  refine tc_square hL s2 ⟨_, rfl, ?_⟩
  refine tc_partOf hL s2 (Or.inr (Or.inr rfl)) (by omega) ⟨_, rfl, ?_⟩
  unfold cosN at hP
  refine ⟨k64i (by omega), fun z => hP _ _ s2.rp (by rw [if_pos z]), fun p1 => ?_⟩
  rw [if_neg (by omega)] at hP
  refine ⟨k64i (by omega), fun p2 => ?_, fun z => hP _ _ s2.rp (by rw [if_pos z])⟩
  rw [if_neg (by omega)] at hP
  have noI : 100000000 < ((mulP 2 (vecP (F x1)) (vecP (F x2)) 0).natAbs : Int) ∨ 100000000 < mulP 0 (vecP (F x1)) (vecP (F x1)) 0 ∨ 100000000 < mulP 0 (vecP (F x2)) (vecP (F x2)) 0 → P (some (kL (-2000000000000000000))) c3 := fun q => hP _ _ s2.rp (by
    by_cases u1 : 100000000 < ((mulP 2 (vecP (F x1)) (vecP (F x2)) 0).natAbs : Int)
    · rw [if_pos u1]
    · rw [if_neg u1]
      by_cases u2 : 100000000 < mulP 0 (vecP (F x1)) (vecP (F x1)) 0
      · rw [if_pos u2]
      · rw [if_neg u2, if_pos (by omega)])
  refine ⟨fun z => noI (by omega), fun p3 => ⟨fun z => noI (by omega), fun p4 => ⟨k64i (by omega), fun z => noI (by omega), fun p5 => ?_⟩⟩⟩
  rw [if_neg (by omega), if_neg (by omega), if_neg (by omega)] at hP
  refine s_abs hL (by unfold k63; omega) ⟨_, rfl, ?_⟩
  have ei : mulP 2 (vecP (F x1)) (vecP (F x2)) 0 * ((mulP 2 (vecP (F x1)) (vecP (F x2)) 0).natAbs : Int) = if mulP 2 (vecP (F x1)) (vecP (F x2)) 0 < 0 then -mulP 2 (vecP (F x1)) (vecP (F x2)) 0 * mulP 2 (vecP (F x1)) (vecP (F x2)) 0 else mulP 2 (vecP (F x1)) (vecP (F x2)) 0 * mulP 2 (vecP (F x1)) (vecP (F x2)) 0 := by
    by_cases q : mulP 2 (vecP (F x1)) (vecP (F x2)) 0 < 0
    · rw [if_pos q, show ((mulP 2 (vecP (F x1)) (vecP (F x2)) 0).natAbs : Int) = -mulP 2 (vecP (F x1)) (vecP (F x2)) 0 by omega, Int.mul_comm]
    · rw [if_neg q, show ((mulP 2 (vecP (F x1)) (vecP (F x2)) 0).natAbs : Int) = mulP 2 (vecP (F x1)) (vecP (F x2)) 0 by omega]
  have k1 := kmul_bd (a := mulP 2 (vecP (F x1)) (vecP (F x2)) 0) (b := ((mulP 2 (vecP (F x1)) (vecP (F x2)) 0).natAbs : Int)) (M := 100000000) (N := 100000000) (by omega) (by omega)
  have k2 := kmul_bd (a := mulP 0 (vecP (F x1)) (vecP (F x1)) 0) (b := mulP 0 (vecP (F x2)) (vecP (F x2)) 0) (M := 100000000) (N := 100000000) (by omega) (by omega)
  have kp := Int.mul_pos p1 p2
  have ee : (100000000 : Int) * 100000000 = 10000000000000000 := by decide
  rw [ee] at k1 k2
  exact s_X0_lowest hL r3 (by unfold k63; omega) (by unfold k63; omega) (by omega) ⟨_, rfl, hP _ _ s2.rp (by rw [ei])⟩
theorem s_X10_stand (hL : kLay S0) (r1 : k32 x1) (r2 : k32 x2) (hs : CSt H F c) (h : ∀ c', kCP c c' → P (some (kI (vStand H F x1 x2))) c') : kC2 G S0 kM_X10_stand (d + 6) [kA 0, kI x1, kI x2] c P := by
  have hP := kCi h
  unfold vStand at hP
  obtain ⟨Ψ, s0, hl⟩ := hs.op
  refine v_X10_stand hL r1 r2 ⟨hs.1.1, fun y1 => ?_, fun y1 => hP _ _ kCP.rf (by rw [if_neg (fun q => y1 ((hs.hh _).mpr q))])⟩
  have y1' := (hs.hh _).mp y1
  rw [if_pos y1'] at hP
  refine ⟨fun y2 => ?_, fun y2 => hP _ _ kCP.rf (by rw [if_neg (fun q => y2 ((hs.hh _).mpr q))])⟩
  have y2' := (hs.hh _).mp y2
  rw [if_pos y2'] at hP
  obtain ⟨a1, b1, e1, q1⟩ := hl.1 _ y1'
  obtain ⟨a2, b2, e2, q2⟩ := hl.1 _ y2'
  have w1 := lrow hL a1 b1
  have w2 := lrow hL a2 b2
  have hk1 := kind_rg (F x1)
  have hk2 := kind_rg (F x2)
  refine tc_kindAt hL s0 ⟨_, rfl, ?_⟩
  refine ⟨k32i (by omega), fun z => ?_, fun z => hP _ _ s0.rp (by rw [if_neg (fun q => z (kMirB_iff.mp q))])⟩
  rw [if_pos (kMirB_iff.mpr z)] at hP
  refine tc_kindAt hL s0 ⟨_, rfl, ?_⟩
  refine ⟨k32i (by omega), fun z => ?_, fun z => hP _ _ s0.rp (by rw [if_neg (fun q => z (kMirB_iff.mp q))])⟩
  rw [if_pos (kMirB_iff.mpr z)] at hP
  refine ⟨⟨a1, b1⟩, ?_⟩
  refine tc_vectorOf hL s0 (fun c2 s1 => ⟨rfl, ⟨a2, b2⟩, ?_⟩)
  refine tc_vectorOf hL s1 (fun c3 s2 => ⟨rfl, ?_⟩)
  have v1 := vecP_bd q1
  have v2 := vecP_bd q2
  have m1 : -160000000000000000 ≤ mulP 0 (vecP (F x1)) (vecP (F x1)) 0 ∧ mulP 0 (vecP (F x1)) (vecP (F x1)) 0 ≤ 160000000000000000 := mulP_bdL v1 v1 0 (by omega) (by omega)
  have m2 : -160000000000000000 ≤ mulP 0 (vecP (F x2)) (vecP (F x2)) 0 ∧ mulP 0 (vecP (F x2)) (vecP (F x2)) 0 ≤ 160000000000000000 := mulP_bdL v2 v2 0 (by omega) (by omega)
  have m3 : -160000000000000000 ≤ mulP 2 (vecP (F x1)) (vecP (F x2)) 0 ∧ mulP 2 (vecP (F x1)) (vecP (F x2)) 0 ≤ 160000000000000000 := mulP_bdL v1 v2 0 (by omega) (by omega)
  refine tc_square hL s2 ⟨_, rfl, ?_⟩
  refine tc_square hL s2 ⟨_, rfl, ?_⟩
  refine tc_partOf hL s2 (Or.inr (Or.inr rfl)) (by omega) ⟨_, rfl, ?_⟩
  unfold stdN at hP
  have noI : 100000000 < ((mulP 2 (vecP (F x1)) (vecP (F x2)) 0).natAbs : Int) ∨ 100000000 < ((mulP 0 (vecP (F x1)) (vecP (F x1)) 0).natAbs : Int) ∨ 100000000 < ((mulP 0 (vecP (F x2)) (vecP (F x2)) 0).natAbs : Int) → P (some (kI (-4))) c3 := fun q => hP _ _ s2.rp (by
    by_cases u1 : 100000000 < ((mulP 2 (vecP (F x1)) (vecP (F x2)) 0).natAbs : Int)
    · rw [if_pos u1]
    · rw [if_neg u1]
      by_cases u2 : 100000000 < ((mulP 0 (vecP (F x1)) (vecP (F x1)) 0).natAbs : Int)
      · rw [if_pos u2]
      · rw [if_neg u2, if_pos (by omega)])
  refine ⟨k64i (by omega), fun z => noI (by omega), fun p3 => ⟨k64i (by omega), fun z => noI (by omega), fun p4 => ⟨k64i (by omega), fun z => noI (by omega), fun p5 => ?_⟩⟩⟩
  rw [if_neg (by omega), if_neg (by omega), if_neg (by omega)] at hP
  have k1 := kmul_bd (a := mulP 2 (vecP (F x1)) (vecP (F x2)) 0) (b := mulP 2 (vecP (F x1)) (vecP (F x2)) 0) (M := 100000000) (N := 100000000) (by omega) (by omega)
  have k2 := kmul_bd (a := mulP 0 (vecP (F x1)) (vecP (F x1)) 0) (b := mulP 0 (vecP (F x2)) (vecP (F x2)) 0) (M := 100000000) (N := 100000000) (by omega) (by omega)
  have ee : (100000000 : Int) * 100000000 = 10000000000000000 := by decide
  rw [ee] at k1 k2
  exact ⟨k64i (by omega), fun u => ⟨fun v => hP _ _ s2.rp (by rw [if_neg (by omega), if_neg v]), fun v => hP _ _ s2.rp (by rw [if_neg (by omega), if_pos v])⟩, fun u => hP _ _ s2.rp (by rw [if_pos u])⟩
theorem s_X10_bundle (hL : kLay S0) (r1 : k32 x1) (r2 : k32 x2) (r3 : k32 x3) (hs : CSt H F c) (h : ∀ c', kCP c c' → P (some (kI (vBundle H F x1 x2 x3))) c') : kC2 G S0 kM_X10_bundle (d + 6) [kA 0, kI x1, kI x2, kI x3] c P := by
  have hP := kCi h
  unfold vBundle at hP
  obtain ⟨Ψ, s0, hl⟩ := hs.op
  refine v_X10_bundle hL r1 r2 r3 ⟨hs.1.1, fun y1 => ?_, fun y1 => hP _ _ kCP.rf (by rw [if_neg (fun q => y1 ((hs.hh _).mpr q))])⟩
  have y1' := (hs.hh _).mp y1
  rw [if_pos y1'] at hP
  refine ⟨fun y2 => ?_, fun y2 => hP _ _ kCP.rf (by rw [if_neg (fun q => y2 ((hs.hh _).mpr q))])⟩
  have y2' := (hs.hh _).mp y2
  rw [if_pos y2'] at hP
  refine ⟨fun y3 => ?_, fun y3 => hP _ _ kCP.rf (by rw [if_neg (fun q => y3 ((hs.hh _).mpr q))])⟩
  have y3' := (hs.hh _).mp y3
  rw [if_pos y3'] at hP
  obtain ⟨a1, b1, e1, q1⟩ := hl.1 _ y1'
  obtain ⟨a2, b2, e2, q2⟩ := hl.1 _ y2'
  obtain ⟨a3, b3, e3, q3⟩ := hl.1 _ y3'
  have w1 := lrow hL a1 b1
  have w2 := lrow hL a2 b2
  have w3 := lrow hL a3 b3
  have hk1 := kind_rg (F x1)
  have hk2 := kind_rg (F x2)
  have hk3 := kind_rg (F x3)
  refine tc_kindAt hL s0 ⟨_, rfl, ?_⟩
  refine ⟨k32i (by omega), fun z => ?_, fun z => hP _ _ s0.rp (by rw [if_neg (fun q => z (kMirB_iff.mp q))])⟩
  rw [if_pos (kMirB_iff.mpr z)] at hP
  refine tc_kindAt hL s0 ⟨_, rfl, ?_⟩
  refine ⟨k32i (by omega), fun z => ?_, fun z => hP _ _ s0.rp (by rw [if_neg (fun q => z (kMirB_iff.mp q))])⟩
  rw [if_pos (kMirB_iff.mpr z)] at hP
  refine tc_kindAt hL s0 ⟨_, rfl, ?_⟩
  refine ⟨k32i (by omega), fun z => ?_, fun z => hP _ _ s0.rp (by rw [if_neg (fun q => z (kMirB_iff.mp q))])⟩
  rw [if_pos (kMirB_iff.mpr z)] at hP
  refine ⟨⟨a1, b1⟩, ?_⟩
  refine tc_vectorOf hL s0 (fun c2 s1 => ⟨rfl, ⟨a2, b2⟩, ?_⟩)
  refine tc_vectorOf hL s1 (fun c3 s2 => ⟨rfl, ?_⟩)
  refine tc_normalise hL s2 (fun c4 s3 => ⟨rfl, ?_⟩)
  refine tc_normalise hL s3 (fun c5 s4 => ⟨rfl, ?_⟩)
  refine tc_multiply hL s4 (Or.inr (Or.inl rfl)) (fun c6 s5 => ⟨rfl, ?_⟩)
  refine tc_normalise hL s5 (fun c7 s6 => ⟨rfl, ?_⟩)
  have eb : bndP (F x1) (F x2) = nrmP (mulP 1 (nrmP (vecP (F x1))) (nrmP (vecP (F x2)))) := rfl
  rw [← eb] at s6
  have bb : kB 160000000000000000 (bndP (F x1) (F x2)) := nrmP_bd (mulP_bdL (nrmP_bd (vecP_bd q1)) (nrmP_bd (vecP_bd q2)))
  refine tc_isWithinBound hL s6 (fun w => ⟨1, rfl, kq1 ?_⟩) (fun w => ⟨0, rfl, kq0 ?_⟩)
  · rw [if_pos w] at hP
    have bw : kB kLB (bndP (F x1) (F x2)) := kWb_iff.mp w
    refine ⟨⟨a3, b3⟩, ?_⟩
    refine tc_vectorOf hL s6 (fun c8 s7 => ⟨rfl, ?_⟩)
    refine tc_isOuterZero hL s7 (fun u => ⟨1, rfl, kr1 ?_⟩) (fun u => ⟨0, rfl, kr0 ?_⟩)
    · exact hP _ _ s7.rp (by rw [if_pos u])
    · exact hP _ _ s7.rp (by rw [if_neg u])
  · exact hP _ _ s6.rp (by rw [if_neg w])
end CQ
