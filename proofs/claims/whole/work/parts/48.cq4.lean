section CQ
variable {G : KG} {S0 : KSh} {d : Nat} {P : Option AV → KMem → Prop} {c c0 : KMem} {Ψ : Int → KF} {H : Int → Bool} {F : Int → KF} {f g s sg : KF} {M : Int} {x0 x1 x2 x3 x4 : Int}
theorem kSo_e1 : kSo 1 f = true ↔ kind f = 2 := by unfold kSo; simp
theorem kSo_e2 : kSo 2 f = true ↔ kObj (kind f) := by unfold kSo; rw [if_neg (by decide), if_neg (by decide), if_pos rfl, kObjB_iff]
theorem kSo_e3 : kSo 3 f = true ↔ kMir (kind f) := by unfold kSo; rw [if_neg (by decide), if_neg (by decide), if_neg (by decide), if_pos rfl, kMirB_iff]
theorem tc_belongs (hL : kLay S0) (hs : kCh Ψ c0 c) (hw : 0 ≤ x2 ∧ x2 ≤ 4) (h1 : ∀ Ψ' c', kCh Ψ' c0 c' → kKp Ψ Ψ' 524 526 526 → kSo x2 f = true → P (some (kI 1)) c') (h0 : ∀ Ψ' c', kCh Ψ' c0 c' → kKp Ψ Ψ' 524 526 526 → ¬ kSo x2 f = true → P (some (kI 0)) c') (r : 0 ≤ x1 ∧ x1 < 12 := by omega) (e1 : Ψ (3 + 2 + x1) = f := by repeat (first | with_reducible exact kUs | with_reducible assumption | (with_reducible apply kUn; omega) | exact rfl)) (b1 : kB kLB f := by repeat' (first | with_reducible assumption | with_reducible exact farP_bdL | with_reducible apply vecP_bd | with_reducible apply nrmP_bd | with_reducible apply revP_bd | with_reducible apply whlP_bd (Or.inr rfl) | with_reducible apply whlP_bd (Or.inl rfl) | with_reducible apply mulP_bdL | with_reducible exact plcP_bd (by omega) (by omega))) : kC2 G S0 kM_X10_belongs (d + 6) [kA 0, kI x1, kI x2] c P := by
  have hk := kind_rg f
  have w1 := lrow hL r.1 r.2
  refine v_X10_belongs hL (by omega) (by omega) ⟨fun z0 => ⟨fun z1 => ⟨fun z2 => ⟨fun z3 => ⟨r, ?_⟩, fun z => ?_⟩, fun z => ?_⟩, fun z => ?_⟩, fun z => ?_⟩
  · have e : kSo x2 f = kMot f := by unfold kSo; rw [if_neg z0, if_neg z1, if_neg z2, if_neg z3]
    rw [e] at h1 h0
    refine tc_isMotion hL hs (fun Ψ1 c1 s1 kp q => ⟨1, rfl, ko1 (h1 _ _ s1 kp q)⟩) (fun Ψ1 c1 s1 kp q => ⟨0, rfl, ko0 (h0 _ _ s1 kp q)⟩)
  · subst z
    rw [kSo_e3] at h1 h0
    refine tc_kindAt hL hs ⟨_, rfl, ?_⟩
    exact ⟨k32i (by omega), fun q => h1 _ _ hs (fun _ _ _ _ => rfl) q, fun q => h0 _ _ hs (fun _ _ _ _ => rfl) q⟩
  · subst z
    rw [kSo_e2] at h1 h0
    refine tc_kindAt hL hs ⟨_, rfl, ?_⟩
    exact ⟨k32i (by omega), fun q => h1 _ _ hs (fun _ _ _ _ => rfl) q, fun q => h0 _ _ hs (fun _ _ _ _ => rfl) q⟩
  · subst z
    rw [kSo_e1] at h1 h0
    refine tc_kindAt hL hs ⟨_, rfl, ?_⟩
    exact ⟨k32i (by omega), fun q => h0 _ _ hs (fun _ _ _ _ => rfl) q, fun q => h1 _ _ hs (fun _ _ _ _ => rfl) q⟩
  · subst z
    exact h1 _ _ hs (fun _ _ _ _ => rfl) rfl
theorem s_X10_letters (hL : kLay S0) (r1 : k32 x1) (hs : CSt H F c) (h : ∀ c', kCP c c' → P (some (kI (vLetters H F x1))) c') : kC2 G S0 kM_X10_letters (d + 7) [kA 0, kI x1] c P := by
  have hP := kCi h
  unfold vLetters at hP
  obtain ⟨Ψ, s0, hl⟩ := hs.op
  refine v_X10_letters hL r1 ⟨fun a => hP _ _ kCP.rf (by rw [if_neg (by omega)]), fun a => ⟨fun b => ?_, fun b => hP _ _ kCP.rf (by rw [if_neg (by omega)])⟩⟩
  rw [if_pos ⟨a, b⟩] at hP
  have loop : ∀ n k : Nat, k + n = 12 → ∀ Ψ' c', kCh Ψ' c c' → kKp Ψ Ψ' 524 526 526 → kW2 G S0 kM_X10_letters (d + 7) 15 [some (kA 0), some (kI x1), some (kI (kBits (fun l => H l && kSo x1 (F l)) k : Int)), some (kI (k : Int))] [] c' P := by
    intro n
    induction n with
    | zero =>
      intro k hk Ψ' c' s1 kp
      obtain rfl : k = 12 := by omega
      have hb := kBits_lt (fun l => H l && kSo x1 (F l)) 12
      exact v_X10_letters_15 hL r1 (by omega) (by omega) ⟨fun _ => hP _ _ s1.rp rfl, fun q => by omega⟩
    | succ n ih =>
      intro k hk Ψ' c' s1 kp
      have hb := kBits_lt (fun l => H l && kSo x1 (F l)) k
      have hb2 : 2 ^ k ≤ 2 ^ 11 := Nat.pow_le_pow_right (by omega) (by omega)
      have e1 : kBits (fun l => H l && kSo x1 (F l)) (k + 1) = if (H k && kSo x1 (F k)) = true then kBits (fun l => H l && kSo x1 (F l)) k ||| 2 ^ k else kBits (fun l => H l && kSo x1 (F l)) k := rfl
      have hs1 : CSt H F c' := hs.rp s1.rp
      have no : ∀ Ψ2 c2, kCh Ψ2 c c2 → kKp Ψ Ψ2 524 526 526 → ¬ (H k = true ∧ kSo x1 (F k) = true) → kW2 G S0 kM_X10_letters (d + 7) 47 [some (kA 0), some (kI x1), some (kI (kBits (fun l => H l && kSo x1 (F l)) k : Int)), some (kI (k : Int))] [] c2 P := fun Ψ2 c2 s2 kp2 q => by
        have := ih (k + 1) (by omega) Ψ2 c2 s2 kp2
        rw [e1, if_neg (by rw [Bool.and_eq_true]; exact q)] at this
        exact v_X10_letters_47 hL r1 (by omega) (by omega) this
      refine v_X10_letters_15 hL r1 (by omega) (by omega) ⟨fun q => by omega, fun _ => ⟨hs1.1.1, fun y => ?_, fun y => no _ _ s1 kp (fun q => y ((hs1.hh _).mpr q.1))⟩⟩
      have y' := (hs1.hh _).mp y
      obtain ⟨a1, b1, e2, q1⟩ := hl.1 _ y'
      have e3 : Ψ' (3 + 2 + (k : Int)) = F k := (kp _ (by omega) (by omega) (by omega)).trans e2
      refine tc_belongs hL s1 ⟨a, b⟩ (fun Ψ2 c2 s2 kp2 q => ⟨1, rfl, kr1 ?_⟩) (fun Ψ2 c2 s2 kp2 q => ⟨0, rfl, kr0 ?_⟩)
      · have hor := kBits_lt (fun l => H l && kSo x1 (F l)) (k + 1)
        have := ih (k + 1) (by omega) Ψ2 c2 s2 (fun s a b e => (kp2 s a b e).trans (kp s a b e))
        rw [e1, if_pos (by rw [y', q]; rfl)] at this hor
        have h12 : 2 ^ (k + 1) ≤ 2 ^ 12 := Nat.pow_le_pow_right (by omega) (by omega)
        rw [kshl1 k (by omega), kor_nat _ _ (by omega) (by omega)]
        exact v_X10_letters_47 hL r1 (by omega) (by omega) this
      · exact no _ _ s2 (fun s a b e => (kp2 s a b e).trans (kp s a b e)) (fun w => q w.2)
  exact loop 12 0 (by omega) Ψ c s0 (fun _ _ _ _ => rfl)
theorem s_X10_formIs (hL : kLay S0) (r1 : k32 x1) (r2 : k32 x2) (hs : CSt H F c) (h : ∀ c', kCP c c' → P (some (kI (vFormIs H F x1 x2))) c') : kC2 G S0 kM_X10_formIs (d + 6) [kA 0, kI x1, kI x2] c P := by
  have hP := kCi h
  unfold vFormIs at hP
  obtain ⟨Ψ, s0, hl⟩ := hs.op
  refine v_X10_formIs hL r1 r2 ⟨hs.1.1, fun a => ⟨fun b => hP _ _ kCP.rf (by rw [if_neg (by omega)]), fun b => ⟨fun b2 => ?_, fun b2 => hP _ _ kCP.rf (by rw [if_neg (by omega)])⟩⟩, fun a => hP _ _ kCP.rf (by rw [if_neg (fun q => a ((hs.hh _).mpr q.1))])⟩
  have y := (hs.hh _).mp a
  obtain ⟨a1, b1, e1, q1⟩ := hl.1 _ y
  have w1 := lrow hL a1 b1
  have hk := kind_rg (F x1)
  rw [if_pos ⟨y, b, b2⟩] at hP
  refine ⟨⟨a1, b1⟩, fun z0 => ⟨fun z1 => ⟨fun z4 => ?_, fun z => ?_⟩, fun z => ?_⟩, fun z => ?_⟩
  · rw [if_neg z0, if_neg z1] at hP
    refine tc_isMotion hL s0 (fun Ψ1 c1 s1 kp q => ⟨1, rfl, fun z2 => kr1 ?_, fun z2 => kr1 ?_⟩) (fun Ψ1 c1 s1 kp q => ⟨0, rfl, fun z2 => kr0 ?_, fun z2 => kr0 ?_⟩)
    · rw [if_neg z2, if_pos (by omega)] at hP
      have e3 : Ψ1 (3 + 2 + x1) = F x1 := (kp _ (by omega) (by omega) (by omega)).trans e1
      refine tc_orderOf hL s1 q (fun Ψ2 c2 s2 kp2 => ⟨_, rfl, ?_⟩)
      exact hP _ _ s2.rp rfl
    · rw [if_pos z2, if_pos q] at hP; exact hP _ _ s1.rp rfl
    · rw [if_neg z2, if_pos (by omega)] at hP
      exact hP _ _ s1.rp (by unfold kOrd; rw [if_neg q])
    · rw [if_pos z2, if_neg q] at hP; exact hP _ _ s1.rp rfl
  · rw [if_neg z0, if_neg z1, if_neg (by omega), if_neg (by omega)] at hP
    refine tc_partsNotZero hL s0 ⟨_, rfl, ?_⟩
    exact hP _ _ s0.rp rfl
  · rw [if_neg z0, if_pos z] at hP
    refine tc_gradesOf hL s0 ⟨_, rfl, ?_⟩
    exact hP _ _ s0.rp rfl
  · rw [if_pos z] at hP
    refine tc_kindOf hL s0 ⟨_, rfl, ?_⟩
    exact hP _ _ s0.rp rfl
theorem s_X10_like (hL : kLay S0) (r1 : k32 x1) (r2 : k32 x2) (hs : CSt H F c) (h : ∀ c', kCP c c' → P (some (kI (vLike H F x1 x2))) c') : kC2 G S0 kM_X10_like (d + 3) [kA 0, kI x1, kI x2] c P := by
  have hP := kCi h
  unfold vLike at hP
  obtain ⟨Ψ, s0, hl⟩ := hs.op
  refine v_X10_like hL r1 r2 ⟨hs.1.1, fun y1 => ?_, fun y1 => hP _ _ kCP.rf (by rw [if_neg (fun q => y1 ((hs.hh _).mpr q))])⟩
  have y1' := (hs.hh _).mp y1
  rw [if_pos y1'] at hP
  refine ⟨fun y2 => ?_, fun y2 => hP _ _ kCP.rf (by rw [if_neg (fun q => y2 ((hs.hh _).mpr q))])⟩
  have y2' := (hs.hh _).mp y2
  rw [if_pos y2'] at hP
  obtain ⟨a1, b1, e1, q1⟩ := hl.1 _ y1'
  obtain ⟨a2, b2, e2, q2⟩ := hl.1 _ y2'
  have w1 := lrow hL a1 b1
  have w2 := lrow hL a2 b2
  refine ⟨⟨a1, b1⟩, ?_⟩
  refine tc_isZero (f := F x1) hL s0 (fun z => ⟨1, rfl, kq1 (hP _ _ s0.rp (by rw [if_pos z]))⟩) (fun z => ⟨0, rfl, kq0 ⟨⟨a2, b2⟩, ?_⟩⟩)
  rw [if_neg z] at hP
  refine tc_isZero (f := F x2) hL s0 (fun z2 => ⟨1, rfl, kr1 (hP _ _ s0.rp (by rw [if_pos z2]))⟩) (fun z2 => ⟨0, rfl, kr0 ?_⟩)
  rw [if_neg z2] at hP
  refine tc_areLike hL s0 (fun Ψ1 c1 s1 kp q => ⟨1, rfl, kr1 ?_⟩) (fun Ψ1 c1 s1 kp q => ⟨0, rfl, kr0 ?_⟩)
  · exact hP _ _ s1.rp (by rw [if_pos q.2])
  · exact hP _ _ s1.rp (by rw [if_neg (fun w => q ⟨⟨z, z2⟩, w⟩)])
theorem s_X10_turned (hL : kLay S0) (r1 : k32 x1) (r2 : k32 x2) (r3 : k32 x3) (hs : CSt H F c) (h : ∀ c', kCP c c' → P (some (kI (vTurn H F x1 x2 x3))) c') : kC2 G S0 kM_X10_turned (d + 6) [kA 0, kI x1, kI x2, kI x3] c P := by
  have hP := kCi h
  unfold vTurn at hP
  obtain ⟨Ψ, s0, hl⟩ := hs.op
  refine v_X10_turned hL r1 r2 r3 ⟨hs.1.1, fun y1 => ?_, fun y1 => hP _ _ kCP.rf (by rw [if_neg (fun q => y1 ((hs.hh _).mpr q))])⟩
  have y1' := (hs.hh _).mp y1
  rw [if_pos y1'] at hP
  refine ⟨fun y2 => ?_, fun y2 => hP _ _ kCP.rf (by rw [if_neg (fun q => y2 ((hs.hh _).mpr q))])⟩
  have y2' := (hs.hh _).mp y2
  rw [if_pos y2'] at hP
  obtain ⟨a1, b1, e1, q1⟩ := hl.1 _ y1'
  obtain ⟨a2, b2, e2, q2⟩ := hl.1 _ y2'
  have w1 := lrow hL a1 b1
  have w2 := lrow hL a2 b2
  have hk2 := kind_rg (F x2)
  refine ⟨fun z => hP _ _ kCP.rf (by rw [if_neg (by omega)]), fun z0 => ⟨fun z1 => ?_, fun z => hP _ _ kCP.rf (by rw [if_neg (by omega)])⟩⟩
  rw [if_pos ⟨z0, by omega⟩] at hP
  refine tc_kindAt hL s0 ⟨_, rfl, ?_⟩
  refine ⟨k32i (by omega), fun z => ⟨⟨a2, b2⟩, ?_⟩, fun z => hP _ _ s0.rp (by rw [if_neg (fun q => z (kMirB_iff.mp q))])⟩
  rw [if_pos (kMirB_iff.mpr z)] at hP
  refine tc_vectorOf hL s0 (fun c2 s1 => ⟨rfl, ⟨a1, b1⟩, ?_⟩)
  refine tc_turn hL s1 (vec_rev (kMir_obj z)) (fun Ψ1 c1 s1 em kp q => ⟨1, rfl, kq1 ?_⟩) (fun Ψ1 c1 s1 kp q => ⟨0, rfl, kq0 ?_⟩)
  · exact hP _ _ s1.rp (by rw [if_pos q]; exact (s1.e em) x3 z0 z1)
  · exact hP _ _ s1.rp (by rw [if_neg q])
theorem s_X10_brings (hL : kLay S0) (r1 : k32 x1) (r2 : k32 x2) (r3 : k32 x3) (r4 : k32 x4) (hs : CSt H F c) (h : ∀ c', kCP c c' → P (some (kL (vBring H F x1 x2 x3 x4))) c') : kC2 G S0 kM_X10_brings (d + 6) [kA 0, kI x1, kI x2, kI x3, kI x4] c P := by
  have hP := kCll h
  unfold vBring at hP
  obtain ⟨Ψ, s0, hl⟩ := hs.op
  refine v_X10_brings hL r1 r2 r3 r4 ⟨hs.1.1, fun y1 => ?_, fun y1 => hP _ _ kCP.rf (by rw [if_neg (fun q => y1 ((hs.hh _).mpr q))])⟩
  have y1' := (hs.hh _).mp y1
  rw [if_pos y1'] at hP
  obtain ⟨a1, b1, e1, q1⟩ := hl.1 _ y1'
  have w1 := lrow hL a1 b1
  refine ⟨fun z => hP _ _ kCP.rf (by rw [if_neg (by omega)]), fun z2 => ?_⟩
  have z2' : -99 ≤ x2 ∧ x2 ≤ 99 := by omega
  rw [if_pos z2'] at hP
  refine ⟨fun z => hP _ _ kCP.rf (by rw [if_neg (by omega)]), fun z3 => ?_⟩
  have z3' : -99 ≤ x3 ∧ x3 ≤ 99 := by omega
  rw [if_pos z3'] at hP
  have hp := plcP_bd z2' z3'
  refine ⟨fun z => hP _ _ kCP.rf (by rw [if_neg (by omega)]), fun z4 => ⟨fun z5 => ⟨⟨a1, b1⟩, ?_⟩, fun z => hP _ _ kCP.rf (by rw [if_neg (by omega)])⟩⟩
  rw [if_pos ⟨z4, z5⟩] at hP
  refine tc_isMotion hL s0 (fun Ψ1 c1 s1 kp q => ⟨1, rfl, kq1 ?_⟩) (fun Ψ1 c1 s1 kp q => ⟨0, rfl, kq0 ?_⟩)
  · rw [if_pos q] at hP
    have e3 : Ψ1 (3 + 2 + x1) = F x1 := (kp _ (by omega) (by omega) (by omega)).trans e1
    refine tc_place hL s1 r2 r3 (fun c2 s2 => ⟨rfl, ?_⟩)
    refine tc_bring hL s2 (fun Ψ3 c3 s s3 e hp2 w u => ⟨1, rfl, kr1 ?_⟩) (fun Ψ3 c3 s3 w => ⟨0, rfl, kr0 ?_⟩)
    · rw [if_pos w] at hP
      have bw : kWb (mirP (F x1) (plcP x2 x3)) = true := by
        have w2 := w
        unfold mirB at w2
        rw [Bool.and_eq_true] at w2
        exact w2.2
      refine tc_number hL s3 r4 hp2 ⟨_, rfl, ?_⟩
      exact hP _ _ s3.rp (ptN_yes ⟨z4, z5⟩ bw u)
    · by_cases u : mirB (F x1) (plcP x2 x3) = true
      · rw [if_pos u] at hP
        exact hP _ _ s3.rp (by unfold ptN; rw [if_neg (fun q => w ⟨u, q⟩)]; split <;> rfl)
      · rw [if_neg u] at hP; exact hP _ _ s3.rp rfl
  · exact hP _ _ s1.rp (by rw [if_neg q])
theorem krt_bd {n : Nat} (h : n ≤ 160000000000000000) : krt n ≤ 1000000000 := by
  apply Classical.byContradiction
  intro q
  have h1 := (krt_is n).1
  have := Nat.mul_le_mul (show 1000000000 ≤ krt n by omega) (show 1000000000 ≤ krt n by omega)
  omega
theorem s_X10_pair (hL : kLay S0) (r1 : k32 x1) (r2 : k32 x2) (hs : CSt H F c) (h : ∀ c', kCP c c' → P (some (kL (vPair H F x1 x2))) c') : kC2 G S0 kM_X10_pair (d + 7) [kA 0, kI x1, kI x2] c P := by
  have hP := kCll h
  unfold vPair at hP
  obtain ⟨Ψ, s0, hl⟩ := hs.op
  refine v_X10_pair hL r1 r2 ⟨hs.1.1, fun a => ?_, fun a => hP _ _ kCP.rf (by rw [if_neg (fun q => a ((hs.hh _).mpr q))])⟩
  have y := (hs.hh _).mp a
  rw [if_pos y] at hP
  refine ⟨fun b => hP _ _ kCP.rf (by rw [if_neg (by omega)]), fun b => ⟨fun b2 => ?_, fun b2 => hP _ _ kCP.rf (by rw [if_neg (by omega)])⟩⟩
  obtain ⟨a1, b1, e1, q1⟩ := hl.1 _ y
  have e29 := hl.2.1
  have w1 := lrow hL a1 b1
  have hk := kind_rg (F x1)
  rw [if_pos ⟨b, b2⟩] at hP
  refine ⟨⟨a1, b1⟩, ?_⟩
  refine tc_kindOf hL s0 ⟨_, rfl, ?_⟩
  refine ⟨k32i (by omega), fun z => ?_, fun z => hP _ _ s0.rp (by rw [if_neg z])⟩
  rw [if_pos z] at hP
  unfold prN at hP
  refine ⟨fun n3 => ⟨fun n5 => ⟨fun k20 => ?_, fun k20 => hP _ _ s0.rp (by rw [if_pos ⟨k20, by omega⟩])⟩, fun n5 => ?_⟩, fun n3 => ?_⟩
  · have m1 : -160000000000000000 ≤ mulP 0 (F x1) (F x1) 0 ∧ mulP 0 (F x1) (F x1) 0 ≤ 160000000000000000 := mulP_bdL q1 q1 0 (by omega) (by omega)
    have m0 := kind_20 k20
    rw [if_neg (fun q => q.1 k20), if_neg (by omega), if_neg (by omega)] at hP
    refine tc_square hL s0 ⟨_, rfl, ?_⟩
    refine s_X0_rootOf hL ⟨m0, by omega⟩ ⟨_, rfl, ?_⟩
    have kr : 0 ≤ krtI (mulP 0 (F x1) (F x1) 0) ∧ krtI (mulP 0 (F x1) (F x1) 0) ≤ 1000000000 := by
      have := krt_bd (n := (mulP 0 (F x1) (F x1) 0).toNat) (by omega)
      unfold krtI; omega
    by_cases w : krtI (mulP 0 (F x1) (F x1) 0) * krtI (mulP 0 (F x1) (F x1) 0) = mulP 0 (F x1) (F x1) 0
    · rw [if_pos w]
      rw [if_pos w] at hP
      refine ⟨k64i (by omega), fun _ => ⟨fun n8 => ?_, fun n8 => ?_⟩, fun q => by omega⟩
      · rw [if_neg (by omega)] at hP
        refine tc_findEnd hL s0 (by omega) (fun Ψ1 c1 s g s1 e hp q => ⟨1, rfl, kq1 ?_⟩) (fun Ψ1 c1 s1 q => ⟨0, rfl, kq0 ?_⟩)
        · refine tc_number hL s1 (k32i (by omega)) hp ⟨_, rfl, ?_⟩
          exact hP _ _ s1.rp (q _ (by omega) (by omega))
        · exact hP _ _ s1.rp (q _).symm
      · rw [if_pos n8] at hP
        refine tc_findEnd hL s0 (by omega) (fun Ψ1 c1 s g s1 e hp q => ⟨1, rfl, kq1 ?_⟩) (fun Ψ1 c1 s1 q => ⟨0, rfl, kq0 ?_⟩)
        · refine tc_number hL s1 (k32i (by omega)) hp ⟨_, rfl, ?_⟩
          exact hP _ _ s1.rp (q _ (by omega) (by omega))
        · exact hP _ _ s1.rp (q _).symm
    · rw [if_neg w]
      rw [if_neg w] at hP
      exact ⟨k64i (by omega), fun q => by omega, fun _ => hP _ _ s0.rp rfl⟩
  · rw [if_neg (by omega), if_neg (by omega), if_pos n5] at hP
    refine tc_half hL s0 (k32i (by omega)) (fun Ψ1 c1 s1 => ⟨_, rfl, ?_⟩)
    exact hP _ _ s1.rp rfl
  · rw [if_neg (by omega), if_pos n3] at hP
    refine tc_findMiddle hL s0 (fun Ψ1 c1 s g s1 e hp q => ⟨1, rfl, kr1 ?_⟩) (fun Ψ1 c1 s1 q => ⟨0, rfl, kr0 ?_⟩)
    · refine tc_number hL s1 r2 hp ⟨_, rfl, ?_⟩
      exact hP _ _ s1.rp (q _ (by omega) (by omega))
    · exact hP _ _ s1.rp (q _).symm
end CQ
