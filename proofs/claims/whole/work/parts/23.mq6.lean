section MQ6
variable {G : KG} {S0 : KSh} {d : Nat} {P : Option AV → KMem → Prop} {c c0 : KMem} {Φ : Int → KF} {H : Int → Bool} {F : Int → KF} {f g : KF} {M : Int} {x0 x1 x2 x3 x4 : Int}
theorem ktd_le (a b : Int) : (Int.tdiv a b).natAbs ≤ a.natAbs := by rw [Int.natAbs_tdiv]; exact Nat.div_le_self _ _
theorem mdX_bd (hb : kB kLB f) : -100000000 ≤ mdX f ∧ mdX f ≤ 100000000 := by
  have h1 : -100000000 ≤ f 1 ∧ f 1 ≤ 100000000 := hb 1 (by omega) (by omega)
  have := ktd_le (f 1) (mdG f)
  unfold mdX; omega
theorem mdY_bd (hb : kB kLB f) : -100000000 ≤ mdY f ∧ mdY f ≤ 100000000 := by
  have h1 : -100000000 ≤ f 2 ∧ f 2 ≤ 100000000 := hb 2 (by omega) (by omega)
  have := ktd_le (f 2) (mdG f)
  unfold mdY; omega
theorem kdv_pos {e : Int} {n : Nat} (h : (n : Int) ∣ e) (hn : n ≠ 0) (he : e ≠ 0) : 0 < Int.tdiv e (if e < 0 then -(n : Int) else (n : Int)) := by
  obtain ⟨k, rfl⟩ := h
  have hn0 : (0 : Int) < n := by omega
  by_cases q : (n : Int) * k < 0
  · rw [if_pos q, Int.tdiv_neg, Int.mul_tdiv_cancel_left k (by omega)]
    have : k < 0 := by
      apply Classical.byContradiction
      intro w
      have := Int.mul_nonneg (Int.le_of_lt hn0) (show 0 ≤ k by omega)
      omega
    omega
  · rw [if_neg q, Int.mul_tdiv_cancel_left k (by omega)]
    have : 0 ≤ k := by
      apply Classical.byContradiction
      intro w
      have := Int.mul_pos hn0 (show 0 < -k by omega)
      rw [Int.mul_neg] at this
      omega
    have : k ≠ 0 := fun w => by rw [w] at he; simp at he
    omega
theorem mdL_pos (hb : kB kLB f) (h : f 4 ≠ f 8) : 0 < mdL f ∧ mdL f ≤ 200000000 := by
  have h4 : -100000000 ≤ f 4 ∧ f 4 ≤ 100000000 := hb 4 (by omega) (by omega)
  have h8 : -100000000 ≤ f 8 ∧ f 8 ≤ 100000000 := hb 8 (by omega) (by omega)
  have he : mdE f ≠ 0 := by unfold mdE; omega
  have hd : ((Int.gcd (Int.gcd (f 1) (f 2)) (mdE f) : Nat) : Int) ∣ mdE f := Int.gcd_dvd_right _ _
  have := kdv_pos hd (fun q => he (Int.gcd_eq_zero_iff.mp q).2) he
  have h2 := ktd_le (mdE f) (mdG f)
  refine ⟨this, ?_⟩
  unfold mdL
  unfold mdE at h2 ⊢
  omega
theorem klow_pos {p q : Int} (hq : 0 < q) : 0 < klow p q 1 := by
  unfold klow
  rw [if_neg (by decide), if_neg (by omega)]
  have hd : ((Int.gcd p q : Nat) : Int) ∣ q := Int.gcd_dvd_right _ _
  have := kdv_pos hd (fun z => by have := (Int.gcd_eq_zero_iff.mp z).2; omega) (by omega)
  rw [if_neg (by omega)] at this
  exact this
theorem klow_bd {p q w : Int} {N : Nat} (hp : p.natAbs ≤ N) (hq : q.natAbs ≤ N) : (klow p q w).natAbs ≤ N := by
  unfold klow
  refine Nat.le_trans (ktd_le _ _) ?_
  split <;> assumption
theorem mdE2_bd (hb : kB kLB f) (h : f 4 ≠ f 8) : 0 < mdE f * mdE f ∧ mdE f * mdE f ≤ 40000000000000000 := by
  have h4 : -100000000 ≤ f 4 ∧ f 4 ≤ 100000000 := hb 4 (by omega) (by omega)
  have h8 : -100000000 ≤ f 8 ∧ f 8 ≤ 100000000 := hb 8 (by omega) (by omega)
  have h1 := kmul_bd (a := mdE f) (b := mdE f) (M := 200000000) (N := 200000000) (by unfold mdE; omega) (by unfold mdE; omega)
  have ee : (200000000 : Int) * 200000000 = 40000000000000000 := by decide
  rw [ee] at h1
  have h2 : 0 < mdE f * mdE f := by
    by_cases q : mdE f < 0
    · have := Int.mul_pos (a := -mdE f) (b := -mdE f) (by omega) (by omega)
      rw [Int.neg_mul_neg] at this; exact this
    · exact Int.mul_pos (by unfold mdE at q ⊢; omega) (by unfold mdE at q ⊢; omega)
  omega
theorem mdS_bd (hb : kB kLB f) (h : f 4 ≠ f 8) (w : Int) : -40000000000000000 ≤ mdS f w ∧ mdS f w ≤ 40000000000000000 := by
  have h1 := kQ4_bd hb
  have h2 := mdE2_bd hb h
  have := klow_bd (p := kQ4 f) (q := mdE f * mdE f) (w := w) (N := 40000000000000000) (by omega) (by omega)
  unfold mdS; omega
theorem mdS_pos (hb : kB kLB f) (h : f 4 ≠ f 8) : 0 < mdS f 1 := klow_pos (mdE2_bd hb h).1
theorem t_isFar (hL : kLay S0) (hs : kPh Φ (kMd c0 f) c) (hb : kB kLB f) (hne : f 4 ≠ f 8) (h1 : kFar f x1 = true → P (some (kI 1)) c) (h0 : ¬ kFar f x1 = true → P (some (kI 0)) c) (hm : 0 ≤ x1 ∧ x1 < 1000000) : kC2 G S0 kM_X11_isFar (d + 1) [kA 558, kL x1] c P := by
  have e1 : c 558 31 = mdX f := (hs.2 558 31 (by decide) (by decide)).trans kMd_31
  have e2 : c 558 32 = mdY f := (hs.2 558 32 (by decide) (by decide)).trans kMd_32
  have e3 : c 558 33 = mdL f := (hs.2 558 33 (by decide) (by decide)).trans kMd_33
  have b1 := mdX_bd hb
  have b2 := mdY_bd hb
  have b3 := mdL_pos hb hne
  unfold kFar at h1 h0
  rw [decide_eq_true_iff] at h1 h0
  refine v_X11_isFar hL ?_
  rw [e1, e2, e3]
  exact ⟨k64i (by omega), k64i (by omega), k64i (by omega), fun z => h1 (by omega), fun z => ⟨k64i (by omega), k64i (by omega), fun z2 => h1 (by omega), fun z2 => ⟨k64i (by omega), fun z3 => h0 (by omega), fun z3 => h1 (by omega)⟩⟩⟩
theorem kPt_ne (h : kind f = 2) : f 4 ≠ f 8 := by
  have h1 := kMid_ne (f := f) (by unfold kMid; omega)
  have h2 := h1.2
  unfold vecP at h2
  have h3 := kOne_rg f; have h4 := kOne_rg (whlP (-1) f); have h5 := kTwo_rg f
  rw [if_neg ?_] at h2
  · exact h2
  · intro q
    unfold kind at h
    rw [if_neg (by omega), if_neg (by omega), if_neg (by omega), if_neg (by omega), if_pos q] at h
    omega
theorem kfar_no {m : Int} (h : ¬ kFar f m = true) : ((mdX f).natAbs : Int) ≤ m ∧ ((mdY f).natAbs : Int) ≤ m ∧ mdL f ≤ m := by
  unfold kFar at h
  rw [decide_eq_true_iff] at h
  omega
theorem s_X11_distance (hL : kLay S0) (r1 : k32 x1) (r2 : k32 x2) (r3 : k32 x3) (hs : RSt H F c) (h : ∀ c', kRP c c' → P (some (kL (vDist H F x1 x2 x3))) c') : kC2 G S0 kM_X11_distance (d + 5) [kA 558, kI x1, kI x2, kI x3] c P := by
  obtain ⟨Φ, s0, hg, hst, hy, hn, e3, hl⟩ := hs.op
  have hP := kPl h
  unfold vDist at hP
  refine v_X11_distance hL r1 r2 r3 ⟨hst, fun z1 => ?_, fun z1 => hP _ _ kRP.rf (by rw [if_neg (hn _ z1)])⟩
  have y1 := hy _ z1
  obtain ⟨a1, b1, e1, f1⟩ := hl _ y1
  rw [if_pos y1] at hP
  refine ⟨fun z2 => ?_, fun z2 => hP _ _ kRP.rf (by rw [if_neg (hn _ z2)])⟩
  have y2 := hy _ z2
  obtain ⟨a2, b2, e2, f2⟩ := hl _ y2
  rw [if_pos y2] at hP
  refine ⟨fun z3 => ?_, fun z3 => hP _ _ kRP.rf (by rw [if_neg z3])⟩
  rw [if_pos z3] at hP
  have hk1 := kind_rg (F x1)
  have hk2 := kind_rg (F x2)
  refine t_kindOf hL hg s0 (fun c1 a b hs => ⟨_, rfl, ?_⟩)
  refine ⟨k32i (by omega), fun z => ?_, fun z => ?_⟩
  · rw [if_neg z] at hP; exact hP _ _ (s0.rp hs kFr.rf (by intro s p q; repeat (first | exact rfl | refine kUn (by omega) ?_ | exact hk s p q))) rfl
  · rw [if_pos z] at hP
    have n1 := kPt_ne z
    refine t_kindOf hL hg hs (fun c1 a b hs => ⟨_, rfl, ?_⟩)
    refine ⟨k32i (by omega), fun z => ?_, fun z => ?_⟩
    · rw [if_pos z] at hP
      have n2 := kPt_ne z
      refine t_findsMiddle hL hs n1 (fun c2 hs => ⟨rfl, ?_⟩)
      refine t_isFar hL hs f1 n1 (fun z => ⟨1, rfl, kr1 ?_⟩) (fun z => ⟨0, rfl, kr0 ?_⟩) (by omega)
      · rw [if_pos z] at hP; exact hP _ _ (s0.rp hs kFr.rf.md (by intro s p q; repeat (first | exact rfl | refine kUn (by omega) ?_ | exact hk s p q))) rfl
      · rw [if_neg z] at hP
        have g1 := kfar_no z
        have g3 := mdL_pos f1 n1
        have m1 : c2 558 31 = mdX (F x1) := (hs.2 558 31 (by decide) (by decide)).trans kMd_31
        have m2 : c2 558 32 = mdY (F x1) := (hs.2 558 32 (by decide) (by decide)).trans kMd_32
        have m3 : c2 558 33 = mdL (F x1) := (hs.2 558 33 (by decide) (by decide)).trans kMd_33
        refine v_X11_distance_66 hL r2 r3 ?_
        rw [m1, m2, m3]
        refine t_findsMiddle hL hs n2 (fun c3 hs => ⟨rfl, ?_⟩)
        refine t_isFar hL hs f2 n2 (fun z => ⟨1, rfl, kr1 ?_⟩) (fun z => ⟨0, rfl, kr0 ?_⟩) (by omega)
        · rw [if_pos z] at hP; exact hP _ _ (s0.rp hs kFr.rf.md.md (by intro s p q; repeat (first | exact rfl | refine kUn (by omega) ?_ | exact hk s p q))) rfl
        · rw [if_neg z] at hP
          have g2 := kfar_no z
          have g4 := mdL_pos f2 n2
          have hrp : kRP c c3 := s0.rp hs kFr.rf.md.md (by intro s p q; repeat (first | exact rfl | refine kUn (by omega) ?_ | exact hk s p q))
          have w1 : c3 558 31 = mdX (F x2) := (hs.2 558 31 (by decide) (by decide)).trans kMd_31
          have w2 : c3 558 32 = mdY (F x2) := (hs.2 558 32 (by decide) (by decide)).trans kMd_32
          have w3 : c3 558 33 = mdL (F x2) := (hs.2 558 33 (by decide) (by decide)).trans kMd_33
          refine v_X11_distance_103 hL r3 ?_
          rw [w1, w2, w3]
          refine v_X11_distance_137 hL r3 ?_
          rw [w3]
          unfold dstN at hP
          have k1 := kmul_bd (a := mdX (F x1)) (b := mdL (F x2)) (M := 1000) (N := 1000) (by omega) (by omega)
          have k2 := kmul_bd (a := mdX (F x2)) (b := mdL (F x1)) (M := 1000) (N := 1000) (by omega) (by omega)
          have k3 := kmul_bd (a := mdY (F x1)) (b := mdL (F x2)) (M := 1000) (N := 1000) (by omega) (by omega)
          have k4 := kmul_bd (a := mdY (F x2)) (b := mdL (F x1)) (M := 1000) (N := 1000) (by omega) (by omega)
          have k5 := kmul_bd (a := mdL (F x1)) (b := mdL (F x1)) (M := 1000) (N := 1000) (by omega) (by omega)
          have ee : (1000 : Int) * 1000 = 1000000 := by decide
          rw [ee] at k1 k2 k3 k4 k5
          have k6 := kmul_bd (a := mdX (F x1) * mdL (F x2) - mdX (F x2) * mdL (F x1)) (b := mdX (F x1) * mdL (F x2) - mdX (F x2) * mdL (F x1)) (M := 2000000) (N := 2000000) (by omega) (by omega)
          have k7 := kmul_bd (a := mdY (F x1) * mdL (F x2) - mdY (F x2) * mdL (F x1)) (b := mdY (F x1) * mdL (F x2) - mdY (F x2) * mdL (F x1)) (M := 2000000) (N := 2000000) (by omega) (by omega)
          have ee2 : (2000000 : Int) * 2000000 = 4000000000000 := by decide
          rw [ee2] at k6 k7
          have k8 := kmul_bd (a := mdL (F x1) * mdL (F x1)) (b := mdL (F x2)) (M := 1000000) (N := 1000) k5 (by omega)
          have ee3 : (1000000 : Int) * 1000 = 1000000000 := by decide
          rw [ee3] at k8
          have k9 := kmul_bd (a := mdL (F x1) * mdL (F x1) * mdL (F x2)) (b := mdL (F x2)) (M := 1000000000) (N := 1000) k8 (by omega)
          have ee4 : (1000000000 : Int) * 1000 = 1000000000000 := by decide
          rw [ee4] at k9
          have kp := Int.mul_pos (Int.mul_pos (Int.mul_pos g3.1 g3.1) g4.1) g4.1
          exact s_X11_lowest hL r3 (by unfold k63; omega) (by unfold k63; omega) (by omega) ⟨_, rfl, hP _ _ hrp rfl⟩
    · rw [if_neg z] at hP; exact hP _ _ (s0.rp hs kFr.rf (by intro s p q; repeat (first | exact rfl | refine kUn (by omega) ?_ | exact hk s p q))) rfl
theorem s_X11_power (hL : kLay S0) (r1 : k32 x1) (r2 : k32 x2) (r3 : k32 x3) (r4 : k32 x4) (hs : RSt H F c) (h : ∀ c', kRP c c' → P (some (kL (vPow H F x1 x2 x3 x4))) c') : kC2 G S0 kM_X11_power (d + 5) [kA 558, kI x1, kI x2, kI x3, kI x4] c P := by
  obtain ⟨Φ, s0, hg, hst, hy, hn, e3, hl⟩ := hs.op
  have hP := kPl h
  unfold vPow at hP
  refine v_X11_power hL r1 r2 r3 r4 ⟨hst, fun z1 => ?_, fun z1 => hP _ _ kRP.rf (by rw [if_neg (hn _ z1)])⟩
  have y1 := hy _ z1
  obtain ⟨a1, b1, e1, f1⟩ := hl _ y1
  rw [if_pos y1] at hP
  refine ⟨fun z2 => ?_, fun z2 => hP _ _ kRP.rf (by rw [if_neg z2])⟩
  rw [if_pos z2] at hP
  refine ⟨fun z3 => ?_, fun z3 => hP _ _ kRP.rf (by rw [if_neg z3])⟩
  rw [if_pos z3] at hP
  refine ⟨fun z4 => ?_, fun z4 => hP _ _ kRP.rf (by rw [if_neg z4])⟩
  rw [if_pos z4] at hP
  have hk1 := kind_rg (F x1)
  refine t_kindOf hL hg s0 (fun c1 a b hs => ⟨_, rfl, ?_⟩)
  refine ⟨k32i (by omega), fun z => ?_, fun z => ?_⟩
  · rw [if_pos (kMidB_iff.mpr z)] at hP
    obtain ⟨ho, hne⟩ := kMid_ne z
    refine t_laysVector hL hg hs ho (fun c2 hs => ⟨rfl, ?_⟩)
    refine t_findsMiddle hL hs hne (fun c3 hs => ⟨rfl, ?_⟩)
    have hb := vecP_bd f1
    have hrp : kRP c c3 := s0.rp hs kFr.rf.md (by intro s p q; repeat (first | exact rfl | refine kUn (by omega) ?_ | exact hk s p q))
    refine t_isFar hL hs hb hne (fun z => ⟨1, rfl, kq1 ?_⟩) (fun z => ⟨0, rfl, kq0 ?_⟩) (by omega)
    · rw [if_pos z] at hP; exact hP _ _ hrp rfl
    · rw [if_neg z] at hP
      have m1 : c3 558 31 = mdX (vecP (F x1)) := (hs.2 558 31 (by decide) (by decide)).trans kMd_31
      have m2 : c3 558 32 = mdY (vecP (F x1)) := (hs.2 558 32 (by decide) (by decide)).trans kMd_32
      have m3 : c3 558 33 = mdL (vecP (F x1)) := (hs.2 558 33 (by decide) (by decide)).trans kMd_33
      have m4 : c3 558 34 = mdS (vecP (F x1)) 0 := (hs.2 558 34 (by decide) (by decide)).trans kMd_34
      have m5 : c3 558 35 = mdS (vecP (F x1)) 1 := (hs.2 558 35 (by decide) (by decide)).trans kMd_35
      have g1 := kfar_no z
      have g3 := mdL_pos hb hne
      have s4 := mdS_bd hb hne 0
      have s5 := mdS_bd hb hne 1
      have s6 := mdS_pos hb hne
      rw [m4, m5]
      refine ⟨k64i (by omega), k64i (by omega), fun w1 => ?_, fun w1 => ⟨k64i (by omega), fun w2 => ?_, fun w2 => ?_⟩⟩
      · rw [if_pos w1] at hP; exact hP _ _ hrp rfl
      · rw [if_neg (by omega), if_neg (by omega)] at hP
        refine v_X11_power_103 hL r2 r3 r4 ?_
        rw [m1, m2, m3]
        refine v_X11_power_142 hL r4 ?_
        rw [m4, m5]
        unfold pwN at hP
        have k1 := kmul_bd (a := x2) (b := mdL (vecP (F x1))) (M := 99) (N := 10000) z2 (by omega)
        have k2 := kmul_bd (a := x3) (b := mdL (vecP (F x1))) (M := 99) (N := 10000) z3 (by omega)
        have ee : (99 : Int) * 10000 = 990000 := by decide
        rw [ee] at k1 k2
        have k3 := kmul_bd (a := x2 * mdL (vecP (F x1)) - mdX (vecP (F x1))) (b := x2 * mdL (vecP (F x1)) - mdX (vecP (F x1))) (M := 1000000) (N := 1000000) (by omega) (by omega)
        have k4 := kmul_bd (a := x3 * mdL (vecP (F x1)) - mdY (vecP (F x1))) (b := x3 * mdL (vecP (F x1)) - mdY (vecP (F x1))) (M := 1000000) (N := 1000000) (by omega) (by omega)
        have ee2 : (1000000 : Int) * 1000000 = 1000000000000 := by decide
        rw [ee2] at k3 k4
        have k5 := kmul_bd (a := (x2 * mdL (vecP (F x1)) - mdX (vecP (F x1))) * (x2 * mdL (vecP (F x1)) - mdX (vecP (F x1))) + (x3 * mdL (vecP (F x1)) - mdY (vecP (F x1))) * (x3 * mdL (vecP (F x1)) - mdY (vecP (F x1)))) (b := mdS (vecP (F x1)) 1) (M := 2000000000000) (N := 10000) (by omega) (by omega)
        have ee3 : (2000000000000 : Int) * 10000 = 20000000000000000 := by decide
        rw [ee3] at k5
        have k6 := kmul_bd (a := mdL (vecP (F x1))) (b := mdL (vecP (F x1))) (M := 10000) (N := 10000) (by omega) (by omega)
        have ee4 : (10000 : Int) * 10000 = 100000000 := by decide
        rw [ee4] at k6
        have k7 := kmul_bd (a := mdS (vecP (F x1)) 0) (b := mdL (vecP (F x1)) * mdL (vecP (F x1))) (M := 10000) (N := 100000000) (by omega) k6
        have ee5 : (10000 : Int) * 100000000 = 1000000000000 := by decide
        rw [ee5] at k7
        have k8 := kmul_bd (a := mdL (vecP (F x1)) * mdL (vecP (F x1))) (b := mdS (vecP (F x1)) 1) (M := 100000000) (N := 10000) k6 (by omega)
        have ee6 : (100000000 : Int) * 10000 = 1000000000000 := by decide
        rw [ee6] at k8
        have kp := Int.mul_pos (Int.mul_pos g3.1 g3.1) s6
        exact s_X11_lowest hL r4 (by unfold k63; omega) (by unfold k63; omega) (by omega) ⟨_, rfl, hP _ _ hrp rfl⟩
      · rw [if_neg (by omega), if_pos w2] at hP; exact hP _ _ hrp rfl
  · rw [if_neg (fun q => z (kMidB_iff.mp q))] at hP
    exact hP _ _ (s0.rp hs kFr.rf (by intro s p q; repeat (first | exact rfl | refine kUn (by omega) ?_ | exact hk s p q))) rfl
end MQ6
