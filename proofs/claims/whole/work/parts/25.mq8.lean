section MQ8
variable {G : KG} {S0 : KSh} {d : Nat} {P : Option AV → KMem → Prop} {c c0 : KMem} {Φ : Int → KF} {H : Int → Bool} {F : Int → KF} {f g : KF} {M : Int} {x0 x1 x2 x3 x4 : Int}
theorem kPh.set {t k v : Int} (h : kPh Φ c0 c) (e : Φ t = f) (hk : 0 ≤ k ∧ k < 16) : kPh (kU Φ t (kSetF f k v)) c0 (kup c 559 (16 * t + k) v) := by
  refine ⟨fun s h0 j j0 j1 => ?_, fun x i a b => (kup_n (Or.inl a)).trans (h.2 x i a b)⟩
  rw [kF_up hk ⟨j0, j1⟩]
  unfold kU
  by_cases q : s = t
  · rw [if_pos q]
    unfold kSetF
    by_cases w : j = k
    · rw [if_pos ⟨q, w⟩, if_pos w]
    · rw [if_neg (fun z => w z.2), if_neg w, q, ← e]; exact h.1 t (by omega) j j0 j1
  · rw [if_neg q, if_neg (fun z => q z.1)]; exact h.1 s h0 j j0 j1
theorem t_endOf (hL : kLay S0) (hg : kSgn c0) (hs : kPh Φ c0 c) {r : Int} (hq : 0 ≤ mulP 0 f f 0) (hr : r = if x3 = 0 then krtI (mulP 0 f f 0) else -krtI (mulP 0 f f 0)) (h : ∀ (Φ' : Int → KF) c1 c', kPh Φ' c1 c' → kFr c0 c1 → (∀ s : Int, 0 ≤ s → s < 12 ∨ s = 30 → Φ' s = Φ s) → krtI (mulP 0 f f 0) * krtI (mulP 0 f f 0) = mulP 0 f f 0 → P (some (kL (endN f r x2))) c') (h0 : ∀ (Φ' : Int → KF) c1 c', kPh Φ' c1 c' → kFr c0 c1 → (∀ s : Int, 0 ≤ s → s < 12 ∨ s = 30 → Φ' s = Φ s) → ¬ krtI (mulP 0 f f 0) * krtI (mulP 0 f f 0) = mulP 0 f f 0 → P (some (kL kNR)) c') (hw : 0 ≤ x2 ∧ x2 ≤ 2) (h3 : x3 = 0 ∨ x3 = 1) (hp : 0 ≤ x1 ∧ x1 < 12) (e : Φ x1 = f) (e3 : Φ 30 = farP) (hb : kB kLB f) : kC2 G S0 kM_X11_endOf (d + 6) [kA 558, kI x1, kI x2, kI x3] c P := by
  have q1 := mulP_bdL (kd := 0) hb hb 0 (by omega) (by omega)
  have f0 : -100000000 ≤ f 0 ∧ f 0 ≤ 100000000 := hb 0 (by omega) (by omega)
  refine v_X11_endOf hL (by omega) (by omega) (by omega) ?_
  refine t_squareOf hL hg hs (fun c2 b hs => ⟨_, rfl, ?_⟩)
  have hrt := krt_is (mulP 0 f f 0).toNat
  have hrb : krtI (mulP 0 f f 0) ≤ 1000000000 := by
    unfold krtI
    apply Classical.byContradiction
    intro w
    have := Nat.mul_le_mul (show 1000000000 ≤ krt (mulP 0 f f 0).toNat by omega) (show 1000000000 ≤ krt (mulP 0 f f 0).toNat by omega)
    omega
  have hr0 : 0 ≤ krtI (mulP 0 f f 0) := by unfold krtI; omega
  refine s_X11_rootOf hL (by omega) ⟨_, rfl, ?_⟩
  have hm := kmul_bd (a := krtI (mulP 0 f f 0)) (b := krtI (mulP 0 f f 0)) (M := 1000000000) (N := 1000000000) (by omega) (by omega)
  have ee : (1000000000 : Int) * 1000000000 = 1000000000000000000 := by decide
  rw [ee] at hm
  refine ⟨k64i (by omega), k64i (by omega), fun z => ?_, fun z => h0 _ _ _ hs kFr.rf (by intro s p q; repeat (first | exact rfl | refine kUn (by omega) ?_ | exact hk s p q)) z⟩
  refine t_copies hL hs (fun c3 hs => ⟨rfl, ?_⟩)
  have E0 : c3 559 (16 * 24 + 0) = f 0 := hs.e (s := 24) (by omega) kUs 0 (by omega) (by omega)
  have main : ∀ c4, kPh (kU (kU (kU Φ 31 b) 24 f) 24 (kSetF f 0 (f 0 + r))) c0 c4 → kW2 G S0 kM_X11_endOf (d + 6) 63 [some (kA 558), some (kI x1), some (kI x2), none, none, none, none, none] [] c4 P := by
    intro c4 hs
    have hset : kB 2000000000 (kSetF f 0 (f 0 + r)) := kSetF_bd hb (by decide) (by rw [hr]; split <;> omega)
    have b25 : kB 200000000 (mulP 2 farP f) := kfar2 hb
    unfold endN at h
    refine v_X11_endOf_63 hL (by omega) (by omega) ?_
    refine t_joins hL hg hs (fun c5 hs => ⟨rfl, ?_⟩)
    refine t_isWithin hL hs (fun w => ⟨1, rfl, kr1 ?_⟩) (fun w => ⟨0, rfl, kr0 ?_⟩)
    · rw [if_pos w] at h
      refine t_isWithin hL hs (fun w => ⟨1, rfl, kq1 ?_⟩) (fun w => ⟨0, rfl, kq0 ?_⟩)
      · rw [if_pos w] at h
        have g1 : kB kLB (kSetF f 0 (f 0 + r)) := kWb_iff.mp (by assumption)
        have g2 : kB kLB (mulP 2 farP f) := kWb_iff.mp w
        refine t_joins hL hg hs (fun c6 hs => ⟨rfl, ?_⟩)
        refine t_pointAt hL hg hs (fun Φ' c1 c' hs hf hk => ⟨_, rfl, ?_⟩) hw (by omega) kUs (by repeat (first | with_reducible exact kUs | with_reducible assumption | (with_reducible apply kUn; omega) | exact rfl)) (mulP_bdL g1 g2) (by decide)
        exact h _ _ _ hs hf (by intro s p q; refine (hk s p q).trans ?_; repeat (first | exact rfl | refine kUn (by omega) ?_)) z
      · rw [if_neg w] at h
        exact h _ _ _ hs kFr.rf (by intro s p q; repeat (first | exact rfl | refine kUn (by omega) ?_ | exact hk s p q)) z
    · rw [if_neg w] at h
      exact h _ _ _ hs kFr.rf (by intro s p q; repeat (first | exact rfl | refine kUn (by omega) ?_ | exact hk s p q)) z
  dsimp only
  rw [E0]
  refine ⟨fun w => main _ ?_, fun w => main _ ?_⟩
  · rw [hr, if_pos w]; exact hs.set kUs (by omega)
  · rw [hr, if_neg w]; exact hs.set kUs (by omega)
theorem kMir_obj {k : Int} (h : kMir k) : kObj k := by unfold kMir at h; unfold kObj; omega
theorem kind_20 (h : kind f = 20) : 0 ≤ mulP 0 f f 0 := by
  have h1 := kOne_rg f; have h2 := kOne_rg (whlP (-1) f)
  unfold kind at h
  repeat' split at h
  all_goals first | omega | skip
  unfold kTwo at h
  repeat' split at h
  all_goals omega
theorem s_X11_pair (hL : kLay S0) (r1 : k32 x1) (r2 : k32 x2) (hs : RSt H F c) (h : ∀ c', kRP c c' → P (some (kL (vPair H F x1 x2))) c') : kC2 G S0 kM_X11_pair (d + 7) [kA 558, kI x1, kI x2] c P := by
  obtain ⟨Φ, s0, hg, hst, hy, hn, e3, hl⟩ := hs.op
  have hP := kPl h
  unfold vPair at hP
  refine v_X11_pair hL r1 r2 ⟨hst, fun z1 => ?_, fun z1 => hP _ _ kRP.rf (by rw [if_neg (hn _ z1)])⟩
  have y1 := hy _ z1
  obtain ⟨a1, b1, e1, f1⟩ := hl _ y1
  rw [if_pos y1] at hP
  refine ⟨fun z2 => ?_, fun z2 => hP _ _ kRP.rf (by rw [if_neg z2])⟩
  rw [if_pos z2] at hP
  have hk1 := kind_rg (F x1)
  refine t_kindOf hL hg s0 (fun c1 a b hs => ⟨_, rfl, ?_⟩)
  refine ⟨k32i (by omega), fun z => ?_, fun z => ?_⟩
  · rw [if_pos z] at hP
    unfold prN at hP
    have rest : ¬ (kind (F x1) ≠ 20 ∧ 4 < x2) → kW2 G S0 kM_X11_pair (d + 7) 50 [some (kA 558), some (kI x1), some (kI x2), none] [] c1 P := by
      intro nn
      rw [if_neg nn] at hP
      refine v_X11_pair_50 hL r1 r2 ⟨fun w1 => ⟨fun w2 => ?_, fun w2 => ?_⟩, fun w1 => ?_⟩
      · rw [if_neg (by omega), if_neg (by omega)] at hP
        have k20 : kind (F x1) = 20 := by omega
        have hq : 0 ≤ mulP 0 (F x1) (F x1) 0 := kind_20 k20
        refine ⟨fun w3 => ?_, fun w3 => ?_⟩
        · refine t_endOf (r := -krtI (mulP 0 (F x1) (F x1) 0)) hL hg hs hq (by rw [if_neg (by decide)]) (fun Φ' c1 c' hs hf hk q => ⟨_, rfl, ?_⟩) (fun Φ' c1 c' hs hf hk q => ⟨_, rfl, ?_⟩) (by omega) (by omega) (by omega) (by repeat (first | with_reducible exact kUs | with_reducible assumption | (with_reducible apply kUn; omega) | exact rfl)) (by repeat (first | with_reducible exact kUs | with_reducible assumption | (with_reducible apply kUn; omega) | exact rfl)) f1
          · rw [if_pos q, if_neg (by omega)] at hP
            exact hP _ _ (s0.rp hs hf (by intro s p q; refine (hk s p q).trans ?_; repeat (first | exact rfl | refine kUn (by omega) ?_))) rfl
          · rw [if_neg q] at hP
            exact hP _ _ (s0.rp hs hf (by intro s p q; refine (hk s p q).trans ?_; repeat (first | exact rfl | refine kUn (by omega) ?_))) rfl
        · refine t_endOf (r := krtI (mulP 0 (F x1) (F x1) 0)) hL hg hs hq (by rw [if_pos rfl]) (fun Φ' c1 c' hs hf hk q => ⟨_, rfl, ?_⟩) (fun Φ' c1 c' hs hf hk q => ⟨_, rfl, ?_⟩) (by omega) (by omega) (by omega) (by repeat (first | with_reducible exact kUs | with_reducible assumption | (with_reducible apply kUn; omega) | exact rfl)) (by repeat (first | with_reducible exact kUs | with_reducible assumption | (with_reducible apply kUn; omega) | exact rfl)) f1
          · rw [if_pos q, if_pos (by omega)] at hP
            exact hP _ _ (s0.rp hs hf (by intro s p q; refine (hk s p q).trans ?_; repeat (first | exact rfl | refine kUn (by omega) ?_))) rfl
          · rw [if_neg q] at hP
            exact hP _ _ (s0.rp hs hf (by intro s p q; refine (hk s p q).trans ?_; repeat (first | exact rfl | refine kUn (by omega) ?_))) rfl
      · rw [if_neg (by omega), if_pos w2] at hP
        refine t_half hL hg hs (fun Φ' c1 c' hs hf hk => ⟨_, rfl, ?_⟩) (k32i (by omega)) (by omega) (by repeat (first | with_reducible exact kUs | with_reducible assumption | (with_reducible apply kUn; omega) | exact rfl)) (by repeat (first | with_reducible exact kUs | with_reducible assumption | (with_reducible apply kUn; omega) | exact rfl)) f1
        exact hP _ _ (s0.rp hs hf (by intro s p q; refine (hk s p q).trans ?_; repeat (first | exact rfl | refine kUn (by omega) ?_))) rfl
      · rw [if_pos w1] at hP
        refine t_pairMiddle hL hg hs (fun Φ' c1 c' hs hf hk => ⟨_, rfl, ?_⟩) (by omega) (by omega) (by repeat (first | with_reducible exact kUs | with_reducible assumption | (with_reducible apply kUn; omega) | exact rfl)) (by repeat (first | with_reducible exact kUs | with_reducible assumption | (with_reducible apply kUn; omega) | exact rfl)) f1
        exact hP _ _ (s0.rp hs hf (by intro s p q; refine (hk s p q).trans ?_; repeat (first | exact rfl | refine kUn (by omega) ?_))) rfl
    refine ⟨fun w => rest (by omega), fun w => ⟨fun w2 => rest (by omega), fun w2 => ?_⟩⟩
    rw [if_pos ⟨w, w2⟩] at hP
    exact hP _ _ (s0.rp hs kFr.rf (by intro s p q; repeat (first | exact rfl | refine kUn (by omega) ?_ | exact hk s p q))) rfl
  · rw [if_neg z] at hP
    exact hP _ _ (s0.rp hs kFr.rf (by intro s p q; repeat (first | exact rfl | refine kUn (by omega) ?_ | exact hk s p q))) rfl
theorem s_X11_stand (hL : kLay S0) (r1 : k32 x1) (r2 : k32 x2) (hs : RSt H F c) (h : ∀ c', kRP c c' → P (some (kI (vStand H F x1 x2))) c') : kC2 G S0 kM_X11_stand (d + 6) [kA 558, kI x1, kI x2] c P := by
  obtain ⟨Φ, s0, hg, hst, hy, hn, e3, hl⟩ := hs.op
  have hP := kPi h
  unfold vStand at hP
  refine v_X11_stand hL r1 r2 ⟨hst, fun z1 => ?_, fun z1 => hP _ _ kRP.rf (by rw [if_neg (hn _ z1)])⟩
  have y1 := hy _ z1
  obtain ⟨a1, b1, e1, f1⟩ := hl _ y1
  rw [if_pos y1] at hP
  refine ⟨fun z2 => ?_, fun z2 => hP _ _ kRP.rf (by rw [if_neg (hn _ z2)])⟩
  have y2 := hy _ z2
  obtain ⟨a2, b2, e2, f2⟩ := hl _ y2
  rw [if_pos y2] at hP
  refine t_isMirror hL hg s0 (fun c1 a b hs z => ⟨1, rfl, kr1 ?_⟩) (fun c1 a b hs z => ⟨0, rfl, kr0 ?_⟩)
  · rw [if_pos (kMirB_iff.mpr z)] at hP
    have o1 := kMir_obj z
    refine t_isMirror hL hg hs (fun c1 a b hs z => ⟨1, rfl, kq1 ?_⟩) (fun c1 a b hs z => ⟨0, rfl, kq0 ?_⟩)
    · rw [if_pos (kMirB_iff.mpr z)] at hP
      refine t_laysVector hL hg hs o1 (fun c2 hs => ⟨rfl, ?_⟩)
      refine t_laysVector hL hg hs (kMir_obj z) (fun c2 hs => ⟨rfl, ?_⟩)
      refine t_innerOf hL hg hs (fun c2 b hs => ⟨_, rfl, ?_⟩)
      refine t_squareOf hL hg hs (fun c2 b hs => ⟨_, rfl, ?_⟩)
      refine t_squareOf hL hg hs (fun c2 b hs => ⟨_, rfl, ?_⟩)
      have i1 := mulP_bdL (kd := 2) (vecP_bd f1) (vecP_bd f2) 0 (by omega) (by omega)
      have p1 := mulP_bdL (kd := 0) (vecP_bd f1) (vecP_bd f1) 0 (by omega) (by omega)
      have q1 := mulP_bdL (kd := 0) (vecP_bd f2) (vecP_bd f2) 0 (by omega) (by omega)
      have hrp : kRP c c2 := s0.rp hs kFr.rf (by intro s p q; repeat (first | exact rfl | refine kUn (by omega) ?_ | exact hk s p q))
      revert hP i1 p1 q1
      generalize mulP 2 (vecP (F x1)) (vecP (F x2)) 0 = i
      generalize mulP 0 (vecP (F x1)) (vecP (F x1)) 0 = p
      generalize mulP 0 (vecP (F x2)) (vecP (F x2)) 0 = q
      intro hP i1 p1 q1
      unfold stdN at hP
      refine ⟨k64i (by omega), k64i (by omega), fun w1 => ?_, fun w1 => ⟨k64i (by omega), k64i (by omega), fun w2 => ?_, fun w2 => ⟨k64i (by omega), k64i (by omega), fun w3 => ?_, fun w3 => ?_⟩⟩⟩
      · rw [if_pos w1] at hP; exact hP _ _ hrp rfl
      · rw [if_neg (by omega), if_pos w2] at hP; exact hP _ _ hrp rfl
      · rw [if_neg (by omega), if_neg (by omega), if_neg (by omega)] at hP
        have j1 := kmul_bd (a := i) (b := i) (M := 100000000) (N := 100000000) (by omega) (by omega)
        have j2 := kmul_bd (a := p) (b := q) (M := 100000000) (N := 100000000) (by omega) (by omega)
        have ee : (100000000 : Int) * 100000000 = 10000000000000000 := by decide
        rw [ee] at j1 j2
        refine ⟨k64i (by omega), fun w6 => ⟨fun w7 => ?_, fun w7 => ?_⟩, fun w6 => ?_⟩
        · rw [if_neg (by omega), if_neg w7] at hP; exact hP _ _ hrp rfl
        · rw [if_neg (by omega), if_pos w7] at hP; exact hP _ _ hrp rfl
        · rw [if_pos w6] at hP; exact hP _ _ hrp rfl
      · rw [if_neg (by omega), if_neg (by omega), if_pos w3] at hP; exact hP _ _ hrp rfl
    · rw [if_neg (fun q => z (kMirB_iff.mp q))] at hP
      exact hP _ _ (s0.rp hs kFr.rf (by intro s p q; repeat (first | exact rfl | refine kUn (by omega) ?_ | exact hk s p q))) rfl
  · rw [if_neg (fun q => z (kMirB_iff.mp q))] at hP
    exact hP _ _ (s0.rp hs kFr.rf (by intro s p q; repeat (first | exact rfl | refine kUn (by omega) ?_ | exact hk s p q))) rfl
theorem s_X11_bundle (hL : kLay S0) (r1 : k32 x1) (r2 : k32 x2) (r3 : k32 x3) (hs : RSt H F c) (h : ∀ c', kRP c c' → P (some (kI (vBundle H F x1 x2 x3))) c') : kC2 G S0 kM_X11_bundle (d + 6) [kA 558, kI x1, kI x2, kI x3] c P := by
  obtain ⟨Φ, s0, hg, hst, hy, hn, e3, hl⟩ := hs.op
  have hP := kPi h
  unfold vBundle at hP
  refine v_X11_bundle hL r1 r2 r3 ⟨hst, fun z1 => ?_, fun z1 => hP _ _ kRP.rf (by rw [if_neg (hn _ z1)])⟩
  have y1 := hy _ z1
  obtain ⟨a1, b1, e1, f1⟩ := hl _ y1
  rw [if_pos y1] at hP
  refine ⟨fun z2 => ?_, fun z2 => hP _ _ kRP.rf (by rw [if_neg (hn _ z2)])⟩
  have y2 := hy _ z2
  obtain ⟨a2, b2, e2, f2⟩ := hl _ y2
  rw [if_pos y2] at hP
  refine ⟨fun z3 => ?_, fun z3 => hP _ _ kRP.rf (by rw [if_neg (hn _ z3)])⟩
  have y3 := hy _ z3
  obtain ⟨a3, b3, e4, f3⟩ := hl _ y3
  rw [if_pos y3] at hP
  refine t_isMirror hL hg s0 (fun c1 a b hs z => ⟨1, rfl, kr1 ?_⟩) (fun c1 a b hs z => ⟨0, rfl, kr0 ?_⟩)
  · rw [if_pos (kMirB_iff.mpr z)] at hP
    have o1 := kMir_obj z
    refine t_isMirror hL hg hs (fun c1 a b hs z => ⟨1, rfl, kr1 ?_⟩) (fun c1 a b hs z => ⟨0, rfl, kr0 ?_⟩)
    · rw [if_pos (kMirB_iff.mpr z)] at hP
      have o2 := kMir_obj z
      refine t_isMirror hL hg hs (fun c1 a b hs z => ⟨1, rfl, kq1 ?_⟩) (fun c1 a b hs z => ⟨0, rfl, kq0 ?_⟩)
      · rw [if_pos (kMirB_iff.mpr z)] at hP
        refine t_laysVector hL hg hs o1 (fun c2 hs => ⟨rfl, ?_⟩)
        refine t_laysVector hL hg hs o2 (fun c2 hs => ⟨rfl, ?_⟩)
        refine t_laysVector hL hg hs (kMir_obj z) (fun c2 hs => ⟨rfl, ?_⟩)
        refine t_normals hL hs (fun c2 hs => ⟨rfl, ?_⟩)
        refine t_normals hL hs (fun c2 hs => ⟨rfl, ?_⟩)
        refine t_joins hL hg hs (fun c2 hs => ⟨rfl, ?_⟩)
        refine t_normals hL hs (fun c2 hs => ⟨rfl, ?_⟩)
        unfold bndP at hP
        refine t_isWithin hL hs (fun w => ⟨1, rfl, kq1 ?_⟩) (fun w => ⟨0, rfl, kq0 ?_⟩)
        · rw [if_pos w] at hP
          have bw : kB kLB (nrmP (mulP 1 (nrmP (vecP (F x1))) (nrmP (vecP (F x2))))) := kWb_iff.mp w
          refine t_joins hL hg hs (fun c2 hs => ⟨rfl, ?_⟩)
          have bj := mulP_bdL (kd := 1) bw (vecP_bd f3)
          refine t_isNothing hL hs (fun w => ⟨1, rfl, kr1 ?_⟩) (fun w => ⟨0, rfl, kr0 ?_⟩)
          · rw [if_pos w] at hP
            exact hP _ _ (s0.rp hs kFr.rf (by intro s p q; repeat (first | exact rfl | refine kUn (by omega) ?_ | exact hk s p q))) rfl
          · rw [if_neg w] at hP
            exact hP _ _ (s0.rp hs kFr.rf (by intro s p q; repeat (first | exact rfl | refine kUn (by omega) ?_ | exact hk s p q))) rfl
        · rw [if_neg w] at hP
          exact hP _ _ (s0.rp hs kFr.rf (by intro s p q; repeat (first | exact rfl | refine kUn (by omega) ?_ | exact hk s p q))) rfl
      · rw [if_neg (fun q => z (kMirB_iff.mp q))] at hP
        exact hP _ _ (s0.rp hs kFr.rf (by intro s p q; repeat (first | exact rfl | refine kUn (by omega) ?_ | exact hk s p q))) rfl
    · rw [if_neg (fun q => z (kMirB_iff.mp q))] at hP
      exact hP _ _ (s0.rp hs kFr.rf (by intro s p q; repeat (first | exact rfl | refine kUn (by omega) ?_ | exact hk s p q))) rfl
  · rw [if_neg (fun q => z (kMirB_iff.mp q))] at hP
    exact hP _ _ (s0.rp hs kFr.rf (by intro s p q; repeat (first | exact rfl | refine kUn (by omega) ?_ | exact hk s p q))) rfl
end MQ8
