section MQ9
variable {G : KG} {S0 : KSh} {d : Nat} {P : Option AV → KMem → Prop} {c c0 : KMem} {Φ : Int → KF} {H : Int → Bool} {F : Int → KF} {f g : KF} {M : Int} {x0 x1 x2 x3 x4 : Int}
theorem t_isTurnedBy (hL : kLay S0) (hg : kSgn c0) (hs : kPh Φ c0 c) (h1 : ∀ c', kPh (kU Φ x1 (trnP g f)) c0 c' → trnB g f = true → P (some (kI 1)) c') (h0 : ∀ c' a, kPh (kU Φ x1 a) c0 c' → ¬ trnB g f = true → P (some (kI 0)) c') (hp : 0 ≤ x1 ∧ x1 < 100 ∧ 0 ≤ x2 ∧ x2 < 100 ∧ x1 ≠ x2) (e : Φ x1 = f) (e2 : Φ x2 = g) (hb : kB kLB f) (hb2 : kB kLB g) : kC2 G S0 kM_X11_isTurnedBy (d + 3) [kA 558, kI x1, kI x2] c P := by
  have hi : trnB g f = true ↔ kWb (mulP 0 g f) = true ∧ kWb (mulP 0 (mulP 0 g f) g) = true := by unfold trnB; rw [Bool.and_eq_true]
  rw [hi] at h1 h0
  refine v_X11_isTurnedBy hL (by omega) (by omega) ?_
  refine t_joins hL hg hs (fun c2 hs => ⟨rfl, ?_⟩)
  refine t_isWithin hL hs (fun z => ⟨1, rfl, kq1 ?_⟩) (fun z => ⟨0, rfl, kq0 ?_⟩)
  · have b1 : kB kLB (mulP 0 g f) := kWb_iff.mp z
    refine t_joins hL hg hs (fun c2 hs => ⟨rfl, ?_⟩)
    refine t_isWithin hL hs (fun z => ⟨1, rfl, kq1 ?_⟩) (fun z => ⟨0, rfl, kq0 ?_⟩)
    · have b2 : kB kLB (mulP 0 (mulP 0 g f) g) := kWb_iff.mp z
      refine t_normals hL hs (fun c2 hs => ⟨rfl, h1 _ (hs.ex (fun s => ?_)) (And.intro (by assumption) z)⟩)
      unfold kU trnP; (repeat' split) <;> first | rfl | omega
    · exact h0 _ (mulP 0 (mulP 0 g f) g) (hs.ex (fun s => by unfold kU; (repeat' split) <;> first | rfl | omega)) (fun q => z q.2)
  · exact h0 _ _ hs (fun q => z q.1)
theorem s_X11_turned (hL : kLay S0) (r1 : k32 x1) (r2 : k32 x2) (r3 : k32 x3) (hs : RSt H F c) (h : ∀ c', kRP c c' → P (some (kI (vTurn H F x1 x2 x3))) c') : kC2 G S0 kM_X11_turned (d + 6) [kA 558, kI x1, kI x2, kI x3] c P := by
  obtain ⟨Φ, s0, hg, hst, hy, hn, e3, hl⟩ := hs.op
  have hP := kPi h
  unfold vTurn at hP
  refine v_X11_turned hL r1 r2 r3 ⟨hst, fun z1 => ?_, fun z1 => hP _ _ kRP.rf (by rw [if_neg (hn _ z1)])⟩
  have y1 := hy _ z1
  obtain ⟨a1, b1, e1, f1⟩ := hl _ y1
  rw [if_pos y1] at hP
  refine ⟨fun z2 => ?_, fun z2 => hP _ _ kRP.rf (by rw [if_neg (hn _ z2)])⟩
  have y2 := hy _ z2
  obtain ⟨a2, b2, e2, f2⟩ := hl _ y2
  rw [if_pos y2] at hP
  refine ⟨fun z3 => ?_, fun z3 => hP _ _ kRP.rf (by rw [if_neg z3])⟩
  rw [if_pos z3] at hP
  refine t_isMirror hL hg s0 (fun c1 a b hs z => ⟨1, rfl, kq1 ?_⟩) (fun c1 a b hs z => ⟨0, rfl, kq0 ?_⟩)
  · rw [if_pos (kMirB_iff.mpr z)] at hP
    refine t_laysVector hL hg hs (kMir_obj z) (fun c2 hs => ⟨rfl, ?_⟩)
    refine t_copies hL hs (fun c2 hs => ⟨rfl, ?_⟩)
    refine t_isTurnedBy hL hg hs (fun c3 hs q => ⟨1, rfl, kr1 ?_⟩) (fun c3 a hs q => ⟨0, rfl, kr0 ?_⟩) (by omega) kUs (by repeat (first | with_reducible exact kUs | with_reducible assumption | (with_reducible apply kUn; omega) | exact rfl)) f1 (vecP_bd f2)
    · rw [if_pos q] at hP
      exact hP _ _ (s0.rp hs kFr.rf (by intro s p q; repeat (first | exact rfl | refine kUn (by omega) ?_ | exact hk s p q))) (hs.e (s := 25) (by omega) kUs x3 (by omega) (by omega))
    · rw [if_neg q] at hP
      exact hP _ _ (s0.rp hs kFr.rf (by intro s p q; repeat (first | exact rfl | refine kUn (by omega) ?_ | exact hk s p q))) rfl
  · rw [if_neg (fun q => z (kMirB_iff.mp q))] at hP
    exact hP _ _ (s0.rp hs kFr.rf (by intro s p q; repeat (first | exact rfl | refine kUn (by omega) ?_ | exact hk s p q))) rfl
theorem t_mirrors (hL : kLay S0) (hg : kSgn c0) (hs : kPh Φ c0 c) (h1 : ∀ c', kPh (kU (kU Φ x2 (mulP 0 f g)) x1 (mirP f g)) c0 c' → mirB f g = true → P (some (kI 1)) c') (h0 : ∀ c' a b, kPh (kU (kU Φ x2 a) x1 b) c0 c' → ¬ mirB f g = true → P (some (kI 0)) c') (hp : 0 ≤ x1 ∧ x1 < 100 ∧ 0 ≤ x2 ∧ x2 < 100 ∧ x1 ≠ x2) (e : Φ x1 = f) (e2 : Φ x2 = g) (hb : kB kLB f) (hb2 : kB kLB g) : kC2 G S0 kM_X11_mirrors (d + 2) [kA 558, kI x1, kI x2] c P := by
  have hi : mirB f g = true ↔ kWb (mulP 0 f g) = true ∧ kWb (mulP 0 (mulP 0 f g) (revP f)) = true := by unfold mirB; rw [Bool.and_eq_true]
  rw [hi] at h1 h0
  refine v_X11_mirrors hL (by omega) (by omega) ?_
  refine t_joins hL hg hs (fun c2 hs => ⟨rfl, ?_⟩)
  refine t_isWithin hL hs (fun z => ⟨1, rfl, kq1 ?_⟩) (fun z => ⟨0, rfl, kq0 ?_⟩)
  · have b1 : kB kLB (mulP 0 f g) := kWb_iff.mp z
    have b2 : kB kLB (revP f) := revP_bd hb
    refine t_reverses hL hs (fun c2 hs => ⟨rfl, ?_⟩)
    refine t_joins hL hg hs (fun c2 hs => ⟨rfl, ?_⟩)
    have e9 : kU (kU (kU (kU Φ x2 (mulP 0 f g)) x1 (revP f)) x1 (mulP 0 (mulP 0 f g) (revP f))) x1 = kU (kU (kU (kU Φ x2 (mulP 0 f g)) x1 (revP f)) x1 (mulP 0 (mulP 0 f g) (revP f))) x1 := rfl
    refine t_isWithin hL hs (fun w => ⟨1, rfl, ko1 (h1 _ (hs.ex (fun s => ?_)) ⟨z, w⟩)⟩) (fun w => ⟨0, rfl, ko0 (h0 _ (mulP 0 f g) (mulP 0 (mulP 0 f g) (revP f)) (hs.ex (fun s => ?_)) (fun q => w q.2))⟩)
    · unfold kU mirP; (repeat' split) <;> first | rfl | omega
    · unfold kU; (repeat' split) <;> first | rfl | omega
  · exact h0 _ (mulP 0 f g) f (hs.ex (fun s => by unfold kU; (repeat' split) <;> first | rfl | omega | (rename_i q _; rw [q]; exact e.symm) | (rename_i q; rw [q]; exact e.symm))) (fun q => z q.1)
theorem s_X11_brings (hL : kLay S0) (r1 : k32 x1) (r2 : k32 x2) (r3 : k32 x3) (r4 : k32 x4) (hs : RSt H F c) (h : ∀ c', kRP c c' → P (some (kL (vBring H F x1 x2 x3 x4))) c') : kC2 G S0 kM_X11_brings (d + 6) [kA 558, kI x1, kI x2, kI x3, kI x4] c P := by
  obtain ⟨Φ, s0, hg, hst, hy, hn, e3, hl⟩ := hs.op
  have hP := kPl h
  unfold vBring at hP
  refine v_X11_brings hL r1 r2 r3 r4 ⟨hst, fun z1 => ?_, fun z1 => hP _ _ kRP.rf (by rw [if_neg (hn _ z1)])⟩
  have y1 := hy _ z1
  obtain ⟨a1, b1, e1, f1⟩ := hl _ y1
  rw [if_pos y1] at hP
  refine ⟨fun z2 => ?_, fun z2 => hP _ _ kRP.rf (by rw [if_neg z2])⟩
  rw [if_pos z2] at hP
  refine ⟨fun z3 => ?_, fun z3 => hP _ _ kRP.rf (by rw [if_neg z3])⟩
  rw [if_pos z3] at hP
  refine ⟨fun z4 => ?_, fun z4 => hP _ _ kRP.rf (by rw [if_neg z4])⟩
  rw [if_pos z4] at hP
  refine t_isMotion hL hg s0 (fun c1 a b hs z => ⟨1, rfl, kq1 ?_⟩) (fun c1 a b hs z => ⟨0, rfl, kq0 ?_⟩)
  · rw [if_pos z] at hP
    have bp : kB kLB (plcP x2 x3) := plcP_bd z2 z3
    refine t_laysPlace hL hs (fun c2 hs => ⟨rfl, ?_⟩)
    refine t_copies hL hs (fun c2 hs => ⟨rfl, ?_⟩)
    refine t_mirrors hL hg hs (fun c3 hs q => ⟨1, rfl, kr1 ?_⟩) (fun c3 a b hs q => ⟨0, rfl, kr0 ?_⟩) (by omega) kUs (by repeat (first | with_reducible exact kUs | with_reducible assumption | (with_reducible apply kUn; omega) | exact rfl)) f1 bp
    · rw [if_pos q] at hP
      have q2 := q
      unfold mirB at q2
      rw [Bool.and_eq_true] at q2
      refine t_pointAt hL hg hs (fun Φ' c1 c' hs hf hk => ⟨_, rfl, ?_⟩) z4 (by omega) kUs (by repeat (first | with_reducible exact kUs | with_reducible assumption | (with_reducible apply kUn; omega) | exact rfl)) (kWb_iff.mp q2.2) (by decide)
      exact hP _ _ (s0.rp hs hf (by intro s p q; refine (hk s p q).trans ?_; repeat (first | exact rfl | refine kUn (by omega) ?_))) rfl
    · rw [if_neg q] at hP
      exact hP _ _ (s0.rp hs kFr.rf (by intro s p q; repeat (first | exact rfl | refine kUn (by omega) ?_ | exact hk s p q))) rfl
  · rw [if_neg z] at hP
    exact hP _ _ (s0.rp hs kFr.rf (by intro s p q; repeat (first | exact rfl | refine kUn (by omega) ?_ | exact hk s p q))) rfl
end MQ9
