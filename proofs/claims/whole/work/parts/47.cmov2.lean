theorem kCh.cv {Ψ : Int → KF} {c0 c : KMem} {t : Int} {f g : KF} (h : kCh (kU Ψ t f) c0 c) (e : kEq f g) : kCh (kU Ψ t g) c0 c := by
  refine ⟨fun a => ?_, h.2⟩
  have := h.1 a
  unfold kU at this ⊢
  by_cases q : a = t
  · rw [if_pos q] at this ⊢; exact this.tr e
  · rw [if_neg q] at this ⊢; exact this
theorem kCh.set {Ψ : Int → KF} {c0 c : KMem} {t k v : Int} {f : KF} (h : kCh Ψ c0 c) (e : Ψ t = f) (ht : kSc t) : kCh (kU Ψ t (kSetF f k v)) c0 (kup c t k v) := by
  refine h.s1 ht (fun j a b => ?_) kO.rf.up
  show kup c t k v t j = if j = k then v else f j
  by_cases q : j = k
  · rw [q, kup_s, if_pos rfl]
  · rw [kup_n (Or.inr q), if_neg q]; exact h.e e j a b
theorem mdN_3 {f : KF} {w : Int} (h : 0 ≤ w ∧ w ≤ 2) : mdN f w = (if w = 0 then mdX f else if w = 1 then mdY f else mdL f) := by
  unfold mdN
  by_cases a : w = 0
  · rw [if_pos a, if_pos a]
  · by_cases b : w = 1
    · rw [if_neg a, if_neg a, if_pos b, if_pos b]
    · rw [if_neg a, if_neg a, if_neg b, if_neg b, if_pos (by omega)]
theorem vec_rev {f : KF} (h : kObj (kind f)) : kEq (revP (vecP f)) (vecP f) := by
  intro k a b
  obtain ⟨n, rfl⟩ := kint_nat a
  unfold revP
  split
  · next q =>
    rw [show ((n : Nat) : Int).toNat = n by omega] at q
    rw [vec_1 h (by omega) (by omega)]; rfl
  · rfl
/-- two KFs' frames: which places of PSI are as they were -/
def kKp (Ψ Ψ' : Int → KF) (a b e : Int) : Prop := ∀ s : Int, s ≠ a → s ≠ b → s ≠ e → Ψ' s = Ψ s
section CMV
variable {G : KG} {S0 : KSh} {d : Nat} {P : Option AV → KMem → Prop} {c c0 : KMem} {Ψ : Int → KF} {H : Int → Bool} {F : Int → KF} {f g s sg : KF} {M : Int} {x0 x1 x2 x3 x4 : Int}
theorem tc_mirror (hL : kLay S0) (hs : kCh Ψ c0 c) (h1 : ∀ Ψ' c', kCh Ψ' c0 c' → Ψ' x4 = mirP f g → kKp Ψ Ψ' x2 x3 x4 → mirB f g = true → P (some (kI 1)) c') (h0 : ∀ Ψ' c', kCh Ψ' c0 c' → kKp Ψ Ψ' x2 x3 x4 → ¬ mirB f g = true → P (some (kI 0)) c') (hx0 : S0.2.1 x0 = (2, 16) := by first | with_reducible assumption | with_reducible exact lsh_555 hL | with_reducible exact lsh_556 hL | with_reducible exact lsh_557 hL | with_reducible exact lsh_524 hL | with_reducible exact lsh_525 hL | with_reducible exact lsh_526 hL | with_reducible exact lsh_527 hL | with_reducible exact lsh_529 hL | with_reducible exact lsh_530 hL | with_reducible exact lsh_531 hL | with_reducible exact lsh_532 hL | with_reducible exact lsh_549 hL | with_reducible exact lsh_550 hL | with_reducible exact lsh_551 hL | with_reducible exact lsh_552 hL) (hx1 : S0.2.1 x1 = (2, 16) := by first | with_reducible assumption | with_reducible exact lsh_555 hL | with_reducible exact lsh_556 hL | with_reducible exact lsh_557 hL | with_reducible exact lsh_524 hL | with_reducible exact lsh_525 hL | with_reducible exact lsh_526 hL | with_reducible exact lsh_527 hL | with_reducible exact lsh_529 hL | with_reducible exact lsh_530 hL | with_reducible exact lsh_531 hL | with_reducible exact lsh_532 hL | with_reducible exact lsh_549 hL | with_reducible exact lsh_550 hL | with_reducible exact lsh_551 hL | with_reducible exact lsh_552 hL) (hx2 : S0.2.1 x2 = (2, 16) := by first | with_reducible assumption | with_reducible exact lsh_555 hL | with_reducible exact lsh_556 hL | with_reducible exact lsh_557 hL | with_reducible exact lsh_524 hL | with_reducible exact lsh_525 hL | with_reducible exact lsh_526 hL | with_reducible exact lsh_527 hL | with_reducible exact lsh_529 hL | with_reducible exact lsh_530 hL | with_reducible exact lsh_531 hL | with_reducible exact lsh_532 hL | with_reducible exact lsh_549 hL | with_reducible exact lsh_550 hL | with_reducible exact lsh_551 hL | with_reducible exact lsh_552 hL) (hx3 : S0.2.1 x3 = (2, 16) := by first | with_reducible assumption | with_reducible exact lsh_555 hL | with_reducible exact lsh_556 hL | with_reducible exact lsh_557 hL | with_reducible exact lsh_524 hL | with_reducible exact lsh_525 hL | with_reducible exact lsh_526 hL | with_reducible exact lsh_527 hL | with_reducible exact lsh_529 hL | with_reducible exact lsh_530 hL | with_reducible exact lsh_531 hL | with_reducible exact lsh_532 hL | with_reducible exact lsh_549 hL | with_reducible exact lsh_550 hL | with_reducible exact lsh_551 hL | with_reducible exact lsh_552 hL) (hx4 : S0.2.1 x4 = (2, 16) := by first | with_reducible assumption | with_reducible exact lsh_555 hL | with_reducible exact lsh_556 hL | with_reducible exact lsh_557 hL | with_reducible exact lsh_524 hL | with_reducible exact lsh_525 hL | with_reducible exact lsh_526 hL | with_reducible exact lsh_527 hL | with_reducible exact lsh_529 hL | with_reducible exact lsh_530 hL | with_reducible exact lsh_531 hL | with_reducible exact lsh_532 hL | with_reducible exact lsh_549 hL | with_reducible exact lsh_550 hL | with_reducible exact lsh_551 hL | with_reducible exact lsh_552 hL) (ne : x0 ≠ x2 ∧ x1 ≠ x2 ∧ x0 ≠ x3 ∧ x2 ≠ x3 ∧ x2 ≠ x4 ∧ x3 ≠ x4 := by omega) (e1 : Ψ x0 = f := by repeat (first | with_reducible exact kUs | with_reducible assumption | (with_reducible apply kUn; omega) | exact rfl)) (e2 : Ψ x1 = g := by repeat (first | with_reducible exact kUs | with_reducible assumption | (with_reducible apply kUn; omega) | exact rfl)) (b1 : kB kLB f := by repeat' (first | with_reducible assumption | with_reducible exact farP_bdL | with_reducible apply vecP_bd | with_reducible apply nrmP_bd | with_reducible apply revP_bd | with_reducible apply whlP_bd (Or.inr rfl) | with_reducible apply whlP_bd (Or.inl rfl) | with_reducible apply mulP_bdL | with_reducible exact plcP_bd (by omega) (by omega))) (b2 : kB kLB g := by repeat' (first | with_reducible assumption | with_reducible exact farP_bdL | with_reducible apply vecP_bd | with_reducible apply nrmP_bd | with_reducible apply revP_bd | with_reducible apply whlP_bd (Or.inr rfl) | with_reducible apply whlP_bd (Or.inl rfl) | with_reducible apply mulP_bdL | with_reducible exact plcP_bd (by omega) (by omega))) (t2 : kSc x2 := by first | assumption | (unfold kSc; omega)) (t3 : kSc x3 := by first | assumption | (unfold kSc; omega)) (t4 : kSc x4 := by first | assumption | (unfold kSc; omega)) : kC2 G S0 kM_X3_mirror (d + 2) [kA x0, kA x1, kA x2, kA x3, kA x4] c P := by
  obtain ⟨n02, n12, n03, n23, n24, n34⟩ := ne
  unfold mirB at h1 h0
  refine v_X3_mirror hL hx0 hx1 hx2 hx3 hx4 ?_
  refine tc_multiply hL hs (Or.inl rfl) (fun c1 s1 => ⟨rfl, ?_⟩) hx0 hx1 hx2 ⟨n02, n12⟩ e1 e2 b1 b2
  refine tc_isWithinBound hL s1 (fun w => ⟨1, rfl, kq1 ?_⟩) (fun w => ⟨0, rfl, kq0 ?_⟩) hx2 kUs (mulP_bdL b1 b2)
  · have bw : kB kLB (mulP 0 f g) := kWb_iff.mp w
    refine tc_copy hL s1 (fun c2 s2 => ⟨rfl, ?_⟩) hx0 hx3 (kUn n02 e1)
    refine tc_reverse hL s2 (fun c3 s3 => ⟨rfl, ?_⟩) hx3 kUs
    refine tc_multiply hL s3 (Or.inl rfl) (fun c4 s4 => ⟨rfl, ?_⟩) hx2 hx3 hx4 ⟨n24, n34⟩ (kUn n23 (kUn n23 kUs)) kUs bw (revP_bd b1)
    have kp : kKp Ψ (kU (kU (kU (kU Ψ x2 (mulP 0 f g)) x3 f) x3 (revP f)) x4 (mulP 0 (mulP 0 f g) (revP f))) x2 x3 x4 := fun s a b e => kUn e (kUn b (kUn b (kUn a rfl)))
    refine tc_isWithinBound hL s4 (fun u => ⟨1, rfl, ko1 ?_⟩) (fun u => ⟨0, rfl, ko0 ?_⟩) hx4 kUs (mulP_bdL bw (revP_bd b1))
    · exact h1 _ _ s4 kUs kp (by rw [w, u]; rfl)
    · exact h0 _ _ s4 kp (by rw [w]; simpa using u)
  · exact h0 _ _ s1 (fun s a b e => kUn a rfl) (by intro q; rw [Bool.and_eq_true] at q; exact w q.1)
theorem tc_isMotion (hL : kLay S0) (hs : kCh Ψ c0 c) (h1 : ∀ Ψ' c', kCh Ψ' c0 c' → kKp Ψ Ψ' 524 526 526 → kMot f = true → P (some (kI 1)) c') (h0 : ∀ Ψ' c', kCh Ψ' c0 c' → kKp Ψ Ψ' 524 526 526 → ¬ kMot f = true → P (some (kI 0)) c') (hx1 : S0.2.1 x1 = (2, 16) := by first | with_reducible assumption | with_reducible exact lsh_555 hL | with_reducible exact lsh_556 hL | with_reducible exact lsh_557 hL | with_reducible exact lsh_524 hL | with_reducible exact lsh_525 hL | with_reducible exact lsh_526 hL | with_reducible exact lsh_527 hL | with_reducible exact lsh_529 hL | with_reducible exact lsh_530 hL | with_reducible exact lsh_531 hL | with_reducible exact lsh_532 hL | with_reducible exact lsh_549 hL | with_reducible exact lsh_550 hL | with_reducible exact lsh_551 hL | with_reducible exact lsh_552 hL) (ne : x1 ≠ 524 ∧ x1 ≠ 526 := by omega) (e1 : Ψ x1 = f := by repeat (first | with_reducible exact kUs | with_reducible assumption | (with_reducible apply kUn; omega) | exact rfl)) (b1 : kB kLB f := by repeat' (first | with_reducible assumption | with_reducible exact farP_bdL | with_reducible apply vecP_bd | with_reducible apply nrmP_bd | with_reducible apply revP_bd | with_reducible apply whlP_bd (Or.inr rfl) | with_reducible apply whlP_bd (Or.inl rfl) | with_reducible apply mulP_bdL | with_reducible exact plcP_bd (by omega) (by omega))) : kC2 G S0 kM_X3_isMotion (d + 5) [kA 214, kA x1] c P := by
  obtain ⟨n1, n2⟩ := ne
  rw [kMot_iff] at h1 h0
  have hk := kind_rg f
  have go : (kind f = 1 ∨ kind f = 3 ∨ kind f = 4 ∨ kind f = 6 ∨ kind f = 40 ∨ kind f = 41) → kW2 G S0 kM_X3_isMotion (d + 5) 40 [some (kA 214), some (kA x1), none] [] c P := by
    intro q
    refine v_X3_isMotion_40 hL hx1 ?_
    refine tc_copy hL hs (fun c1 s1 => ⟨rfl, ?_⟩)
    refine tc_reverse hL s1 (fun c2 s2 => ⟨rfl, ?_⟩)
    refine tc_multiply hL s2 (Or.inl rfl) (fun c3 s3 => ⟨rfl, ?_⟩)
    have bm := mulP_bdL (kd := 0) b1 (revP_bd b1)
    have hg : kgr (mulP 0 f (revP f)) < 32 := kgrN_lt (f := mulP 0 f (revP f)) 16 (by omega)
    have kp : kKp Ψ (kU (kU (kU Ψ 524 f) 524 (revP f)) 526 (mulP 0 f (revP f))) 524 526 526 := fun s a b e => kUn b (kUn a (kUn a rfl))
    refine tc_gradesOf hL s3 ⟨_, rfl, ?_⟩
    refine ⟨k32i (by omega), fun u => ?_, fun u => ?_⟩
    · exact h0 _ _ s3 kp (fun z => u (by omega))
    · exact h1 _ _ s3 kp ⟨q, by omega⟩
  refine v_X3_isMotion hL hx1 ?_
  refine tc_kindOf hL hs ⟨_, rfl, ?_⟩
  refine ⟨k32i (by omega), fun z => go (by omega), fun z1 => ⟨fun z => go (by omega), fun z2 => ⟨fun z => go (by omega), fun z3 => ⟨fun z => go (by omega), fun z4 => ⟨fun z => go (by omega), fun z5 => ⟨fun z => go (by omega), fun z6 => h0 _ _ hs (fun _ _ _ _ => rfl) (fun q => by omega)⟩⟩⟩⟩⟩⟩
theorem tc_turn (hL : kLay S0) (hs : kCh Ψ c0 c) (hr : kEq (revP g) g) (h1 : ∀ Ψ' c', kCh Ψ' c0 c' → Ψ' x3 = trnP g f → kKp Ψ Ψ' 524 525 x3 → trnB g f = true → P (some (kI 1)) c') (h0 : ∀ Ψ' c', kCh Ψ' c0 c' → kKp Ψ Ψ' 524 525 x3 → ¬ trnB g f = true → P (some (kI 0)) c') (hx1 : S0.2.1 x1 = (2, 16) := by first | with_reducible assumption | with_reducible exact lsh_555 hL | with_reducible exact lsh_556 hL | with_reducible exact lsh_557 hL | with_reducible exact lsh_524 hL | with_reducible exact lsh_525 hL | with_reducible exact lsh_526 hL | with_reducible exact lsh_527 hL | with_reducible exact lsh_529 hL | with_reducible exact lsh_530 hL | with_reducible exact lsh_531 hL | with_reducible exact lsh_532 hL | with_reducible exact lsh_549 hL | with_reducible exact lsh_550 hL | with_reducible exact lsh_551 hL | with_reducible exact lsh_552 hL) (hx2 : S0.2.1 x2 = (2, 16) := by first | with_reducible assumption | with_reducible exact lsh_555 hL | with_reducible exact lsh_556 hL | with_reducible exact lsh_557 hL | with_reducible exact lsh_524 hL | with_reducible exact lsh_525 hL | with_reducible exact lsh_526 hL | with_reducible exact lsh_527 hL | with_reducible exact lsh_529 hL | with_reducible exact lsh_530 hL | with_reducible exact lsh_531 hL | with_reducible exact lsh_532 hL | with_reducible exact lsh_549 hL | with_reducible exact lsh_550 hL | with_reducible exact lsh_551 hL | with_reducible exact lsh_552 hL) (hx3 : S0.2.1 x3 = (2, 16) := by first | with_reducible assumption | with_reducible exact lsh_555 hL | with_reducible exact lsh_556 hL | with_reducible exact lsh_557 hL | with_reducible exact lsh_524 hL | with_reducible exact lsh_525 hL | with_reducible exact lsh_526 hL | with_reducible exact lsh_527 hL | with_reducible exact lsh_529 hL | with_reducible exact lsh_530 hL | with_reducible exact lsh_531 hL | with_reducible exact lsh_532 hL | with_reducible exact lsh_549 hL | with_reducible exact lsh_550 hL | with_reducible exact lsh_551 hL | with_reducible exact lsh_552 hL) (ne : x1 ≠ 524 ∧ x2 ≠ 524 ∧ x2 ≠ 525 ∧ x3 ≠ 524 ∧ x3 ≠ 525 := by omega) (e1 : Ψ x1 = f := by repeat (first | with_reducible exact kUs | with_reducible assumption | (with_reducible apply kUn; omega) | exact rfl)) (e2 : Ψ x2 = g := by repeat (first | with_reducible exact kUs | with_reducible assumption | (with_reducible apply kUn; omega) | exact rfl)) (b1 : kB kLB f := by repeat' (first | with_reducible assumption | with_reducible exact farP_bdL | with_reducible apply vecP_bd | with_reducible apply nrmP_bd | with_reducible apply revP_bd | with_reducible apply whlP_bd (Or.inr rfl) | with_reducible apply whlP_bd (Or.inl rfl) | with_reducible apply mulP_bdL | with_reducible exact plcP_bd (by omega) (by omega))) (b2 : kB kLB g := by repeat' (first | with_reducible assumption | with_reducible exact farP_bdL | with_reducible apply vecP_bd | with_reducible apply nrmP_bd | with_reducible apply revP_bd | with_reducible apply whlP_bd (Or.inr rfl) | with_reducible apply whlP_bd (Or.inl rfl) | with_reducible apply mulP_bdL | with_reducible exact plcP_bd (by omega) (by omega))) (t3 : kSc x3 := by first | assumption | (unfold kSc; omega)) : kC2 G S0 kM_X3_turn (d + 3) [kA 214, kA x1, kA x2, kA x3] c P := by
  obtain ⟨n1, n2, n3, n4, n5⟩ := ne
  have em : kEq (mirP g f) (mulP 0 (mulP 0 g f) g) := mulP_congr kEq.rf hr
  have eb : mirB g f = trnB g f := by
    unfold mirB trnB
    rw [kWb_congr (f := mulP 0 (mulP 0 g f) (revP g)) em]
  refine v_X3_turn hL hx1 hx2 hx3 ?_
  refine tc_mirror hL hs (fun Ψ1 c1 s1 em1 kp1 w => ⟨1, rfl, kr1 ?_⟩) (fun Ψ1 c1 s1 kp1 w => ⟨0, rfl, kr0 ⟨Or.inl rfl, h0 _ _ s1 kp1 (by rw [← eb]; exact w)⟩⟩) hx2 hx1 (lsh_524 hL) (lsh_525 hL) hx3 ⟨n2, n1, n3, by decide, by omega, by omega⟩ e2 e1 b2 b1 (t2 := by first | assumption | (unfold kSc; omega)) (t3 := by first | assumption | (unfold kSc; omega)) (t4 := t3)
  have bm : kB 160000000000000000 (mirP g f) := by
    have w2 := w
    unfold mirB at w2
    rw [Bool.and_eq_true] at w2
    exact mulP_bdL (kWb_iff.mp w2.1) (revP_bd b2)
  refine tc_normalise hL s1 (fun c2 s2 => ⟨rfl, Or.inr rfl, ?_⟩) hx3 em1 bm
  refine h1 _ _ (s2.cv (nrmP_congr em)) kUs (fun s a b e => kUn e (kp1 s a b e)) (by rw [← eb]; exact w)
theorem tc_orderOf (hL : kLay S0) (hs : kCh Ψ c0 c) (hm : kMot f = true) (h : ∀ Ψ' c', kCh Ψ' c0 c' → kKp Ψ Ψ' 524 526 526 → P (some (kI (kOrd f))) c') (hx1 : S0.2.1 x1 = (2, 16) := by first | with_reducible assumption | with_reducible exact lsh_555 hL | with_reducible exact lsh_556 hL | with_reducible exact lsh_557 hL | with_reducible exact lsh_524 hL | with_reducible exact lsh_525 hL | with_reducible exact lsh_526 hL | with_reducible exact lsh_527 hL | with_reducible exact lsh_529 hL | with_reducible exact lsh_530 hL | with_reducible exact lsh_531 hL | with_reducible exact lsh_532 hL | with_reducible exact lsh_549 hL | with_reducible exact lsh_550 hL | with_reducible exact lsh_551 hL | with_reducible exact lsh_552 hL) (ne : x1 ≠ 524 ∧ x1 ≠ 526 := by omega) (e1 : Ψ x1 = f := by repeat (first | with_reducible exact kUs | with_reducible assumption | (with_reducible apply kUn; omega) | exact rfl)) (b1 : kB kLB f := by repeat' (first | with_reducible assumption | with_reducible exact farP_bdL | with_reducible apply vecP_bd | with_reducible apply nrmP_bd | with_reducible apply revP_bd | with_reducible apply whlP_bd (Or.inr rfl) | with_reducible apply whlP_bd (Or.inl rfl) | with_reducible apply mulP_bdL | with_reducible exact plcP_bd (by omega) (by omega))) : kC2 G S0 kM_X3_orderOf (d + 5) [kA 214, kA x1] c P := by
  obtain ⟨n1, n2⟩ := ne
  unfold kOrd at h
  rw [if_pos hm] at h
  have loop : ∀ (m n : Nat), m + n = 25 → 1 ≤ n → ∀ (Ψ' : Int → KF) (c' : KMem) (B : KF), kCh Ψ' c0 c' → Ψ' 526 = B → kB kLB B → kKp Ψ Ψ' 524 526 526 → kOrdN f m (nrmP B) (n : Int) = kOrdN f 24 (nrmP f) 1 → kW2 G S0 kM_X3_orderOf (d + 5) 10 [some (kA 214), some (kA x1), some (kI (n : Int))] [] c' P := by
    intro m
    induction m with
    | zero =>
      intro n hn h1 Ψ' c' B s1 eB bB kp ek
      obtain rfl : n = 25 := by omega
      refine v_X3_orderOf_10 hL hx1 (by omega) ⟨fun _ => ?_, fun q => by omega⟩
      have := h _ _ s1 kp
      rw [← ek] at this; exact this
    | succ m ih =>
      intro n hn h1 Ψ' c' B s1 eB bB kp ek
      have hk := kind_rg (nrmP B)
      have ed : kOrdN f (m + 1) (nrmP B) (n : Int) = if kind (nrmP B) = 1 then (n : Int) else if kWb (mulP 0 (nrmP B) f) = true then kOrdN f m (nrmP (mulP 0 (nrmP B) f)) ((n : Int) + 1) else -2 := rfl
      have f1 : Ψ' x1 = f := (kp _ n1 n2 n2).trans e1
      have bn := nrmP_bd bB
      refine v_X3_orderOf_10 hL hx1 (by omega) ⟨fun q => by omega, fun _ => ?_⟩
      refine tc_normalise hL s1 (fun c2 s2 => ⟨rfl, ?_⟩)
      have kp2 : kKp Ψ (kU Ψ' 526 (nrmP B)) 524 526 526 := fun s a b e => kUn b (kp s a b e)
      refine tc_kindOf hL s2 ⟨_, rfl, ?_⟩
      refine ⟨k32i (by omega), fun z => ?_, fun z => ?_⟩
      · rw [if_neg z] at ed
        refine tc_copy hL s2 (fun c3 s3 => ⟨rfl, ?_⟩)
        refine tc_multiply hL s3 (Or.inl rfl) (fun c4 s4 => ⟨rfl, ?_⟩) (e2 := kUn n1 (kUn n2 f1))
        have kp3 : kKp Ψ (kU (kU (kU Ψ' 526 (nrmP B)) 524 (nrmP B)) 526 (mulP 0 (nrmP B) f)) 524 526 526 := fun s a b e => kUn b (kUn a (kp2 s a b e))
        have bm := mulP_bdL (kd := 0) bn b1
        refine tc_isWithinBound hL s4 (fun w => ⟨1, rfl, kq1 ?_⟩) (fun w => ⟨0, rfl, kq0 ?_⟩)
        · rw [if_pos w] at ed
          have := ih (n + 1) (by omega) (by omega) _ _ _ s4 kUs (kWb_iff.mp w) kp3 (by rw [← ek, ed]; rfl)
          exact this
        · rw [if_neg w] at ed
          have := h _ _ s4 kp3
          rw [← ek, ed] at this; exact this
      · rw [if_pos z] at ed
        have := h _ _ s2 kp2
        rw [← ek, ed] at this; exact this
  refine v_X3_orderOf hL hx1 ?_
  refine tc_copy hL hs (fun c1 s1 => ⟨rfl, ?_⟩)
  exact loop 24 1 (by omega) (by omega) _ _ f s1 kUs b1 (fun s a b e => kUn b rfl) rfl
theorem tc_bring (hL : kLay S0) (hs : kCh Ψ c0 c) (h1 : ∀ Ψ' c' s, kCh Ψ' c0 c' → Ψ' x3 = s → kSpt s (mirP f g) → mirB f g = true → kind (mirP f g) = 2 → P (some (kI 1)) c') (h0 : ∀ Ψ' c', kCh Ψ' c0 c' → ¬ (mirB f g = true ∧ kind (mirP f g) = 2) → P (some (kI 0)) c') (hx1 : S0.2.1 x1 = (2, 16) := by first | with_reducible assumption | with_reducible exact lsh_555 hL | with_reducible exact lsh_556 hL | with_reducible exact lsh_557 hL | with_reducible exact lsh_524 hL | with_reducible exact lsh_525 hL | with_reducible exact lsh_526 hL | with_reducible exact lsh_527 hL | with_reducible exact lsh_529 hL | with_reducible exact lsh_530 hL | with_reducible exact lsh_531 hL | with_reducible exact lsh_532 hL | with_reducible exact lsh_549 hL | with_reducible exact lsh_550 hL | with_reducible exact lsh_551 hL | with_reducible exact lsh_552 hL) (hx2 : S0.2.1 x2 = (2, 16) := by first | with_reducible assumption | with_reducible exact lsh_555 hL | with_reducible exact lsh_556 hL | with_reducible exact lsh_557 hL | with_reducible exact lsh_524 hL | with_reducible exact lsh_525 hL | with_reducible exact lsh_526 hL | with_reducible exact lsh_527 hL | with_reducible exact lsh_529 hL | with_reducible exact lsh_530 hL | with_reducible exact lsh_531 hL | with_reducible exact lsh_532 hL | with_reducible exact lsh_549 hL | with_reducible exact lsh_550 hL | with_reducible exact lsh_551 hL | with_reducible exact lsh_552 hL) (hx3 : S0.2.1 x3 = (17, 5) := by first | with_reducible assumption | with_reducible exact lsh_553 hL | with_reducible exact lsh_554 hL) (ne : x1 ≠ 524 ∧ x2 ≠ 524 ∧ x1 ≠ 525 := by omega) (e1 : Ψ x1 = f := by repeat (first | with_reducible exact kUs | with_reducible assumption | (with_reducible apply kUn; omega) | exact rfl)) (e2 : Ψ x2 = g := by repeat (first | with_reducible exact kUs | with_reducible assumption | (with_reducible apply kUn; omega) | exact rfl)) (b1 : kB kLB f := by repeat' (first | with_reducible assumption | with_reducible exact farP_bdL | with_reducible apply vecP_bd | with_reducible apply nrmP_bd | with_reducible apply revP_bd | with_reducible apply whlP_bd (Or.inr rfl) | with_reducible apply whlP_bd (Or.inl rfl) | with_reducible apply mulP_bdL | with_reducible exact plcP_bd (by omega) (by omega))) (b2 : kB kLB g := by repeat' (first | with_reducible assumption | with_reducible exact farP_bdL | with_reducible apply vecP_bd | with_reducible apply nrmP_bd | with_reducible apply revP_bd | with_reducible apply whlP_bd (Or.inr rfl) | with_reducible apply whlP_bd (Or.inl rfl) | with_reducible apply mulP_bdL | with_reducible exact plcP_bd (by omega) (by omega))) (t3 : kSc x3 := by first | assumption | (unfold kSc; omega)) : kC2 G S0 kM_X3_bring (d + 5) [kA 214, kA x1, kA x2, kA x3] c P := by
  obtain ⟨n1, n2, n3⟩ := ne
  have hk := kind_rg (mirP f g)
  refine v_X3_bring hL hx1 hx2 hx3 ?_
  refine tc_mirror hL hs (fun Ψ1 c1 s1 em kp w => ⟨1, rfl, kq1 ?_⟩) (fun Ψ1 c1 s1 kp w => ⟨0, rfl, kq0 (h0 _ _ s1 (fun q => w q.1))⟩)
  have bw : kB kLB (mirP f g) := by
    have w2 := w
    unfold mirB at w2
    rw [Bool.and_eq_true] at w2
    exact kWb_iff.mp w2.2
  refine tc_kindOf hL s1 ⟨_, rfl, ?_⟩
  refine ⟨k32i (by omega), fun z => ?_, fun z => h0 _ _ s1 (fun q => z q.2)⟩
  refine tc_take hL s1 (kPt_ne z) (fun c2 s s2 hp => ⟨rfl, ?_⟩)
  exact h1 _ _ s s2 kUs hp w z
theorem tc_takeOutcome (hL : kLay S0) (hs : kCh Ψ c0 c) (h1 : ∀ Ψ' c' s, kCh Ψ' c0 c' → Ψ' x1 = s → kSpt s f → kWb f = true → kind f = 2 → P (some (kI 1)) c') (h0 : ∀ Ψ' c', kCh Ψ' c0 c' → ¬ (kWb f = true ∧ kind f = 2) → P (some (kI 0)) c') (hx1 : S0.2.1 x1 = (17, 5) := by first | with_reducible assumption | with_reducible exact lsh_553 hL | with_reducible exact lsh_554 hL) (e1 : Ψ 532 = f := by repeat (first | with_reducible exact kUs | with_reducible assumption | (with_reducible apply kUn; omega) | exact rfl)) (b1 : kB M f := by repeat' (first | with_reducible assumption | with_reducible exact farP_bdL | with_reducible apply vecP_bd | with_reducible apply nrmP_bd | with_reducible apply revP_bd | with_reducible apply whlP_bd (Or.inr rfl) | with_reducible apply whlP_bd (Or.inl rfl) | with_reducible apply mulP_bdL | with_reducible exact plcP_bd (by omega) (by omega))) (hM : M < 9223372036854775807 := by decide) (t1 : kSc x1 := by first | assumption | (unfold kSc; omega)) : kC2 G S0 kM_X4_takeOutcome (d + 5) [kA 528, kA x1] c P := by
  have hk := kind_rg f
  refine v_X4_takeOutcome hL hx1 ?_
  refine tc_isWithinBound hL hs (fun w => ⟨1, rfl, kr1 ?_⟩) (fun w => ⟨0, rfl, kr0 (h0 _ _ hs (fun q => w q.1))⟩) (lsh_532 hL) e1 b1 hM
  have bw := kWb_iff.mp w
  refine tc_kindOf hL hs ⟨_, rfl, ?_⟩
  refine ⟨k32i (by omega), fun z => ?_, fun z => h0 _ _ hs (fun q => z q.2)⟩
  refine tc_take hL hs (kPt_ne z) (fun c2 s s2 hp => ⟨rfl, ?_⟩)
  exact h1 _ _ s s2 kUs hp w z
theorem ptN_yes {w : Int} (hw : 0 ≤ w ∧ w ≤ 2) (a : kWb f = true) (b : kind f = 2) : mdN f w = ptN f w := by
  unfold ptN; rw [if_pos a, if_pos b, mdN_3 hw]
theorem ptN_no {w : Int} (h : ¬ (kWb f = true ∧ kind f = 2)) : ptN f w = kOT := by
  unfold ptN
  by_cases a : kWb f = true
  · rw [if_pos a, if_neg (fun q => h ⟨a, q⟩)]
  · rw [if_neg a]
theorem tc_findMiddle (hL : kLay S0) (hs : kCh Ψ c0 c) (h1 : ∀ Ψ' c' s g, kCh Ψ' c0 c' → Ψ' x2 = s → kSpt s g → (∀ w : Int, 0 ≤ w → w ≤ 2 → mdN g w = pmN f w) → P (some (kI 1)) c') (h0 : ∀ Ψ' c', kCh Ψ' c0 c' → (∀ w, pmN f w = kOT) → P (some (kI 0)) c') (hx1 : S0.2.1 x1 = (2, 16) := by first | with_reducible assumption | with_reducible exact lsh_555 hL | with_reducible exact lsh_556 hL | with_reducible exact lsh_557 hL | with_reducible exact lsh_524 hL | with_reducible exact lsh_525 hL | with_reducible exact lsh_526 hL | with_reducible exact lsh_527 hL | with_reducible exact lsh_529 hL | with_reducible exact lsh_530 hL | with_reducible exact lsh_531 hL | with_reducible exact lsh_532 hL | with_reducible exact lsh_549 hL | with_reducible exact lsh_550 hL | with_reducible exact lsh_551 hL | with_reducible exact lsh_552 hL) (hx2 : S0.2.1 x2 = (17, 5) := by first | with_reducible assumption | with_reducible exact lsh_553 hL | with_reducible exact lsh_554 hL) (ne : x1 ≠ 530 ∧ x1 ≠ 532 := by omega) (e1 : Ψ x1 = f := by repeat (first | with_reducible exact kUs | with_reducible assumption | (with_reducible apply kUn; omega) | exact rfl)) (e3 : Ψ 529 = farP := by repeat (first | with_reducible exact kUs | with_reducible assumption | (with_reducible apply kUn; omega) | exact rfl)) (b1 : kB kLB f := by repeat' (first | with_reducible assumption | with_reducible exact farP_bdL | with_reducible apply vecP_bd | with_reducible apply nrmP_bd | with_reducible apply revP_bd | with_reducible apply whlP_bd (Or.inr rfl) | with_reducible apply whlP_bd (Or.inl rfl) | with_reducible apply mulP_bdL | with_reducible exact plcP_bd (by omega) (by omega))) (t2 : kSc x2 := by first | assumption | (unfold kSc; omega)) : kC2 G S0 kM_X4_findMiddle (d + 6) [kA 528, kA x1, kA x2] c P := by
  obtain ⟨n1, n2⟩ := ne
  refine v_X4_findMiddle hL hx1 hx2 ?_
  refine tc_multiply hL hs (Or.inl rfl) (fun c1 s1 => ⟨rfl, ?_⟩)
  refine tc_isWithinBound (f := mulP 0 f farP) hL s1 (fun w => ⟨1, rfl, kq1 ?_⟩) (fun w => ⟨0, rfl, kq0 (h0 _ _ s1 (fun u => by unfold pmN; rw [if_neg w]))⟩)
  have bw := kWb_iff.mp w
  refine tc_multiply hL s1 (Or.inl rfl) (fun c2 s2 => ⟨rfl, ?_⟩)
  refine tc_takeOutcome hL s2 (fun Ψ3 c3 s s3 e hp a b => ⟨1, rfl, ko1 (h1 _ _ s _ s3 e hp (fun u u0 u2 => ?_))⟩) (fun Ψ3 c3 s3 q => ⟨0, rfl, ko0 (h0 _ _ s3 (fun u => ?_))⟩)
  · unfold pmN; rw [if_pos w]; exact ptN_yes ⟨u0, u2⟩ a b
  · unfold pmN; rw [if_pos w]; exact ptN_no q
theorem tc_findEnd (hL : kLay S0) (hs : kCh Ψ c0 c) {r : Int} (hr : -1000000000 ≤ r ∧ r ≤ 1000000000) (h1 : ∀ Ψ' c' s g, kCh Ψ' c0 c' → Ψ' x4 = s → kSpt s g → (∀ w : Int, 0 ≤ w → w ≤ 2 → mdN g w = endN f r w) → P (some (kI 1)) c') (h0 : ∀ Ψ' c', kCh Ψ' c0 c' → (∀ w, endN f r w = kOT) → P (some (kI 0)) c') (hx1 : S0.2.1 x1 = (2, 16) := by first | with_reducible assumption | with_reducible exact lsh_555 hL | with_reducible exact lsh_556 hL | with_reducible exact lsh_557 hL | with_reducible exact lsh_524 hL | with_reducible exact lsh_525 hL | with_reducible exact lsh_526 hL | with_reducible exact lsh_527 hL | with_reducible exact lsh_529 hL | with_reducible exact lsh_530 hL | with_reducible exact lsh_531 hL | with_reducible exact lsh_532 hL | with_reducible exact lsh_549 hL | with_reducible exact lsh_550 hL | with_reducible exact lsh_551 hL | with_reducible exact lsh_552 hL) (hx4 : S0.2.1 x4 = (17, 5) := by first | with_reducible assumption | with_reducible exact lsh_553 hL | with_reducible exact lsh_554 hL) (ne : x1 ≠ 530 ∧ x1 ≠ 531 ∧ x1 ≠ 532 := by omega) (e1 : Ψ x1 = f := by repeat (first | with_reducible exact kUs | with_reducible assumption | (with_reducible apply kUn; omega) | exact rfl)) (e3 : Ψ 529 = farP := by repeat (first | with_reducible exact kUs | with_reducible assumption | (with_reducible apply kUn; omega) | exact rfl)) (b1 : kB kLB f := by repeat' (first | with_reducible assumption | with_reducible exact farP_bdL | with_reducible apply vecP_bd | with_reducible apply nrmP_bd | with_reducible apply revP_bd | with_reducible apply whlP_bd (Or.inr rfl) | with_reducible apply whlP_bd (Or.inl rfl) | with_reducible apply mulP_bdL | with_reducible exact plcP_bd (by omega) (by omega))) (t4 : kSc x4 := by first | assumption | (unfold kSc; omega)) : kC2 G S0 kM_X4_findEnd (d + 6) [kA 528, kA x1, kL r, kA x4] c P := by
  obtain ⟨n1, n2, n3⟩ := ne
  have f0 : -100000000 ≤ f 0 ∧ f 0 ≤ 100000000 := b1 0 (by omega) (by omega)
  have bs : kB 2000000000 (kSetF f 0 (f 0 + r)) := kSetF_bd b1 (by decide) (by omega)
  refine v_X4_findEnd hL hx1 hx4 ?_
  refine tc_multiply hL hs (Or.inr (Or.inr rfl)) (fun c1 s1 => ⟨rfl, ?_⟩)
  refine tc_copy hL s1 (fun c2 s2 => ⟨rfl, ?_⟩)
  have E := s2.e (a := 531) (f := f) kUs
  dsimp only
  rw [E 0 (by omega) (by omega)]
  have s3 := s2.set (t := 531) (k := 0) (v := f 0 + r) kUs (by unfold kSc; omega)
  refine tc_isWithinBound (f := mulP 2 farP f) hL s3 (fun w => ⟨1, rfl, kr1 ?_⟩) (fun w => ⟨0, rfl, kr0 (h0 _ _ s3 (fun u => by unfold endN; rw [if_neg w]; split <;> rfl))⟩)
  have bw := kWb_iff.mp w
  refine tc_isWithinBound (f := kSetF f 0 (f 0 + r)) hL s3 (fun w2 => ⟨1, rfl, kq1 ?_⟩) (fun w2 => ⟨0, rfl, kq0 (h0 _ _ s3 (fun u => by unfold endN; rw [if_neg w2]))⟩)
  have bw2 := kWb_iff.mp w2
  refine tc_multiply hL s3 (Or.inl rfl) (fun c4 s4 => ⟨rfl, ?_⟩)
  refine tc_takeOutcome hL s4 (fun Ψ3 c3 s s3 e hp a b => ⟨1, rfl, ko1 (h1 _ _ s _ s3 e hp (fun u u0 u2 => ?_))⟩) (fun Ψ3 c3 s3 q => ⟨0, rfl, ko0 (h0 _ _ s3 (fun u => ?_))⟩)
  · unfold endN; rw [if_pos w2, if_pos w]; exact ptN_yes ⟨u0, u2⟩ a b
  · unfold endN; rw [if_pos w2, if_pos w]; exact ptN_no q
theorem tc_half (hL : kLay S0) (hs : kCh Ψ c0 c) (r2 : k32 x2) (h : ∀ Ψ' c', kCh Ψ' c0 c' → P (some (kL (hfN f x2))) c') (hx1 : S0.2.1 x1 = (2, 16) := by first | with_reducible assumption | with_reducible exact lsh_555 hL | with_reducible exact lsh_556 hL | with_reducible exact lsh_557 hL | with_reducible exact lsh_524 hL | with_reducible exact lsh_525 hL | with_reducible exact lsh_526 hL | with_reducible exact lsh_527 hL | with_reducible exact lsh_529 hL | with_reducible exact lsh_530 hL | with_reducible exact lsh_531 hL | with_reducible exact lsh_532 hL | with_reducible exact lsh_549 hL | with_reducible exact lsh_550 hL | with_reducible exact lsh_551 hL | with_reducible exact lsh_552 hL) (ne : x1 ≠ 530 := by omega) (e1 : Ψ x1 = f := by repeat (first | with_reducible exact kUs | with_reducible assumption | (with_reducible apply kUn; omega) | exact rfl)) (e3 : Ψ 529 = farP := by repeat (first | with_reducible exact kUs | with_reducible assumption | (with_reducible apply kUn; omega) | exact rfl)) (b1 : kB kLB f := by repeat' (first | with_reducible assumption | with_reducible exact farP_bdL | with_reducible apply vecP_bd | with_reducible apply nrmP_bd | with_reducible apply revP_bd | with_reducible apply whlP_bd (Or.inr rfl) | with_reducible apply whlP_bd (Or.inl rfl) | with_reducible apply mulP_bdL | with_reducible exact plcP_bd (by omega) (by omega))) : kC2 G S0 kM_X4_half (d + 3) [kA 528, kA x1, kI x2] c P := by
  have m1 : -160000000000000000 ≤ mulP 0 f f 0 ∧ mulP 0 f f 0 ≤ 160000000000000000 := mulP_bdL b1 b1 0 (by omega) (by omega)
  have bf : kB 200000000 (mulP 2 farP f) := kfar2 b1
  have m2 := mulP_bd (kd := 0) (by decide) (by decide) bf bf 0 (by omega) (by omega)
  have ee : (16 : Int) * (200000000 * 200000000) = 640000000000000000 := by decide
  rw [ee] at m2
  refine v_X4_half hL hx1 r2 ?_
  refine tc_multiply hL hs (Or.inr (Or.inr rfl)) (fun c1 s1 => ⟨rfl, ?_⟩)
  refine tc_square hL s1 ⟨_, rfl, ?_⟩
  refine tc_square hL s1 ⟨_, rfl, ?_⟩
  have hP := h _ _ s1
  unfold hfN at hP
  have no : 100000000 < ((mulP 0 f f 0).natAbs : Int) ∨ 100000000 < ((mulP 0 (mulP 2 farP f) (mulP 2 farP f) 0).natAbs : Int) ∨ mulP 0 (mulP 2 farP f) (mulP 2 farP f) 0 = 0 → P (some (kL (-3000000000000000000))) c1 := fun q => by
    by_cases u1 : 100000000 < ((mulP 0 f f 0).natAbs : Int)
    · rw [if_pos u1] at hP; exact hP
    · rw [if_neg u1] at hP
      by_cases u2 : 100000000 < ((mulP 0 (mulP 2 farP f) (mulP 2 farP f) 0).natAbs : Int)
      · rw [if_pos u2] at hP; exact hP
      · rw [if_neg u2, if_pos (by omega)] at hP; exact hP
  refine ⟨k64i (by omega), fun z => no (by omega), fun z0 => ⟨k64i (by omega), fun z => no (by omega), fun z1 => ⟨fun z => no (by omega), fun z2 => ?_⟩⟩⟩
  rw [if_neg (by omega), if_neg (by omega), if_neg z0] at hP
  exact s_X0_lowest hL r2 (by unfold k63; omega) (by unfold k63; omega) z0 ⟨_, rfl, hP⟩
theorem tc_areLike (hL : kLay S0) (hs : kCh Ψ c0 c) (h1 : ∀ Ψ' c', kCh Ψ' c0 c' → kKp Ψ Ψ' 551 552 552 → (¬ kZb f = true ∧ ¬ kZb g = true) ∧ kLk f g = true → P (some (kI 1)) c') (h0 : ∀ Ψ' c', kCh Ψ' c0 c' → kKp Ψ Ψ' 551 552 552 → ¬ ((¬ kZb f = true ∧ ¬ kZb g = true) ∧ kLk f g = true) → P (some (kI 0)) c') (hx1 : S0.2.1 x1 = (2, 16) := by first | with_reducible assumption | with_reducible exact lsh_555 hL | with_reducible exact lsh_556 hL | with_reducible exact lsh_557 hL | with_reducible exact lsh_524 hL | with_reducible exact lsh_525 hL | with_reducible exact lsh_526 hL | with_reducible exact lsh_527 hL | with_reducible exact lsh_529 hL | with_reducible exact lsh_530 hL | with_reducible exact lsh_531 hL | with_reducible exact lsh_532 hL | with_reducible exact lsh_549 hL | with_reducible exact lsh_550 hL | with_reducible exact lsh_551 hL | with_reducible exact lsh_552 hL) (hx2 : S0.2.1 x2 = (2, 16) := by first | with_reducible assumption | with_reducible exact lsh_555 hL | with_reducible exact lsh_556 hL | with_reducible exact lsh_557 hL | with_reducible exact lsh_524 hL | with_reducible exact lsh_525 hL | with_reducible exact lsh_526 hL | with_reducible exact lsh_527 hL | with_reducible exact lsh_529 hL | with_reducible exact lsh_530 hL | with_reducible exact lsh_531 hL | with_reducible exact lsh_532 hL | with_reducible exact lsh_549 hL | with_reducible exact lsh_550 hL | with_reducible exact lsh_551 hL | with_reducible exact lsh_552 hL) (ne : x1 ≠ 551 ∧ x2 ≠ 551 ∧ x2 ≠ 552 := by omega) (e1 : Ψ x1 = f := by repeat (first | with_reducible exact kUs | with_reducible assumption | (with_reducible apply kUn; omega) | exact rfl)) (e2 : Ψ x2 = g := by repeat (first | with_reducible exact kUs | with_reducible assumption | (with_reducible apply kUn; omega) | exact rfl)) (b1 : kB kLB f := by repeat' (first | with_reducible assumption | with_reducible exact farP_bdL | with_reducible apply vecP_bd | with_reducible apply nrmP_bd | with_reducible apply revP_bd | with_reducible apply whlP_bd (Or.inr rfl) | with_reducible apply whlP_bd (Or.inl rfl) | with_reducible apply mulP_bdL | with_reducible exact plcP_bd (by omega) (by omega))) (b2 : kB kLB g := by repeat' (first | with_reducible assumption | with_reducible exact farP_bdL | with_reducible apply vecP_bd | with_reducible apply nrmP_bd | with_reducible apply revP_bd | with_reducible apply whlP_bd (Or.inr rfl) | with_reducible apply whlP_bd (Or.inl rfl) | with_reducible apply mulP_bdL | with_reducible exact plcP_bd (by omega) (by omega))) : kC2 G S0 kM_X2_areLike (d + 2) [kA 533, kA x1, kA x2] c P := by
  obtain ⟨n1, n2, n3⟩ := ne
  refine v_X2_areLike hL hx1 hx2 ?_
  refine tc_isZero hL hs (fun z => ⟨1, rfl, kq1 (h0 _ _ hs (fun _ _ _ _ => rfl) (fun q => q.1.1 z))⟩) (fun z => ⟨0, rfl, kq0 ?_⟩)
  refine tc_isZero hL hs (fun z => ⟨1, rfl, kr1 (h0 _ _ hs (fun _ _ _ _ => rfl) (fun q => q.1.2 z))⟩) (fun z2 => ⟨0, rfl, kr0 ?_⟩)
  refine tc_copy hL hs (fun c1 s1 => ⟨rfl, ?_⟩)
  refine tc_copy hL s1 (fun c2 s2 => ⟨rfl, ?_⟩)
  refine tc_normalise hL s2 (fun c3 s3 => ⟨rfl, ?_⟩)
  refine tc_normalise hL s3 (fun c4 s4 => ⟨rfl, ?_⟩)
  have kp : kKp Ψ (kU (kU (kU (kU Ψ 551 f) 552 g) 551 (nrmP f)) 552 (nrmP g)) 551 552 552 := fun s a b e => kUn b (kUn a (kUn b (kUn a rfl)))
  refine tc_isSame hL s4 (fun q => ⟨1, rfl, ko1 (h1 _ _ s4 kp ⟨⟨z, z2⟩, kSameB_iff.mpr q⟩)⟩) (fun q => ⟨0, rfl, ko0 (h0 _ _ s4 kp (fun u => q (kSameB_iff.mp u.2)))⟩)
end CMV
