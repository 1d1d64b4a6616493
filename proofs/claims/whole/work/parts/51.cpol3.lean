theorem kbit_c2 : ∀ a, a < 64 → ∀ b, b < 64 → ∀ k, k < 12 → ((kand (kshr ((64 * a + b : Nat) : Int) ((k : Nat) : Int)) 1 != 0) = Nat.testBit (64 * a + b) k) := by decide +kernel
theorem kbit_ne {m : Int} {k : Nat} (h : 0 ≤ m ∧ m < 4096) (hk : k < 12) : kand (kshr m k) 1 ≠ 0 ↔ kbit m k = true := by
  obtain ⟨n, rfl⟩ := kint_nat h.1
  have := k4096 (p := fun x => ∀ k, k < 12 → ((kand (kshr (x : Int) ((k : Nat) : Int)) 1 != 0) = Nat.testBit x k)) kbit_c2 n (by omega) k hk
  show _ ↔ Nat.testBit n k = true
  rw [← this, bne_iff_ne]
theorem sprU_keep (T : KLs) (fr : Nat) (S : KLs) : ∀ j i, i < S.1 → (sprU T fr j S).2 i = S.2 i
  | 0, _, _ => rfl
  | j + 1, i, hi => by
    have h := fd_spr_le ((sprU T fr j S).2 (fr + j)) T.2 (sprU T fr j S) T.1
    exact (h.2.2 i (by have := (sprU_le T fr S j).1; omega)).trans (sprU_keep T fr S j i hi)
theorem fd_gpQ_le (A : KF) (T : Nat → KF) (S : KLs) (hS : S.1 ≤ 200) : ∀ n, S.1 ≤ (fdT (gpQ A) T n S).1 ∧ (fdT (gpQ A) T n S).1 ≤ 200 ∧ ∀ i, i < S.1 → (fdT (gpQ A) T n S).2 i = S.2 i
  | 0 => ⟨Nat.le_refl _, hS, fun _ _ => rfl⟩
  | n + 1 => by
    have ih := fd_gpQ_le A T S hS n
    have h := lsAdd_le (fdT (gpQ A) T n S) (nrmP (mulP 0 A (T n)))
    have ed : fdT (gpQ A) T (n + 1) S = if (fdT (gpQ A) T n S).1 < 200 ∧ kWb (mulP 0 A (T n)) = true then lsAdd (fdT (gpQ A) T n S) (nrmP (mulP 0 A (T n))) else fdT (gpQ A) T n S := rfl
    rw [ed]
    by_cases q : (fdT (gpQ A) T n S).1 < 200 ∧ kWb (mulP 0 A (T n)) = true
    · rw [if_pos q]; exact ⟨by omega, by omega, fun i hi => (h.2.2 i (by omega)).trans (ih.2.2 i hi)⟩
    · rw [if_neg q]; exact ih
theorem fd_gpQ_stay (A : KF) (T : Nat → KF) (S : KLs) (k : Nat) (h : 200 ≤ (fdT (gpQ A) T k S).1) : ∀ j, fdT (gpQ A) T (k + j) S = fdT (gpQ A) T k S
  | 0 => rfl
  | j + 1 => by
    have ih := fd_gpQ_stay A T S k h j
    have ed : fdT (gpQ A) T (k + j + 1) S = if (fdT (gpQ A) T (k + j) S).1 < 200 ∧ kWb (mulP 0 A (T (k + j))) = true then lsAdd (fdT (gpQ A) T (k + j) S) (nrmP (mulP 0 A (T (k + j)))) else fdT (gpQ A) T (k + j) S := rfl
    show fdT (gpQ A) T (k + j + 1) S = _
    rw [ed, if_neg (fun q => by have := q.1; rw [ih] at this; omega), ih]
theorem fd_gpF_le (T : Nat → KF) : ∀ n, (fdT gpF T n (0, fun _ _ => 0)).1 ≤ n
  | 0 => Nat.le_refl _
  | n + 1 => by
    have ih := fd_gpF_le T n
    have h := lsAdd_le (fdT gpF T n (0, fun _ _ => 0)) (nrmP (T n))
    show (lsAdd (fdT gpF T n (0, fun _ _ => 0)) (nrmP (T n))).1 ≤ n + 1
    omega
theorem kCl.kp {H : Int → Bool} {F : Int → KF} {Ψ Ψ' : Int → KF} (h : kCl H F Ψ) (e : ∀ s : Int, s < 170 ∨ s = 529 ∨ s = 549 → Ψ' s = Ψ s) : kCl H F Ψ' :=
  ⟨fun l hl => by have := h.1 l hl; exact ⟨this.1, this.2.1, (e _ (by omega)).trans this.2.2.1, this.2.2.2⟩, (e _ (by omega)).trans h.2.1, (e _ (by omega)).trans h.2.2⟩
section CPQ
variable {G : KG} {S0 : KSh} {d : Nat} {P : Option AV → KMem → Prop} {c c0 : KMem} {Ψ : Int → KF} {H : Int → Bool} {F : Int → KF} {f g s sg : KF} {M m : Int} {S T : KLs} {x0 x1 x2 x3 x4 : Int}
theorem s_min (hL : kLay S0) (r0 : k32 x0) (r1 : k32 x1) (h : P (some (kI (if x1 < x0 then x1 else x0))) c) : kC2 G S0 kM_J9_min_7cf53 d [kI x0, kI x1] c P := by
  refine v_J9_min_7cf53 hL r0 r1 ⟨fun a => ?_, fun a => ?_⟩
  · rw [if_pos a] at h; exact h
  · rw [if_neg (by omega)] at h; exact h
theorem tc_areTold (hL : kLay S0) (r1 : k32 m) (r2 : k32 x2) (hs : CSt H F c) (h1 : kSetB H m x2 = true → P (some (kI 1)) c) (h0 : ¬ kSetB H m x2 = true → P (some (kI 0)) c) : kC2 G S0 kM_X10_areTold (d + 1) [kA 0, kI m, kI x2] c P := by
  rw [kSetB_iff] at h1 h0
  refine v_X10_areTold hL r1 r2 ⟨fun q => h0 (fun w => by omega), fun q1 => ⟨fun q => h0 (fun w => by omega), fun q2 => ⟨fun q3 => ?_, fun q => h0 (fun w => by omega)⟩⟩⟩
  have loop : ∀ n k : Nat, k + n = 12 → (∀ j : Nat, j < k → kbit m j = true → H j = true) → kW2 G S0 kM_X10_areTold (d + 1) 24 [some (kA 0), some (kI m), none, some (kI (k : Int))] [] c P := by
    intro n
    induction n with
    | zero =>
      intro k hk hj
      obtain rfl : k = 12 := by omega
      exact v_X10_areTold_24 hL (by omega) (by omega) ⟨fun _ => h1 ⟨⟨by omega, by omega, q3⟩, hj⟩, fun q => by omega⟩
    | succ n ih =>
      intro k hk hj
      have next : (kbit m k = true → H k = true) → kW2 G S0 kM_X10_areTold (d + 1) 24 [some (kA 0), some (kI m), none, some (kI ((k + 1 : Nat) : Int))] [] c P := fun w => ih (k + 1) (by omega) (fun j hj2 hb => by
        by_cases e : j = k
        · subst e; exact w hb
        · exact hj j (by omega) hb)
      have kb := kbit_ne (m := m) (k := k) (by omega) (by omega)
      refine v_X10_areTold_24 hL (by omega) (by omega) ⟨fun q => by omega, fun _ => ⟨fun z => ⟨hs.1.1, fun q => ?_, fun q => ?_⟩, fun z => ?_⟩⟩
      · exact next (fun _ => (hs.hh _).mp q)
      · exact h0 (fun w => q ((hs.hh _).mpr (w.2 k (by omega) (kb.mp z))))
      · exact next (fun w => absurd (kb.mpr w) z)
  exact loop 12 0 (by omega) (fun j hj => by omega)
theorem tc_tellMirrors (hL : kLay S0) (hs : kCh Ψ c0 c) (hl : kCl H F Ψ) (hm : 0 ≤ m ∧ m < 4096) (h6 : kCn (kbit m) 12 ≤ 6) (hH : ∀ k : Nat, k < 12 → kbit m k = true → H k = true) (h1 : ∀ Ψ' c', kCh Ψ' c0 c' → kCl H F Ψ' → kTo Ψ' (tlN vecP m F 12) → kMirS F m = true → P (some (kI 1)) c') (h0 : ∀ Ψ' c', kCh Ψ' c0 c' → ¬ kMirS F m = true → P (some (kI 0)) c') : kC2 G S0 kM_X10_tellMirrors (d + 6) [kA 0, kI m] c P := by
  rw [kMirS_iff] at h1 h0
  refine v_X10_tellMirrors hL (by omega) ?_
  refine tc_tellNone hL hs (fun Ψ1 c1 s1 t1 k1 => ⟨rfl, ?_⟩)
  have hl1 : kCl H F Ψ1 := hl.kp (fun s q => k1 s (by omega))
  have loop : ∀ n k : Nat, k + n = 12 → ∀ Ψ2 c2, kCh Ψ2 c0 c2 → kCl H F Ψ2 → kTo Ψ2 (tlN vecP m F k) → (∀ j : Nat, j < k → kbit m j = true → kMir (kind (F j))) → kW2 G S0 kM_X10_tellMirrors (d + 6) 9 [some (kA 0), some (kI m), some (kI (k : Int))] [] c2 P := by
    intro n
    induction n with
    | zero =>
      intro k hk Ψ2 c2 s2 l2 t2 hj
      obtain rfl : k = 12 := by omega
      exact v_X10_tellMirrors_9 hL (by omega) (by omega) ⟨fun _ => h1 _ _ s2 l2 t2 hj, fun q => by omega⟩
    | succ n ih =>
      intro k hk Ψ2 c2 s2 l2 t2 hj
      have kb := kbit_ne (m := m) (k := k) hm (by omega)
      have ed : tlN vecP m F (k + 1) = if kbit m k = true then lsPut (tlN vecP m F k) (vecP (F k)) else tlN vecP m F k := rfl
      refine v_X10_tellMirrors_9 hL (by omega) (by omega) ⟨fun q => by omega, fun _ => ⟨fun z => ?_, fun z => ?_⟩⟩
      · have hb := kb.mp z
        rw [if_pos hb] at ed
        obtain ⟨a1, b1, e1, q1⟩ := l2.1 _ (hH k (by omega) hb)
        have w1 := lrow hL a1 b1
        have hk1 := kind_rg (F k)
        have hc := kCn_mono (kbit m) k 12 (by omega)
        rw [if_pos hb] at hc
        have hlen := tlN_le vecP m F k
        refine tc_kindAt hL s2 ⟨_, rfl, ?_⟩
        refine ⟨k32i (by omega), fun y => ⟨⟨a1, b1⟩, ?_⟩, fun y => h0 _ _ s2 (fun w => y (w k (by omega) hb))⟩
        refine tc_vectorOf hL s2 (fun c3 s3 => ⟨rfl, ?_⟩)
        have hlt : (tlN vecP m F k).1 < 6 := by omega
        have t3 : kTo (kU Ψ2 555 (vecP (F k))) (tlN vecP m F k) := ⟨by rw [kUn (by decide) rfl]; exact t2.1, fun i hi => ⟨by rw [kUn (by omega) rfl]; exact (t2.2 i hi).1, (t2.2 i hi).2⟩⟩
        refine tc_tell hL s3 t3 (by omega) (fun Ψ4 c4 s4 t4 k4 => ⟨rfl, ?_⟩)
        refine ih (k + 1) (by omega) Ψ4 c4 s4 (l2.kp (fun s q => (k4 s (by omega)).trans (kUn (by omega) rfl))) (by rw [ed]; exact t4) (fun j hj2 hb2 => ?_)
        by_cases w : j = k
        · rw [w]; exact y
        · exact hj j (by omega) hb2
      · have hb : ¬ kbit m k = true := fun w => z (kb.mpr w)
        rw [if_neg hb] at ed
        refine ih (k + 1) (by omega) Ψ2 c2 s2 l2 (by rw [ed]; exact t2) (fun j hj2 hb2 => ?_)
        by_cases w : j = k
        · rw [w] at hb2; exact absurd hb2 hb
        · exact hj j (by omega) hb2
  exact loop 12 0 (by omega) Ψ1 c1 s1 hl1 t1 (fun j hj => by omega)
/-- the told vectors are their own reverses -/
theorem tl_rev {m : Int} {F : Int → KF} : ∀ k, (∀ j : Nat, j < k → kbit m j = true → kMir (kind (F j))) → ∀ i, i < (tlN vecP m F k).1 → kEq (revP ((tlN vecP m F k).2 i)) ((tlN vecP m F k).2 i)
  | 0, _, i, hi => absurd hi (by show ¬ i < 0; omega)
  | k + 1, h, i, hi => by
    have ed : tlN vecP m F (k + 1) = if kbit m k = true then lsPut (tlN vecP m F k) (vecP (F k)) else tlN vecP m F k := rfl
    rw [ed] at hi ⊢
    have ih := tl_rev k (fun j hj => h j (by omega))
    by_cases q : kbit m k = true
    · rw [if_pos q] at hi ⊢
      have hi' : i < (tlN vecP m F k).1 + 1 := hi
      show kEq (revP (if i = (tlN vecP m F k).1 then vecP (F k) else (tlN vecP m F k).2 i)) (if i = (tlN vecP m F k).1 then vecP (F k) else (tlN vecP m F k).2 i)
      by_cases w : i = (tlN vecP m F k).1
      · rw [if_pos w]; exact vec_rev (kMir_obj (h k (by omega) q))
      · rw [if_neg w]; exact ih i (by omega)
    · rw [if_neg q] at hi ⊢; exact ih i hi
theorem tc_howManyCome (hL : kLay S0) (hs : kCh Ψ c0 c) (ht : kTo Ψ (tlN vecP m F 12)) (h6 : kCn (kbit m) 12 ≤ 6) (hM : kMirS F m = true) {n : Nat} (hn : n ≤ 3) (h : ∀ Ψ' c', kCh Ψ' c0 c' → P (some (kI ((cmS m F f n).2.1 : Int))) c') (hx1 : S0.2.1 x1 = (2, 16) := by first | with_reducible assumption | with_reducible exact lsh_555 hL | with_reducible exact lsh_556 hL | with_reducible exact lsh_557 hL | with_reducible exact lsh_524 hL | with_reducible exact lsh_525 hL | with_reducible exact lsh_526 hL | with_reducible exact lsh_527 hL | with_reducible exact lsh_529 hL | with_reducible exact lsh_530 hL | with_reducible exact lsh_531 hL | with_reducible exact lsh_532 hL | with_reducible exact lsh_549 hL | with_reducible exact lsh_550 hL | with_reducible exact lsh_551 hL | with_reducible exact lsh_552 hL) (ne : x1 < 170 := by omega) (e1 : Ψ x1 = f := by repeat (first | with_reducible exact kUs | with_reducible assumption | (with_reducible apply kUn; omega) | exact rfl)) (b1 : kB kLB f := by repeat' (first | with_reducible assumption | with_reducible exact farP_bdL | with_reducible apply vecP_bd | with_reducible apply nrmP_bd | with_reducible apply revP_bd | with_reducible apply whlP_bd (Or.inr rfl) | with_reducible apply whlP_bd (Or.inl rfl) | with_reducible apply mulP_bdL | with_reducible exact plcP_bd (by omega) (by omega))) : kC2 G S0 kM_X3_howManyCome (d + 5) [kA 214, kA x1, kI (n : Int)] c P := by
  have hlen := tlN_le vecP m F 12
  have hrev := tl_rev 12 (kMirS_iff.mp hM)
  refine v_X3_howManyCome hL hx1 (by omega) ?_
  refine tc_start hL hs (fun Ψ1 c1 s1 p1 k1 => ⟨rfl, ?_⟩)
  have loop : ∀ q t : Nat, t + q = n → ∀ Ψ2 c2, kCh Ψ2 c0 c2 → kPo Ψ2 (cmS m F f t).2 → kKq Ψ Ψ2 → kW2 G S0 kM_X3_howManyCome (d + 5) 10 [some (kA 214), none, some (kI (n : Int)), some (kI ((cmS m F f t).1 : Int)), some (kI (t : Int)), none] [] c2 P := by
    intro q
    induction q with
    | zero =>
      intro t ht2 Ψ2 c2 s2 p2 k2
      obtain rfl : t = n := by omega
      have hc := cmS_le m F f h6 t
      have h3 := hc.2.2.2 hn
      have h2 := hc.2.1
      have e0 : c2 222 1 = ((cmS m F f t).2.1 : Int) := (s2.at 222 1 (by omega)).trans p2.1
      refine v_X3_howManyCome_10 hL (by omega) (by omega) (by omega) ⟨fun _ => ?_, fun w => by omega⟩
      rw [e0]; exact h _ _ s2
    | succ q ih =>
      intro t ht2 Ψ2 c2 s2 p2 k2
      have hc := cmS_le m F f h6 t
      have h3 := hc.2.2.2 (by omega)
      have h2 := hc.2.1
      have hz := hc.2.2.1 (by omega)
      have e0 : c2 222 1 = ((cmS m F f t).2.1 : Int) := (s2.at 222 1 (by omega)).trans p2.1
      refine v_X3_howManyCome_10 hL (by omega) (by omega) (by omega) ⟨fun w => by omega, fun _ => ?_⟩
      rw [e0]
      refine tc_addTurned hL s2 p2 (ht.k (by omega) k2) ⟨by omega, hrev⟩ h2 (by rw [hlen]; exact hz) (fun Ψ3 c3 s3 p3 k3 => ⟨rfl, ?_⟩)
      rw [← sprI_U] at p3
      exact ih (t + 1) (by omega) Ψ3 c3 s3 p3 (k2.tr k3)
  exact loop n 0 (by omega) Ψ1 c1 s1 p1 k1
theorem tc_turnsBetween (hL : kLay S0) (hs : kCh Ψ c0 c) (ht : kTo Ψ (tlN vecP m F 12)) (h6 : kCn (kbit m) 12 ≤ 6) (hM : kMirS F m = true) (h : ∀ Ψ' c', kCh Ψ' c0 c' → P (some (kI (brN m F f g 4 0))) c') (hx1 : S0.2.1 x1 = (2, 16) := by first | with_reducible assumption | with_reducible exact lsh_555 hL | with_reducible exact lsh_556 hL | with_reducible exact lsh_557 hL | with_reducible exact lsh_524 hL | with_reducible exact lsh_525 hL | with_reducible exact lsh_526 hL | with_reducible exact lsh_527 hL | with_reducible exact lsh_529 hL | with_reducible exact lsh_530 hL | with_reducible exact lsh_531 hL | with_reducible exact lsh_532 hL | with_reducible exact lsh_549 hL | with_reducible exact lsh_550 hL | with_reducible exact lsh_551 hL | with_reducible exact lsh_552 hL) (hx2 : S0.2.1 x2 = (2, 16) := by first | with_reducible assumption | with_reducible exact lsh_555 hL | with_reducible exact lsh_556 hL | with_reducible exact lsh_557 hL | with_reducible exact lsh_524 hL | with_reducible exact lsh_525 hL | with_reducible exact lsh_526 hL | with_reducible exact lsh_527 hL | with_reducible exact lsh_529 hL | with_reducible exact lsh_530 hL | with_reducible exact lsh_531 hL | with_reducible exact lsh_532 hL | with_reducible exact lsh_549 hL | with_reducible exact lsh_550 hL | with_reducible exact lsh_551 hL | with_reducible exact lsh_552 hL) (ne : x1 < 170 ∧ x2 < 170 := by omega) (e1 : Ψ x1 = f := by repeat (first | with_reducible exact kUs | with_reducible assumption | (with_reducible apply kUn; omega) | exact rfl)) (e2 : Ψ x2 = g := by repeat (first | with_reducible exact kUs | with_reducible assumption | (with_reducible apply kUn; omega) | exact rfl)) (b1 : kB kLB f := by repeat' (first | with_reducible assumption | with_reducible exact farP_bdL | with_reducible apply vecP_bd | with_reducible apply nrmP_bd | with_reducible apply revP_bd | with_reducible apply whlP_bd (Or.inr rfl) | with_reducible apply whlP_bd (Or.inl rfl) | with_reducible apply mulP_bdL | with_reducible exact plcP_bd (by omega) (by omega))) (b2 : kB kLB g := by repeat' (first | with_reducible assumption | with_reducible exact farP_bdL | with_reducible apply vecP_bd | with_reducible apply nrmP_bd | with_reducible apply revP_bd | with_reducible apply whlP_bd (Or.inr rfl) | with_reducible apply whlP_bd (Or.inl rfl) | with_reducible apply mulP_bdL | with_reducible exact plcP_bd (by omega) (by omega))) : kC2 G S0 kM_X3_turnsBetween (d + 5) [kA 214, kA x1, kA x2] c P := by
  obtain ⟨n1, n2⟩ := ne
  have hlen := tlN_le vecP m F 12
  have hrev := tl_rev 12 (kMirS_iff.mp hM)
  have bg := nrmP_bd b2
  refine v_X3_turnsBetween hL hx1 hx2 ?_
  refine tc_copy hL hs (fun c1 s1 => ⟨rfl, ?_⟩)
  refine tc_normalise hL s1 (fun c2 s2 => ⟨rfl, ?_⟩)
  refine tc_start hL s2 (fun Ψ3 c3 s3 p3 k3 => ⟨rfl, ?_⟩)
  have g3 : Ψ3 527 = nrmP g := (k3 527 (by omega)).trans kUs
  have t3 : kTo Ψ3 (tlN vecP m F 12) := ⟨by rw [k3 214 (by omega), kUn (by decide) (kUn (by decide) rfl)]; exact ht.1, fun i hi => ⟨by rw [k3 _ (by omega), kUn (by omega) (kUn (by omega) rfl)]; exact (ht.2 i hi).1, (ht.2 i hi).2⟩⟩
  have bh : ∀ t, brHas m F f g t = true ↔ ∃ i, i < (cmS m F f t).2.1 ∧ kEq ((cmS m F f t).2.2 i) (nrmP g) := fun t => lsHas_iff _
  have loop : ∀ q t : Nat, t + q = 3 → ∀ Ψ4 c4, kCh Ψ4 c0 c4 → kPo Ψ4 (cmS m F f t).2 → kKq Ψ3 Ψ4 → ¬ brHas m F f g t = true → brN m F f g 4 0 = brN m F f g q (t + 1) → kW2 G S0 kM_X3_turnsBetween (d + 5) 35 [some (kA 214), none, none, some (kI ((cmS m F f t).1 : Int)), some (kI ((t : Int) + 1)), none] [] c4 P := by
    intro q
    induction q with
    | zero =>
      intro t ht2 Ψ4 c4 s4 p4 k4 hno eb
      have hc := cmS_le m F f h6 t
      have h3 := hc.2.2.2 (by omega)
      have h2 := hc.2.1
      have := h _ _ s4
      rw [eb] at this
      exact v_X3_turnsBetween_35 hL (by omega) (by omega) ⟨fun _ => this, fun w => by omega⟩
    | succ q ih =>
      intro t ht2 Ψ4 c4 s4 p4 k4 hno eb
      have hc := cmS_le m F f h6 t
      have h3 := hc.2.2.2 (by omega)
      have h2 := hc.2.1
      have hz := hc.2.2.1 (by omega)
      have hc9 := (cmS_le m F f h6 (t + 1)).2.2.2 (by omega)
      have e0 : c4 222 1 = ((cmS m F f t).2.1 : Int) := (s4.at 222 1 (by omega)).trans p4.1
      refine v_X3_turnsBetween_35 hL (by omega) (by omega) ⟨fun w => by omega, fun _ => ?_⟩
      rw [e0]
      refine tc_addTurned hL s4 p4 (t3.k (by omega) k4) ⟨by omega, hrev⟩ h2 (by rw [hlen]; exact hz) (fun Ψ5 c5 s5 p5 k5 => ⟨rfl, ?_⟩)
      rw [← sprI_U] at p5
      have p5' : kPo Ψ5 (cmS m F f (t + 1)).2 := p5
      have hk5 : ∀ i, i < (cmS m F f t).2.1 → (cmS m F f (t + 1)).2.2 i = (cmS m F f t).2.2 i := fun i hi => by
        show (sprI m F (cmS m F f t).1 ((cmS m F f t).2.1 - (cmS m F f t).1) (cmS m F f t).2).2 i = _
        rw [sprI_U]; exact sprU_keep _ _ _ _ i hi
      have hle5 : (cmS m F f t).2.1 ≤ (cmS m F f (t + 1)).2.1 := by
        show _ ≤ (sprI m F (cmS m F f t).1 ((cmS m F f t).2.1 - (cmS m F f t).1) (cmS m F f t).2).1
        exact (sprI_le m F (cmS m F f t).1 (cmS m F f t).2 _).1
      have same : brHas m F f g (t + 1) = true ↔ ∃ i, (cmS m F f t).2.1 ≤ i ∧ i < (cmS m F f (t + 1)).2.1 ∧ kEq ((cmS m F f (t + 1)).2.2 i) (nrmP g) := by
        rw [bh]
        constructor
        · rintro ⟨i, a, b⟩
          refine ⟨i, ?_, a, b⟩
          apply Classical.byContradiction
          intro w
          rw [hk5 i (by omega)] at b
          exact hno ((bh t).mpr ⟨i, by omega, b⟩)
        · rintro ⟨i, _, a, b⟩; exact ⟨i, a, b⟩
      have eN : brN m F f g (q + 1) (t + 1) = if brHas m F f g (t + 1) = true then ((t + 1 : Nat) : Int) else brN m F f g q (t + 1 + 1) := rfl
      have g5 : Ψ5 527 = nrmP g := (k5 527 (by omega)).trans ((k4 527 (by omega)).trans g3)
      refine tc_hasCome hL s5 p5' hc9 hle5 (fun w => ⟨1, rfl, kr1 ?_⟩) (fun w => ⟨0, rfl, kr0 ?_⟩) g5 bg
      · have := h _ _ s5
        rw [eb, eN, if_pos (same.mpr w)] at this
        exact this
      · have := ih (t + 1) (by omega) Ψ5 c5 s5 p5' (k4.tr k5) (fun y => w (same.mp y)) (by rw [eb, eN, if_neg (fun y => w (same.mp y))])
        exact this
  have p3' : kPo Ψ3 (cmS m F f 0).2 := p3
  have eN : brN m F f g 4 0 = if brHas m F f g 0 = true then ((0 : Nat) : Int) else brN m F f g 3 (0 + 1) := rfl
  refine tc_hasCome hL s3 p3' (by show 1 ≤ 300; omega) (fr := 0) (by omega) (fun w => ⟨1, rfl, kr1 ?_⟩) (fun w => ⟨0, rfl, kr0 ?_⟩) g3 bg
  · have := h _ _ s3
    rw [eN, if_pos ((bh 0).mpr (by obtain ⟨i, _, a, b⟩ := w; exact ⟨i, a, b⟩))] at this
    exact this
  · have hno : ¬ brHas m F f g 0 = true := fun y => w (by obtain ⟨i, a, b⟩ := (bh 0).mp y; exact ⟨i, by omega, a, b⟩)
    exact loop 3 0 (by omega) Ψ3 c3 s3 p3' kKq.rf hno (by rw [eN, if_neg hno])
theorem tc_addProducts (hL : kLay S0) (hs : kCh Ψ c0 c) (hp : kPo Ψ S) (ht : kTo Ψ T) (hT : T.1 ≤ 6) (hS : S.1 ≤ 200) {i : Nat} (hi : i < S.1) (h : ∀ Ψ' c', kCh Ψ' c0 c' → kPo Ψ' (fdT (gpQ (S.2 i)) T.2 T.1 S) → kKq Ψ Ψ' → P none c') : kC2 G S0 kM_X3_addProducts (d + 3) [kA 214, kA (223 + 1 + (i : Int))] c P := by
  have w1 := prow hL (i := (i : Int)) (by omega)
  have loop : ∀ n k : Nat, k + n = T.1 → ∀ Ψ2 c2, kCh Ψ2 c0 c2 → kPo Ψ2 (fdT (gpQ (S.2 i)) T.2 k S) → kKq Ψ Ψ2 → kW2 G S0 kM_X3_addProducts (d + 3) 2 [some (kA 214), some (kA (223 + 1 + (i : Int))), some (kI (k : Int))] [] c2 P := by
    intro n
    induction n with
    | zero =>
      intro k hk Ψ2 c2 s2 p2 k2
      obtain rfl : k = T.1 := by omega
      have e0 : c2 214 1 = (T.1 : Int) := (s2.at 214 1 (by omega)).trans (ht.k hT k2).1
      exact v_X3_addProducts_2 hL w1 (by omega) (by omega) ⟨fun _ => h _ _ s2 p2 k2, fun q => by omega⟩
    | succ n ih =>
      intro k hk Ψ2 c2 s2 p2 k2
      have t2 := ht.k hT k2
      have e0 : c2 214 1 = (T.1 : Int) := (s2.at 214 1 (by omega)).trans t2.1
      have hf := fd_gpQ_le (S.2 i) T.2 S hS k
      have e3 : c2 222 1 = ((fdT (gpQ (S.2 i)) T.2 k S).1 : Int) := (s2.at 222 1 (by omega)).trans p2.1
      have hrow := p2.2 i (by omega)
      rw [hf.2.2 i hi] at hrow
      have htk := t2.2 k (by omega)
      have w2 := trow hL (i := (k : Int)) (by omega)
      have er := hrow.1
      have et := htk.1
      have br := hrow.2
      have bt := htk.2
      have ed : fdT (gpQ (S.2 i)) T.2 (k + 1) S = if (fdT (gpQ (S.2 i)) T.2 k S).1 < 200 ∧ kWb (mulP 0 (S.2 i) (T.2 k)) = true then lsAdd (fdT (gpQ (S.2 i)) T.2 k S) (nrmP (mulP 0 (S.2 i) (T.2 k))) else fdT (gpQ (S.2 i)) T.2 k S := rfl
      refine v_X3_addProducts_2 hL w1 (by omega) (by omega) ⟨fun q => by omega, fun _ => ⟨by rw [e3]; exact k32i (by omega), fun q => ?_, fun q => ?_⟩⟩
      · have := fd_gpQ_stay (S.2 i) T.2 S k (by omega) (n + 1)
        rw [hk] at this
        exact h _ _ s2 (by rw [this]; exact p2) k2
      · refine tc_multiply hL s2 (Or.inl rfl) (fun c3 s3 => ⟨rfl, ?_⟩)
        have kk : kKq Ψ2 (kU Ψ2 526 (mulP 0 (S.2 i) (T.2 k))) := fun s q => kUn (by omega) rfl
        have pk : ∀ A, kPo (kU Ψ2 526 A) (fdT (gpQ (S.2 i)) T.2 k S) := fun A => ⟨by rw [kUn (by decide) rfl]; exact p2.1, fun j hj => ⟨by rw [kUn (by omega) rfl]; exact (p2.2 j hj).1, (p2.2 j hj).2⟩⟩
        have bm := mulP_bdL (kd := 0) br bt
        refine tc_isWithinBound hL s3 (fun w => ⟨1, rfl, kr1 ?_⟩) (fun w => ⟨0, rfl, kr0 ?_⟩)
        · rw [if_pos ⟨by omega, w⟩] at ed
          refine tc_normalise hL s3 (fun c4 s4 => ⟨rfl, ?_⟩)
          have bn := nrmP_bd (kWb_iff.mp w)
          have p4 : kPo (kU (kU Ψ2 526 (mulP 0 (S.2 i) (T.2 k))) 526 (nrmP (mulP 0 (S.2 i) (T.2 k)))) (fdT (gpQ (S.2 i)) T.2 k S) := ⟨by rw [kUn (by decide) (kUn (by decide) rfl)]; exact p2.1, fun j hj => ⟨by rw [kUn (by omega) (kUn (by omega) rfl)]; exact (p2.2 j hj).1, (p2.2 j hj).2⟩⟩
          refine tc_addIfNew hL s4 p4 (by omega) (fun Ψ5 c5 s5 p5 k5 => ⟨rfl, ?_⟩)
          exact ih (k + 1) (by omega) Ψ5 c5 s5 (by rw [ed]; exact p5) (fun s q => (k5 s (by omega)).trans ((kUn (by omega) (kUn (by omega) rfl)).trans (k2 s q)))
        · rw [if_neg (fun z => w z.2)] at ed
          exact ih (k + 1) (by omega) _ _ s3 (by rw [ed]; exact pk _) (k2.tr kk)
  exact v_X3_addProducts hL w1 (loop T.1 0 (by omega) Ψ c hs hp kKq.rf)
theorem tc_groupSize (hL : kLay S0) (hs : kCh Ψ c0 c) (ht : kTo Ψ (tlN id m F 12)) (h6 : kCn (kbit m) 12 ≤ 6) (h : ∀ Ψ' c', kCh Ψ' c0 c' → P (some (kI ((gpG m F 200 0 (gpK m F 12)).1 : Int))) c') : kC2 G S0 kM_X3_groupSize (d + 4) [kA 214] c P := by
  have hlen := tlN_le id m F 12
  refine v_X3_groupSize hL ?_
  refine tc_clear hL hs (fun Ψ1 c1 s1 p1 k1 => ⟨rfl, ?_⟩)
  have t1 : kTo Ψ1 (tlN id m F 12) := ⟨by rw [k1 214 (by omega)]; exact ht.1, fun i hi => ⟨by rw [k1 _ (by omega)]; exact (ht.2 i hi).1, (ht.2 i hi).2⟩⟩
  have L2 : ∀ n i : Nat, i + n = 200 → ∀ (S : KLs) Ψ2 c2, S.1 ≤ 200 → kCh Ψ2 c0 c2 → kPo Ψ2 S → kKq Ψ1 Ψ2 → gpG m F n i S = gpG m F 200 0 (gpK m F 12) → kW2 G S0 kM_X3_groupSize (d + 4) 56 [some (kA 214), some (kI (i : Int))] [] c2 P := by
    intro n
    induction n with
    | zero =>
      intro i hi S Ψ2 c2 hS s2 p2 k2 eg
      have e3 : c2 222 1 = (S.1 : Int) := (s2.at 222 1 (by omega)).trans p2.1
      have hP := h _ _ s2
      rw [← eg] at hP
      refine v_X3_groupSize_56 hL (by omega) ⟨fun _ => s_min hL (by rw [e3]; exact k32i (by omega)) (k32i (by omega)) ⟨_, rfl, ?_⟩, fun q => by omega⟩
      rw [e3, if_neg (by omega)]; exact hP
    | succ n ih =>
      intro i hi S Ψ2 c2 hS s2 p2 k2 eg
      have e3 : c2 222 1 = (S.1 : Int) := (s2.at 222 1 (by omega)).trans p2.1
      have ed : gpG m F (n + 1) i S = if i < S.1 then gpG m F n (i + 1) (gpP m F (S.2 i) 12 S) else S := rfl
      refine v_X3_groupSize_56 hL (by omega) ⟨fun q => by omega, fun _ => ⟨by rw [e3]; exact k32i (by omega), fun q => s_min hL (by rw [e3]; exact k32i (by omega)) (k32i (by omega)) ⟨_, rfl, ?_⟩, fun q => ⟨by omega, ?_⟩⟩⟩
      · have hP := h _ _ s2
        rw [← eg, ed, if_neg (by omega)] at hP
        rw [e3, if_neg (by omega)]; exact hP
      · have hiS : i < S.1 := by omega
        rw [if_pos hiS, gpP_T] at ed
        refine tc_addProducts hL s2 p2 (t1.k (by omega) k2) (by omega) hS hiS (fun Ψ3 c3 s3 p3 k3 => ⟨rfl, ?_⟩)
        exact ih (i + 1) (by omega) _ Ψ3 c3 (fd_gpQ_le (S.2 i) (tlN id m F 12).2 S hS _).2.1 s3 p3 (k2.tr k3) (by rw [← eg, ed])
  have L1 : ∀ n k : Nat, k + n = (tlN id m F 12).1 → ∀ Ψ2 c2, kCh Ψ2 c0 c2 → kPo Ψ2 (fdT gpF (tlN id m F 12).2 k (0, fun _ _ => 0)) → kKq Ψ1 Ψ2 → kW2 G S0 kM_X3_groupSize (d + 4) 9 [some (kA 214), some (kI (k : Int))] [] c2 P := by
    intro n
    induction n with
    | zero =>
      intro k hk Ψ2 c2 s2 p2 k2
      obtain rfl : k = (tlN id m F 12).1 := by omega
      have e0 : c2 214 1 = ((tlN id m F 12).1 : Int) := (s2.at 214 1 (by omega)).trans (t1.k (by omega) k2).1
      rw [← gpK_T] at p2
      have hg := gpK_le m F 12
      exact v_X3_groupSize_9 hL (by omega) (by omega) ⟨fun _ => L2 200 0 (by omega) _ Ψ2 c2 (by omega) s2 p2 k2 rfl, fun q => by omega⟩
    | succ n ih =>
      intro k hk Ψ2 c2 s2 p2 k2
      have t2 := t1.k (by omega) k2
      have e0 : c2 214 1 = ((tlN id m F 12).1 : Int) := (s2.at 214 1 (by omega)).trans t2.1
      have htk := t2.2 k (by omega)
      have w2 := trow hL (i := (k : Int)) (by omega)
      have et := htk.1
      have bt := htk.2
      have hle := fd_gpF_le (tlN id m F 12).2 k
      refine v_X3_groupSize_9 hL (by omega) (by omega) ⟨fun q => by omega, fun _ => ?_⟩
      refine tc_copy hL s2 (fun c3 s3 => ⟨rfl, ?_⟩)
      refine tc_normalise hL s3 (fun c4 s4 => ⟨rfl, ?_⟩)
      have p4 : kPo (kU (kU Ψ2 526 ((tlN id m F 12).2 k)) 526 (nrmP ((tlN id m F 12).2 k))) (fdT gpF (tlN id m F 12).2 k (0, fun _ _ => 0)) := ⟨by rw [kUn (by decide) (kUn (by decide) rfl)]; exact p2.1, fun j hj => ⟨by rw [kUn (by omega) (kUn (by omega) rfl)]; exact (p2.2 j hj).1, (p2.2 j hj).2⟩⟩
      refine tc_addIfNew hL s4 p4 (by omega) (fun Ψ5 c5 s5 p5 k5 => ⟨rfl, ?_⟩)
      exact ih (k + 1) (by omega) Ψ5 c5 s5 p5 (fun s q => (k5 s (by omega)).trans ((kUn (by omega) (kUn (by omega) rfl)).trans (k2 s q)))
  exact L1 (tlN id m F 12).1 0 (by omega) Ψ1 c1 s1 p1 kKq.rf
theorem kLs_any {m : Int} (hm : 0 ≤ m ∧ m < 4096) (h : (kpop m.toNat : Int) ≤ 6) : kCn (kbit m) 12 ≤ 6 := by rw [← kpop_bit hm]; omega
theorem s_X10_come (hL : kLay S0) (r1 : k32 x1) (r2 : k32 x2) (r3 : k32 x3) (hs : CSt H F c) (h : ∀ c', kCP c c' → P (some (kI (vCome H F x1 x2 x3))) c') : kC2 G S0 kM_X10_come (d + 7) [kA 0, kI x1, kI x2, kI x3] c P := by
  have hP := kCi h
  unfold vCome at hP
  obtain ⟨Ψ, s0, hl⟩ := hs.op
  refine v_X10_come hL r1 r2 r3 ⟨hs.1.1, fun y1 => ?_, fun y1 => hP _ _ kCP.rf (by rw [if_neg (fun q => y1 ((hs.hh _).mpr q))])⟩
  have y1' := (hs.hh _).mp y1
  rw [if_pos y1'] at hP
  obtain ⟨a1, b1, e1, q1⟩ := hl.1 _ y1'
  have w1 := lrow hL a1 b1
  refine tc_areTold hL r2 (k32i (by omega)) hs (fun q => ⟨1, rfl, kr1 ?_⟩) (fun q => ⟨0, rfl, kr0 (hP _ _ kCP.rf (by rw [if_neg q]))⟩)
  rw [if_pos q] at hP
  obtain ⟨q2, q3⟩ := kSetB_iff.mp q
  have hm : 0 ≤ x2 ∧ x2 < 4096 := by omega
  have h6 := kLs_any hm q2.2.2
  refine ⟨fun z => hP _ _ kCP.rf (by rw [if_neg (by omega)]), fun z0 => ⟨fun z1 => ?_, fun z => hP _ _ kCP.rf (by rw [if_neg (by omega)])⟩⟩
  rw [if_pos ⟨z0, z1⟩] at hP
  refine tc_tellMirrors hL s0 hl hm h6 q3 (fun Ψ1 c1 s1 l1 t1 hM => ⟨1, rfl, kq1 ⟨⟨a1, b1⟩, ?_⟩⟩) (fun Ψ1 c1 s1 hM => ⟨0, rfl, kq0 (hP _ _ s1.rp (by rw [if_neg hM]))⟩)
  rw [if_pos hM] at hP
  obtain ⟨_, _, e4, q4⟩ := l1.1 _ y1'
  obtain ⟨n, rfl⟩ := kint_nat z0
  refine tc_howManyCome hL s1 t1 h6 hM (n := n) (by omega) (fun Ψ2 c2 s2 => ⟨_, rfl, ?_⟩)
  exact hP _ _ s2.rp rfl
theorem s_X10_brought (hL : kLay S0) (r1 : k32 x1) (r2 : k32 x2) (r3 : k32 x3) (hs : CSt H F c) (h : ∀ c', kCP c c' → P (some (kI (vBrought H F x1 x2 x3))) c') : kC2 G S0 kM_X10_brought (d + 7) [kA 0, kI x1, kI x2, kI x3] c P := by
  have hP := kCi h
  unfold vBrought at hP
  obtain ⟨Ψ, s0, hl⟩ := hs.op
  refine v_X10_brought hL r1 r2 r3 ⟨hs.1.1, fun y1 => ?_, fun y1 => hP _ _ kCP.rf (by rw [if_neg (fun q => y1 ((hs.hh _).mpr q))])⟩
  have y1' := (hs.hh _).mp y1
  rw [if_pos y1'] at hP
  refine ⟨fun y2 => ?_, fun y2 => hP _ _ kCP.rf (by rw [if_neg (fun q => y2 ((hs.hh _).mpr q))])⟩
  have y2' := (hs.hh _).mp y2
  rw [if_pos y2'] at hP
  obtain ⟨a1, b1, e1, q1⟩ := hl.1 _ y1'
  obtain ⟨a2, b2, e2, q2⟩ := hl.1 _ y2'
  have w1 := lrow hL a1 b1
  have w2 := lrow hL a2 b2
  refine tc_areTold hL r3 (k32i (by omega)) hs (fun q => ⟨1, rfl, kq1 ?_⟩) (fun q => ⟨0, rfl, kq0 (hP _ _ kCP.rf (by rw [if_neg q]))⟩)
  rw [if_pos q] at hP
  obtain ⟨q4, q3⟩ := kSetB_iff.mp q
  have hm : 0 ≤ x3 ∧ x3 < 4096 := by omega
  have h6 := kLs_any hm q4.2.2
  refine tc_tellMirrors hL s0 hl hm h6 q3 (fun Ψ1 c1 s1 l1 t1 hM => ⟨1, rfl, kq1 ⟨⟨a1, b1⟩, ⟨a2, b2⟩, ?_⟩⟩) (fun Ψ1 c1 s1 hM => ⟨0, rfl, kq0 (hP _ _ s1.rp (by rw [if_neg hM]))⟩)
  rw [if_pos hM] at hP
  obtain ⟨_, _, e4, q5⟩ := l1.1 _ y1'
  obtain ⟨_, _, e6, q6⟩ := l1.1 _ y2'
  refine tc_turnsBetween hL s1 t1 h6 hM (fun Ψ2 c2 s2 => ⟨_, rfl, ?_⟩)
  exact hP _ _ s2.rp rfl
theorem s_X10_group (hL : kLay S0) (r1 : k32 x1) (hs : CSt H F c) (h : ∀ c', kCP c c' → P (some (kI (vGroup H F x1))) c') : kC2 G S0 kM_X10_group (d + 6) [kA 0, kI x1] c P := by
  have hP := kCi h
  unfold vGroup at hP
  obtain ⟨Ψ, s0, hl⟩ := hs.op
  refine v_X10_group hL r1 ?_
  refine tc_areTold hL r1 (k32i (by omega)) hs (fun q => ⟨1, rfl, kq1 ?_⟩) (fun q => ⟨0, rfl, kq0 (hP _ _ kCP.rf (by rw [if_neg q]))⟩)
  rw [if_pos q] at hP
  obtain ⟨q4, q3⟩ := kSetB_iff.mp q
  have hm : 0 ≤ x1 ∧ x1 < 4096 := by omega
  have h6 := kLs_any hm q4.2.2
  refine tc_tellNone hL s0 (fun Ψ1 c1 s1 t1 k1 => ⟨rfl, ?_⟩)
  have hl1 : kCl H F Ψ1 := hl.kp (fun s q => k1 s (by omega))
  have loop : ∀ n k : Nat, k + n = 12 → ∀ Ψ2 c2, kCh Ψ2 c c2 → kCl H F Ψ2 → kTo Ψ2 (tlN id x1 F k) → (∀ j : Nat, j < k → kbit x1 j = true → kMot (F j) = true) → kW2 G S0 kM_X10_group (d + 6) 21 [some (kA 0), some (kI x1), some (kI (k : Int))] [] c2 P := by
    intro n
    induction n with
    | zero =>
      intro k hk Ψ2 c2 s2 l2 t2 hj
      obtain rfl : k = 12 := by omega
      refine v_X10_group_21 hL (by omega) (by omega) ⟨fun _ => ?_, fun q => by omega⟩
      rw [if_pos (kMotS_iff.mpr hj)] at hP
      refine tc_groupSize hL s2 t2 h6 (fun Ψ3 c3 s3 => ⟨_, rfl, ?_⟩)
      exact hP _ _ s3.rp rfl
    | succ n ih =>
      intro k hk Ψ2 c2 s2 l2 t2 hj
      have kb := kbit_ne (m := x1) (k := k) hm (by omega)
      have ed : tlN id x1 F (k + 1) = if kbit x1 k = true then lsPut (tlN id x1 F k) (F k) else tlN id x1 F k := rfl
      refine v_X10_group_21 hL (by omega) (by omega) ⟨fun q => by omega, fun _ => ⟨fun z => ?_, fun z => ?_⟩⟩
      · have hb := kb.mp z
        rw [if_pos hb] at ed
        obtain ⟨a1, b1, e1, q1⟩ := l2.1 _ (q3 k (by omega) hb)
        have w1 := lrow hL a1 b1
        have hc := kCn_mono (kbit x1) k 12 (by omega)
        rw [if_pos hb] at hc
        have hlen := tlN_le id x1 F k
        refine ⟨⟨a1, b1⟩, ?_⟩
        refine tc_isMotion hL s2 (fun Ψ3 c3 s3 kp y => ⟨1, rfl, kq1 ?_⟩) (fun Ψ3 c3 s3 kp y => ⟨0, rfl, kq0 (hP _ _ s3.rp (by rw [if_neg (fun w => y (kMotS_iff.mp w k (by omega) hb))]))⟩)
        have e3 : Ψ3 (3 + 2 + (k : Int)) = F k := (kp _ (by omega) (by omega) (by omega)).trans e1
        have t3 : kTo Ψ3 (tlN id x1 F k) := ⟨by rw [kp 214 (by omega) (by omega) (by omega)]; exact t2.1, fun i hi => ⟨by rw [kp _ (by omega) (by omega) (by omega)]; exact (t2.2 i hi).1, (t2.2 i hi).2⟩⟩
        refine tc_tell hL s3 t3 (by omega) (fun Ψ4 c4 s4 t4 k4 => ⟨rfl, ?_⟩)
        refine ih (k + 1) (by omega) Ψ4 c4 s4 (l2.kp (fun s q => (k4 s (by omega)).trans (kp s (by omega) (by omega) (by omega)))) (by rw [ed]; exact t4) (fun j hj2 hb2 => ?_)
        by_cases w : j = k
        · rw [w]; exact y
        · exact hj j (by omega) hb2
      · have hb : ¬ kbit x1 k = true := fun w => z (kb.mpr w)
        rw [if_neg hb] at ed
        refine ih (k + 1) (by omega) Ψ2 c2 s2 l2 (by rw [ed]; exact t2) (fun j hj2 hb2 => ?_)
        by_cases w : j = k
        · rw [w] at hb2; exact absurd hb2 hb
        · exact hj j (by omega) hb2
  exact loop 12 0 (by omega) Ψ1 c1 s1 hl1 t1 (fun j hj => by omega)
end CPQ
