theorem kCn_0 {p : Nat → Bool} : ∀ n, (∀ j, j < n → p j = false) → kCn p n = 0
  | 0, _ => rfl
  | n + 1, h => by
    have e : kCn p (n + 1) = if p n = true then kCn p n + 1 else kCn p n := rfl
    rw [e, h n (by omega), if_neg (by decide)]
    exact kCn_0 n (fun j hj => h j (by omega))
theorem kBits_bit (p : Nat → Bool) (k : Nat) : ∀ n, Nat.testBit (kBits p n) k = (decide (k < n) && p k)
  | 0 => by show Nat.testBit 0 k = _; rw [Nat.zero_testBit]; simp
  | n + 1 => by
    have ih := kBits_bit p k n
    have e : kBits p (n + 1) = if p n = true then kBits p n ||| 2 ^ n else kBits p n := rfl
    rw [e]
    by_cases q : p n = true
    · rw [if_pos q, Nat.testBit_or, ih, Nat.testBit_two_pow]
      by_cases w : k = n
      · subst w; simp [q]
      · have h1 : decide (n = k) = false := decide_eq_false (fun y => w y.symm)
        rw [h1, Bool.or_false]
        congr 1
        rw [decide_eq_decide]; omega
    · rw [if_neg q, ih]
      by_cases w : k = n
      · subst w
        have : p k = false := by simpa using q
        rw [this]; simp
      · congr 1
        rw [decide_eq_decide]; omega
/-- the POINTS -/
def kPt (H : Int → Bool) (F : Int → KF) (k : Nat) : Bool := H k && kSo 1 (F k)
def kPs (H : Int → Bool) (F : Int → KF) : Int := (kBits (kPt H F) 12 : Int)
theorem kPs_bit {H : Int → Bool} {F : Int → KF} {k : Nat} (hk : k < 12) : kbit (kPs H F) k = kPt H F k := by
  show Nat.testBit (kBits (kPt H F) 12) k = _
  rw [kBits_bit, decide_eq_true hk, Bool.true_and]
theorem kPs_rg (H : Int → Bool) (F : Int → KF) : 0 ≤ kPs H F ∧ kPs H F < 4096 := by
  have := kBits_lt (kPt H F) 12
  unfold kPs; omega
def vOnO (H : Int → Bool) (F : Int → KF) (o : Int) (n : Nat) : Nat := kCn (fun p => kPt H F p && (mulP 2 (F p) (vecP (F o)) 0 == 0)) n
def kLkB (H : Int → Bool) (F : Int → KF) (a b : Nat) : Bool := decide (a < b) && (H a && H b && !kZb (F a) && !kZb (F b) && kLk (F a) (F b))
def vLikes (H : Int → Bool) (F : Int → KF) : Nat := kCm (kLkB H F) 12 12
/-- the letters by their places -/
def kLet2 (H : Int → Bool) (F : Int → KF) (Φ : Int → KF) (c0 : KMem) : Prop := (∀ l : Int, H l = true → 0 ≤ l ∧ l < 12 ∧ Φ l = F l ∧ kB kLB (F l)) ∧ ∀ k : Int, 0 ≤ k → k < 12 → k32 (c0 564 k) ∧ (c0 564 k ≠ 0 → H k = true) ∧ (c0 564 k = 0 → ¬ H k = true)
set_option maxRecDepth 4000 in
theorem v_X11_goesOuter {G : KG} {S0 : KSh} (hL : kLay S0) {d : Nat} {P : Option AV → KMem → Prop} {c : KMem} {x1 x2 x3 : Int} (r1 : -2147483648 ≤ x1 ∧ x1 < 2147483648) (r2 : -2147483648 ≤ x2 ∧ x2 < 2147483648) (r3 : -2147483648 ≤ x3 ∧ x3 < 2147483648) (H : kC2 G S0 kM_X11_joins (d + 1) [kA 558, kI 1, kI x1, kI x2, kI x3] c (kRN (fun c2 => kC2 G S0 kM_X11_isWithin (d + 1) [kA 558, kI x3] c2 (kRI (fun z3 c4 => (z3 = 0 ∨ z3 = 1) ∧ (P (some (kI z3)) c4)))))) : kC2 G S0 kM_X11_goesOuter (d + 2) [kA 558, kI x1, kI x2, kI x3] c P := by
  refine k2_met (by decide) rfl (Nat.le_of_ble_eq_true rfl) (l0 := [some (kA 558), some (kI x1), some (kI x2), some (kI x3)]) rfl ?_
  refine kw_aload_n dX11_goesOuter_0 rfl ?_
  refine kw_iconst dX11_goesOuter_1 ?_
  refine kw_iload_n dX11_goesOuter_2 rfl ?_
  refine kw_iload_n dX11_goesOuter_3 rfl ?_
  refine kw_iload_n dX11_goesOuter_4 rfl ?_
  refine k2_callV4N (ci := 9) (N := 38) (T := TX11) rfl (lsh_558 hL) m_X11_joins dX11_goesOuter_5 wl_X11_111 (Nat.le_of_ble_eq_true rfl) (kC2_mono H (fun r c2 H => ?_))
  obtain ⟨rfl, H⟩ := H
  refine ⟨rfl, ?_⟩
  refine kw_aload_n dX11_goesOuter_8 rfl ?_
  refine kw_iload_n dX11_goesOuter_9 rfl ?_
  refine k2_callV1I (ci := 9) (N := 38) (T := TX11) rfl (lsh_558 hL) m_X11_isWithin dX11_goesOuter_10 wl_X11_168 (Nat.le_of_ble_eq_true rfl) (kC2_mono H (fun r c4 H => ?_))
  obtain ⟨z3, rfl, H⟩ := H
  refine ⟨z3, rfl, ?_⟩
  have o5 := H.1
  have H := H.2
  refine k2_zret dX11_goesOuter_13 rfl o5 H
set_option maxRecDepth 4000 in
theorem v_X11_onObject {G : KG} {S0 : KSh} (hL : kLay S0) {d : Nat} {P : Option AV → KMem → Prop} {c : KMem} {x1 : Int} (r1 : -2147483648 ≤ x1 ∧ x1 < 2147483648) (H : kW2 G S0 kM_X11_onObject (d + 4) 4 [some (kA 558), some (kI x1), some (kI 0), some (kI 0)] [] c P) : kC2 G S0 kM_X11_onObject (d + 4) [kA 558, kI x1] c P := by
  refine k2_met (by decide) rfl (Nat.le_of_ble_eq_true rfl) (l0 := [some (kA 558), some (kI x1), none, none]) rfl ?_
  refine kw_iconst dX11_onObject_0 ?_
  refine kw_istore_n dX11_onObject_1 (Nat.le_of_ble_eq_true rfl) ?_
  refine kw_iconst dX11_onObject_2 ?_
  refine kw_istore_n dX11_onObject_3 (Nat.le_of_ble_eq_true rfl) ?_
  exact kw_forget (ls' := [some (kA 558), some (kI x1), some (kI 0), some (kI 0)]) ⟨Or.inr rfl, ⟨Or.inr rfl, ⟨Or.inr rfl, ⟨Or.inr rfl, trivial⟩⟩⟩⟩ H
set_option maxRecDepth 4000 in
theorem v_X11_onObject_4 {G : KG} {S0 : KSh} (hL : kLay S0) {d : Nat} {P : Option AV → KMem → Prop} {c : KMem} {x1 x2 x3 : Int} (r1 : -2147483648 ≤ x1 ∧ x1 < 2147483648) (r2 : -2147483648 ≤ x2 ∧ x2 < 2147483648) (r3 : 0 ≤ x3 ∧ x3 < 2147483648) (hp : 0 ≤ x2 ∧ x2 ≤ x3 ∧ x3 ≤ 12 ∧ -2147483648 ≤ c 558 37 ∧ c 558 37 < 2147483648) (H : (12 ≤ x3 → (P (some (kI x2)) c)) ∧ (x3 < 12 → (((kand (kshr (c 558 37) x3) 1 = 1) → (kC2 G S0 kM_X11_liesPoint (d + 3) [kA 558, kI x3, kI x1] c (kRI (fun z4 c5 => (k32 z4) ∧ ((z4 = 0 → (kW2 G S0 kM_X11_onObject (d + 4) 34 [some (kA 558), some (kI x1), some (kI x2), some (kI x3)] [] c5 P)) ∧ (z4 ≠ 0 → (kW2 G S0 kM_X11_onObject (d + 4) 34 [some (kA 558), some (kI x1), some (kI (x2 + 1)), some (kI x3)] [] c5 P))))))) ∧ (¬ (kand (kshr (c 558 37) x3) 1 = 1) → (kW2 G S0 kM_X11_onObject (d + 4) 34 [some (kA 558), some (kI x1), some (kI x2), some (kI x3)] [] c P))))) : kW2 G S0 kM_X11_onObject (d + 4) 4 [some (kA 558), some (kI x1), some (kI x2), some (kI x3)] [] c P := by
  refine kw_iload_n dX11_onObject_4 rfl ?_
  refine kw_bipush dX11_onObject_5 (by decide) ?_
  refine kw_icmp_ge 40 dX11_onObject_7 (by decide) (k32i (by omega)) (k32i (by omega)) (fun h1 => ?_) (fun h1 => ?_)
  · have H := H.1 h1
    refine kw_iload_n dX11_onObject_40 rfl ?_
    refine k2_iret dX11_onObject_41 rfl H
  · have H := H.2 h1
    refine kw_aload_n dX11_onObject_10 rfl ?_
    refine k2_getI fd_X11_37 dX11_onObject_11 wf_X11_452 (lsh_558 hL) ?_
    refine kw_eI (b := (c 558 37)) rfl ?_
    refine kw_iload_n dX11_onObject_14 rfl ?_
    refine k2_callS2I m_X11_has dX11_onObject_15 wl_X11_80 (Nat.le_of_ble_eq_true rfl) (s_X11_has hL (k32i (by omega)) (k32i (by omega)) (fun h2 => ⟨_, rfl, ?_⟩) (fun h2 => ⟨_, rfl, ?_⟩))
    · have H := H.1 h2
      refine kw_if_eq 34 dX11_onObject_18 (by decide) (k32i (by omega)) (fun h3 => absurd h3 (by decide)) (fun _ => ?_)
      refine kw_aload_n dX11_onObject_21 rfl ?_
      refine kw_iload_n dX11_onObject_22 rfl ?_
      refine kw_iload_n dX11_onObject_23 rfl ?_
      refine k2_callV2I (ci := 9) (N := 38) (T := TX11) rfl (lsh_558 hL) m_X11_liesPoint dX11_onObject_24 wl_X11_363 (Nat.le_of_ble_eq_true rfl) (kC2_mono H (fun r c5 H => ?_))
      obtain ⟨z4, rfl, H⟩ := H
      refine ⟨z4, rfl, ?_⟩
      have o7 := H.1
      have H := H.2
      refine kw_if_eq 34 dX11_onObject_27 (by decide) o7 (fun h6 => ?_) (fun h6 => ?_)
      · have H := H.1 h6
        exact kw_forget (ls' := [some (kA 558), some (kI x1), some (kI x2), some (kI x3)]) ⟨Or.inr rfl, ⟨Or.inr rfl, ⟨Or.inr rfl, ⟨Or.inr rfl, trivial⟩⟩⟩⟩ H
      · have H := H.2 h6
        refine kw_iload_n dX11_onObject_30 rfl ?_
        refine kw_iconst dX11_onObject_31 ?_
        refine kw_iadd dX11_onObject_32 ?_
        refine kw_istore_n dX11_onObject_33 (Nat.le_of_ble_eq_true rfl) ?_
        exact kw_forget (ls' := [some (kA 558), some (kI x1), some (kI (x2 + 1)), some (kI x3)]) ⟨Or.inr rfl, ⟨Or.inr rfl, ⟨Or.inr rfl, ⟨Or.inr rfl, trivial⟩⟩⟩⟩ H
    · have H := H.2 h2
      refine kw_if_eq 34 dX11_onObject_18 (by decide) (k32i (by omega)) (fun _ => ?_) (fun h8 => absurd h8 (by decide))
      exact kw_forget (ls' := [some (kA 558), some (kI x1), some (kI x2), some (kI x3)]) ⟨Or.inr rfl, ⟨Or.inr rfl, ⟨Or.inr rfl, ⟨Or.inr rfl, trivial⟩⟩⟩⟩ H
set_option maxRecDepth 4000 in
theorem v_X11_onObject_34 {G : KG} {S0 : KSh} (hL : kLay S0) {d : Nat} {P : Option AV → KMem → Prop} {c : KMem} {x1 x2 x3 : Int} (r1 : -2147483648 ≤ x1 ∧ x1 < 2147483648) (r2 : -2147483648 ≤ x2 ∧ x2 < 2147483648) (r3 : 0 ≤ x3 ∧ x3 < 2147483648) (hp : 0 ≤ x2 ∧ x2 ≤ 12 ∧ 0 ≤ x3 ∧ x3 < 12) (H : kW2 G S0 kM_X11_onObject (d + 4) 4 [some (kA 558), some (kI x1), some (kI x2), some (kI (x3 + 1))] [] c P) : kW2 G S0 kM_X11_onObject (d + 4) 34 [some (kA 558), some (kI x1), some (kI x2), some (kI x3)] [] c P := by
  refine kw_iinc dX11_onObject_34 rfl ?_
  refine kw_goto 4 dX11_onObject_37 (by decide) ?_
  exact kw_forget (ls' := [some (kA 558), some (kI x1), some (kI x2), some (kI (x3 + 1))]) ⟨Or.inr rfl, ⟨Or.inr rfl, ⟨Or.inr rfl, ⟨Or.inr rfl, trivial⟩⟩⟩⟩ H
set_option maxRecDepth 4000 in
theorem v_X11_likes {G : KG} {S0 : KSh} (hL : kLay S0) {d : Nat} {P : Option AV → KMem → Prop} {c : KMem}  (H : kW2 G S0 kM_X11_likes (d + 4) 4 [some (kA 558), some (kI 0), some (kI 0), none] [] c P) : kC2 G S0 kM_X11_likes (d + 4) [kA 558] c P := by
  refine k2_met (by decide) rfl (Nat.le_of_ble_eq_true rfl) (l0 := [some (kA 558), none, none, none]) rfl ?_
  refine kw_iconst dX11_likes_0 ?_
  refine kw_istore_n dX11_likes_1 (Nat.le_of_ble_eq_true rfl) ?_
  refine kw_iconst dX11_likes_2 ?_
  refine kw_istore_n dX11_likes_3 (Nat.le_of_ble_eq_true rfl) ?_
  exact kw_forget (ls' := [some (kA 558), some (kI 0), some (kI 0), none]) ⟨Or.inr rfl, ⟨Or.inr rfl, ⟨Or.inr rfl, ⟨Or.inr rfl, trivial⟩⟩⟩⟩ H
set_option maxRecDepth 4000 in
theorem v_X11_likes_4 {G : KG} {S0 : KSh} (hL : kLay S0) {d : Nat} {P : Option AV → KMem → Prop} {c : KMem} {x1 x2 : Int} (r1 : -2147483648 ≤ x1 ∧ x1 < 2147483648) (r2 : 0 ≤ x2 ∧ x2 < 2147483648) (hp : 0 ≤ x2 ∧ x2 ≤ 12 ∧ 0 ≤ x1 ∧ x1 ≤ 144) (H : (12 ≤ x2 → (P (some (kI x1)) c)) ∧ (x2 < 12 → (kW2 G S0 kM_X11_likes (d + 4) 14 [some (kA 558), some (kI x1), some (kI x2), some (kI (x2 + 1))] [] c P))) : kW2 G S0 kM_X11_likes (d + 4) 4 [some (kA 558), some (kI x1), some (kI x2), none] [] c P := by
  refine kw_iload_n dX11_likes_4 rfl ?_
  refine kw_bipush dX11_likes_5 (by decide) ?_
  refine kw_icmp_ge 79 dX11_likes_7 (by decide) (k32i (by omega)) (k32i (by omega)) (fun h1 => ?_) (fun h1 => ?_)
  · have H := H.1 h1
    refine kw_iload_n dX11_likes_79 rfl ?_
    refine k2_iret dX11_likes_80 rfl H
  · have H := H.2 h1
    refine kw_iload_n dX11_likes_10 rfl ?_
    refine kw_iconst dX11_likes_11 ?_
    refine kw_iadd dX11_likes_12 ?_
    refine kw_istore_n dX11_likes_13 (Nat.le_of_ble_eq_true rfl) ?_
    exact kw_forget (ls' := [some (kA 558), some (kI x1), some (kI x2), some (kI (x2 + 1))]) ⟨Or.inr rfl, ⟨Or.inr rfl, ⟨Or.inr rfl, ⟨Or.inr rfl, trivial⟩⟩⟩⟩ H
set_option maxRecDepth 4000 in
theorem v_X11_likes_14 {G : KG} {S0 : KSh} (hL : kLay S0) {d : Nat} {P : Option AV → KMem → Prop} {c : KMem} {x1 x2 x3 : Int} (r1 : -2147483648 ≤ x1 ∧ x1 < 2147483648) (r2 : 0 ≤ x2 ∧ x2 < 2147483648) (r3 : -2147483648 ≤ x3 ∧ x3 < 2147483648) (hp : 0 ≤ x2 ∧ x2 < 12 ∧ 0 ≤ x3 ∧ x3 ≤ 12 ∧ 0 ≤ x1 ∧ x1 ≤ 144) (H : (12 ≤ x3 → (kW2 G S0 kM_X11_likes (d + 4) 4 [some (kA 558), some (kI x1), some (kI (x2 + 1)), none] [] c P)) ∧ (x3 < 12 → ((k32 (c 564 x2)) ∧ (((c 564 x2) = 0 → (kW2 G S0 kM_X11_likes (d + 4) 67 [some (kA 558), some (kI x1), some (kI x2), some (kI x3)] [] c P)) ∧ ((c 564 x2) ≠ 0 → ((k32 (c 564 x3)) ∧ (((c 564 x3) = 0 → (kW2 G S0 kM_X11_likes (d + 4) 67 [some (kA 558), some (kI x1), some (kI x2), some (kI x3)] [] c P)) ∧ ((c 564 x3) ≠ 0 → (kC2 G S0 kM_X11_isNothing (d + 3) [kA 558, kI x2] c (kRI (fun z7 c8 => (k32 z7) ∧ ((z7 ≠ 0 → (kW2 G S0 kM_X11_likes (d + 4) 67 [some (kA 558), some (kI x1), some (kI x2), some (kI x3)] [] c8 P)) ∧ (z7 = 0 → (kC2 G S0 kM_X11_isNothing (d + 3) [kA 558, kI x3] c8 (kRI (fun z11 c12 => (k32 z11) ∧ ((z11 ≠ 0 → (kW2 G S0 kM_X11_likes (d + 4) 67 [some (kA 558), some (kI x1), some (kI x2), some (kI x3)] [] c12 P)) ∧ (z11 = 0 → (kC2 G S0 kM_X11_areLike (d + 3) [kA 558, kI x2, kI x3] c12 (kRI (fun z15 c16 => (k32 z15) ∧ ((z15 = 0 → (kW2 G S0 kM_X11_likes (d + 4) 67 [some (kA 558), some (kI x1), some (kI x2), some (kI x3)] [] c16 P)) ∧ (z15 ≠ 0 → (kW2 G S0 kM_X11_likes (d + 4) 67 [some (kA 558), some (kI (x1 + 1)), some (kI x2), some (kI x3)] [] c16 P)))))))))))))))))))))))) : kW2 G S0 kM_X11_likes (d + 4) 14 [some (kA 558), some (kI x1), some (kI x2), some (kI x3)] [] c P := by
  refine kw_iload_n dX11_likes_14 rfl ?_
  refine kw_bipush dX11_likes_15 (by decide) ?_
  refine kw_icmp_ge 73 dX11_likes_17 (by decide) (k32i (by omega)) (k32i (by omega)) (fun h2 => ?_) (fun h2 => ?_)
  · have H := H.1 h2
    refine kw_iinc dX11_likes_73 rfl ?_
    refine kw_goto 4 dX11_likes_76 (by decide) ?_
    exact kw_forget (ls' := [some (kA 558), some (kI x1), some (kI (x2 + 1)), none]) ⟨Or.inr rfl, ⟨Or.inr rfl, ⟨Or.inr rfl, ⟨Or.inl rfl, trivial⟩⟩⟩⟩ H
  · have H := H.2 h2
    refine kw_aload_n dX11_likes_20 rfl ?_
    refine k2_getR fd_X11_5 dX11_likes_21 wf_X11_25 (lsh_558 hL) (lrf_558_5 hL) ?_
    refine kw_iload_n dX11_likes_24 rfl ?_
    refine k2_zald dX11_likes_25 (lsh_564 hL) (by omega) (by omega) ?_
    have o4 := H.1
    have H := H.2
    refine kw_if_eq 67 dX11_likes_26 (by decide) o4 (fun h3 => ?_) (fun h3 => ?_)
    · have H := H.1 h3
      exact kw_forget (ls' := [some (kA 558), some (kI x1), some (kI x2), some (kI x3)]) ⟨Or.inr rfl, ⟨Or.inr rfl, ⟨Or.inr rfl, ⟨Or.inr rfl, trivial⟩⟩⟩⟩ H
    · have H := H.2 h3
      refine kw_aload_n dX11_likes_29 rfl ?_
      refine k2_getR fd_X11_5 dX11_likes_30 wf_X11_25 (lsh_558 hL) (lrf_558_5 hL) ?_
      refine kw_iload_n dX11_likes_33 rfl ?_
      refine k2_zald dX11_likes_34 (lsh_564 hL) (by omega) (by omega) ?_
      have o6 := H.1
      have H := H.2
      refine kw_if_eq 67 dX11_likes_35 (by decide) o6 (fun h5 => ?_) (fun h5 => ?_)
      · have H := H.1 h5
        exact kw_forget (ls' := [some (kA 558), some (kI x1), some (kI x2), some (kI x3)]) ⟨Or.inr rfl, ⟨Or.inr rfl, ⟨Or.inr rfl, ⟨Or.inr rfl, trivial⟩⟩⟩⟩ H
      · have H := H.2 h5
        refine kw_aload_n dX11_likes_38 rfl ?_
        refine kw_iload_n dX11_likes_39 rfl ?_
        refine k2_callV1I (ci := 9) (N := 38) (T := TX11) rfl (lsh_558 hL) m_X11_isNothing dX11_likes_40 wl_X11_115 (Nat.le_of_ble_eq_true rfl) (kC2_mono H (fun r c8 H => ?_))
        obtain ⟨z7, rfl, H⟩ := H
        refine ⟨z7, rfl, ?_⟩
        have o10 := H.1
        have H := H.2
        refine kw_if_ne 67 dX11_likes_43 (by decide) o10 (fun h9 => ?_) (fun h9 => ?_)
        · have H := H.1 h9
          exact kw_forget (ls' := [some (kA 558), some (kI x1), some (kI x2), some (kI x3)]) ⟨Or.inr rfl, ⟨Or.inr rfl, ⟨Or.inr rfl, ⟨Or.inr rfl, trivial⟩⟩⟩⟩ H
        · have H := H.2 h9
          refine kw_aload_n dX11_likes_46 rfl ?_
          refine kw_iload_n dX11_likes_47 rfl ?_
          refine k2_callV1I (ci := 9) (N := 38) (T := TX11) rfl (lsh_558 hL) m_X11_isNothing dX11_likes_48 wl_X11_115 (Nat.le_of_ble_eq_true rfl) (kC2_mono H (fun r c12 H => ?_))
          obtain ⟨z11, rfl, H⟩ := H
          refine ⟨z11, rfl, ?_⟩
          have o14 := H.1
          have H := H.2
          refine kw_if_ne 67 dX11_likes_51 (by decide) o14 (fun h13 => ?_) (fun h13 => ?_)
          · have H := H.1 h13
            exact kw_forget (ls' := [some (kA 558), some (kI x1), some (kI x2), some (kI x3)]) ⟨Or.inr rfl, ⟨Or.inr rfl, ⟨Or.inr rfl, ⟨Or.inr rfl, trivial⟩⟩⟩⟩ H
          · have H := H.2 h13
            refine kw_aload_n dX11_likes_54 rfl ?_
            refine kw_iload_n dX11_likes_55 rfl ?_
            refine kw_iload_n dX11_likes_56 rfl ?_
            refine k2_callV2I (ci := 9) (N := 38) (T := TX11) rfl (lsh_558 hL) m_X11_areLike dX11_likes_57 wl_X11_369 (Nat.le_of_ble_eq_true rfl) (kC2_mono H (fun r c16 H => ?_))
            obtain ⟨z15, rfl, H⟩ := H
            refine ⟨z15, rfl, ?_⟩
            have o18 := H.1
            have H := H.2
            refine kw_if_eq 67 dX11_likes_60 (by decide) o18 (fun h17 => ?_) (fun h17 => ?_)
            · have H := H.1 h17
              exact kw_forget (ls' := [some (kA 558), some (kI x1), some (kI x2), some (kI x3)]) ⟨Or.inr rfl, ⟨Or.inr rfl, ⟨Or.inr rfl, ⟨Or.inr rfl, trivial⟩⟩⟩⟩ H
            · have H := H.2 h17
              refine kw_iload_n dX11_likes_63 rfl ?_
              refine kw_iconst dX11_likes_64 ?_
              refine kw_iadd dX11_likes_65 ?_
              refine kw_istore_n dX11_likes_66 (Nat.le_of_ble_eq_true rfl) ?_
              exact kw_forget (ls' := [some (kA 558), some (kI (x1 + 1)), some (kI x2), some (kI x3)]) ⟨Or.inr rfl, ⟨Or.inr rfl, ⟨Or.inr rfl, ⟨Or.inr rfl, trivial⟩⟩⟩⟩ H
set_option maxRecDepth 4000 in
theorem v_X11_likes_67 {G : KG} {S0 : KSh} (hL : kLay S0) {d : Nat} {P : Option AV → KMem → Prop} {c : KMem} {x1 x2 x3 : Int} (r1 : -2147483648 ≤ x1 ∧ x1 < 2147483648) (r2 : 0 ≤ x2 ∧ x2 < 2147483648) (r3 : -2147483648 ≤ x3 ∧ x3 < 2147483648) (hp : 0 ≤ x2 ∧ x2 < 12 ∧ 0 ≤ x3 ∧ x3 < 12 ∧ 0 ≤ x1 ∧ x1 ≤ 145) (H : kW2 G S0 kM_X11_likes (d + 4) 14 [some (kA 558), some (kI x1), some (kI x2), some (kI (x3 + 1))] [] c P) : kW2 G S0 kM_X11_likes (d + 4) 67 [some (kA 558), some (kI x1), some (kI x2), some (kI x3)] [] c P := by
  refine kw_iinc dX11_likes_67 rfl ?_
  refine kw_goto 14 dX11_likes_70 (by decide) ?_
  exact kw_forget (ls' := [some (kA 558), some (kI x1), some (kI x2), some (kI (x3 + 1))]) ⟨Or.inr rfl, ⟨Or.inr rfl, ⟨Or.inr rfl, ⟨Or.inr rfl, trivial⟩⟩⟩⟩ H
section MMT
variable {G : KG} {S0 : KSh} {d : Nat} {P : Option AV → KMem → Prop} {c c0 : KMem} {Φ : Int → KF} {H : Int → Bool} {F : Int → KF} {f g : KF} {M m : Int} {S : KLs} {x0 x1 x2 x3 x4 : Int}
theorem t_goesOuter (hL : kLay S0) (hg : kSgn c0) (hs : kPh Φ c0 c) (h1 : ∀ c', kPh (kU Φ x3 (mulP 1 f g)) c0 c' → kWb (mulP 1 f g) = true → P (some (kI 1)) c') (h0 : ∀ c', kPh (kU Φ x3 (mulP 1 f g)) c0 c' → ¬ kWb (mulP 1 f g) = true → P (some (kI 0)) c') (hp : 0 ≤ x1 ∧ x1 < 100 ∧ 0 ≤ x2 ∧ x2 < 100 ∧ 0 ≤ x3 ∧ x3 < 100) (e : Φ x1 = f) (e2 : Φ x2 = g) (hb : kB kLB f) (hb2 : kB kLB g) : kC2 G S0 kM_X11_goesOuter (d + 2) [kA 558, kI x1, kI x2, kI x3] c P := by
  refine v_X11_goesOuter hL (by omega) (by omega) (by omega) ?_
  refine t_joins hL hg hs (fun c2 hs => ⟨rfl, ?_⟩)
  refine t_isWithin hL hs (fun z => ⟨1, rfl, ko1 (h1 _ hs z)⟩) (fun z => ⟨0, rfl, ko0 (h0 _ hs z)⟩)
theorem t_onObject (hL : kLay S0) (hg : kSgn c0) (hs : kPh Φ c0 c) (e3 : Φ 30 = farP) (hl : kLet2 H F Φ c0) (h37 : c0 558 37 = kPs H F) (hx : H x1 = true) (ho : kObj (kind (F x1))) (h : ∀ (Φ' : Int → KF) c', kPh Φ' c0 c' → (∀ s : Int, 0 ≤ s → s < 12 ∨ s = 30 → Φ' s = Φ s) → P (some (kI (vOnO H F x1 12))) c') : kC2 G S0 kM_X11_onObject (d + 4) [kA 558, kI x1] c P := by
  obtain ⟨a1, b1, e1, f1⟩ := hl.1 x1 hx
  have hps := kPs_rg H F
  have loop : ∀ n k : Nat, k + n = 12 → ∀ (Φ' : Int → KF) c', kPh Φ' c0 c' → (∀ s : Int, 0 ≤ s → s < 12 ∨ s = 30 → Φ' s = Φ s) → kW2 G S0 kM_X11_onObject (d + 4) 4 [some (kA 558), some (kI x1), some (kI (vOnO H F x1 k)), some (kI k)] [] c' P := by
    intro n
    induction n with
    | zero =>
      intro k hk9 Φ' c' hs hk
      obtain rfl : k = 12 := by omega
      have hc := kCn_le (fun p => kPt H F p && (mulP 2 (F p) (vecP (F x1)) 0 == 0)) 12
      have e7 : c' 558 37 = kPs H F := (hs.2 558 37 (by decide) (by decide)).trans h37
      exact v_X11_onObject_4 hL (by omega) (by unfold vOnO; omega) (by omega) ⟨by unfold vOnO; omega, by unfold vOnO; omega, by omega, by rw [e7]; omega, by rw [e7]; omega⟩ ⟨fun _ => h _ _ hs hk, fun q => by omega⟩
    | succ n ih =>
      intro k hk9 Φ' c' hs hk
      have hc := kCn_le (fun p => kPt H F p && (mulP 2 (F p) (vecP (F x1)) 0 == 0)) k
      have hc' : vOnO H F x1 k ≤ k := hc
      have e7 : c' 558 37 = kPs H F := (hs.2 558 37 (by decide) (by decide)).trans h37
      have e2 : vOnO H F x1 (k + 1) = if (kPt H F k && (mulP 2 (F k) (vecP (F x1)) 0 == 0)) = true then vOnO H F x1 k + 1 else vOnO H F x1 k := rfl
      refine v_X11_onObject_4 hL (by omega) (by omega) (by omega) ⟨by omega, by omega, by omega, by rw [e7]; omega, by rw [e7]; omega⟩ ⟨fun q => by omega, fun _ => ?_⟩
      rw [e7]
      have next : ∀ (Φ' : Int → KF) c' (v : Int), kPh Φ' c0 c' → (∀ s : Int, 0 ≤ s → s < 12 ∨ s = 30 → Φ' s = Φ s) → v = vOnO H F x1 (k + 1) → kW2 G S0 kM_X11_onObject (d + 4) 34 [some (kA 558), some (kI x1), some (kI v), some (kI k)] [] c' P := by
        intro Φ' c' v a b ev
        have hc2 := kCn_le (fun p => kPt H F p && (mulP 2 (F p) (vecP (F x1)) 0 == 0)) (k + 1)
        have hc2' : vOnO H F x1 (k + 1) ≤ k + 1 := hc2
        rw [ev]
        exact v_X11_onObject_34 hL (by omega) (by omega) (by omega) (by omega) (ih (k + 1) (by omega) Φ' c' a b)
      refine ⟨fun z => ?_, fun z => ?_⟩
      · have zb := (kbit_iff hps (by omega)).mp z
        rw [kPs_bit (by omega)] at zb
        have zb2 := zb
        unfold kPt at zb2
        rw [Bool.and_eq_true] at zb2
        obtain ⟨u1, u2, u3, u4⟩ := hl.1 k zb2.1
        refine t_liesPoint hL hg hs ho (fun c3 b hs q => ⟨1, rfl, kr1 ?_⟩) (fun c3 b hs q => ⟨0, rfl, kr0 ?_⟩) ⟨by omega, by omega, a1, b1⟩ ((hk k (by omega) (by omega)).trans u3) ((hk x1 (by omega) (by omega)).trans e1) ((hk 30 (by omega) (by omega)).trans e3) u4 f1
        · refine next _ _ _ hs (by intro s p q; repeat (first | exact rfl | refine kUn (by omega) ?_ | exact hk s p q)) ?_
          rw [e2, if_pos (by rw [zb, q]; rfl)]; omega
        · refine next _ _ _ hs (by intro s p q; repeat (first | exact rfl | refine kUn (by omega) ?_ | exact hk s p q)) ?_
          rw [e2, if_neg (fun w => q (by rw [Bool.and_eq_true] at w; exact eq_of_beq w.2))]
      · refine next _ _ _ hs hk ?_
        rw [e2, if_neg (fun w => z ((kbit_iff hps (by omega)).mpr (by rw [kPs_bit (by omega)]; rw [Bool.and_eq_true] at w; exact w.1)))]
  exact v_X11_onObject hL (by omega) (loop 12 0 (by omega) Φ c hs (fun _ _ _ => rfl))
theorem t_likes (hL : kLay S0) (hs : kPh Φ c0 c) (hl : kLet2 H F Φ c0) (h : ∀ (Φ' : Int → KF) c', kPh Φ' c0 c' → (∀ s : Int, 0 ≤ s → s < 12 ∨ s = 30 → Φ' s = Φ s) → P (some (kI (vLikes H F))) c') : kC2 G S0 kM_X11_likes (d + 4) [kA 558] c P := by
  have inner : ∀ (a : Nat), a < 12 → ∀ N : Nat, N ≤ 12 * a → (∀ (Φ' : Int → KF) c', kPh Φ' c0 c' → (∀ s : Int, 0 ≤ s → s < 12 ∨ s = 30 → Φ' s = Φ s) → kW2 G S0 kM_X11_likes (d + 4) 4 [some (kA 558), some (kI ((N + kCn (kLkB H F a) 12 : Nat) : Int)), some (kI ((a + 1 : Nat) : Int)), none] [] c' P) → ∀ n b : Nat, b + n = 12 → a < b → ∀ (Φ' : Int → KF) c', kPh Φ' c0 c' → (∀ s : Int, 0 ≤ s → s < 12 ∨ s = 30 → Φ' s = Φ s) → kW2 G S0 kM_X11_likes (d + 4) 14 [some (kA 558), some (kI ((N + kCn (kLkB H F a) b : Nat) : Int)), some (kI (a : Int)), some (kI (b : Int))] [] c' P := by
    intro a ha N hN K n
    induction n with
    | zero =>
      intro b hb9 hab Φ' c' hs hk
      obtain rfl : b = 12 := by omega
      have hc := kCn_le (kLkB H F a) 12
      exact v_X11_likes_14 hL (by omega) (by omega) (by omega) (by omega) ⟨fun _ => K Φ' c' hs hk, fun q => by omega⟩
    | succ n ih =>
      intro b hb9 hab Φ' c' hs hk
      have hc := kCn_le (kLkB H F a) b
      have hc2 := kCn_le (kLkB H F a) (b + 1)
      have e2 : kCn (kLkB H F a) (b + 1) = if kLkB H F a b = true then kCn (kLkB H F a) b + 1 else kCn (kLkB H F a) b := rfl
      have ei : kLkB H F a b = true ↔ H a = true ∧ H b = true ∧ ¬ kZb (F a) = true ∧ ¬ kZb (F b) = true ∧ kLk (F a) (F b) = true := by
        unfold kLkB
        rw [decide_eq_true hab, Bool.true_and]
        simp [and_assoc]
      have next : ∀ (Φ' : Int → KF) c' (v : Int), kPh Φ' c0 c' → (∀ s : Int, 0 ≤ s → s < 12 ∨ s = 30 → Φ' s = Φ s) → v = ((N + kCn (kLkB H F a) (b + 1) : Nat) : Int) → kW2 G S0 kM_X11_likes (d + 4) 67 [some (kA 558), some (kI v), some (kI (a : Int)), some (kI (b : Int))] [] c' P := by
        intro Φ' c' v p q ev
        rw [ev]
        exact v_X11_likes_67 hL (by omega) (by omega) (by omega) (by omega) (ih (b + 1) (by omega) (by omega) Φ' c' p q)
      obtain ⟨s1, s2, s3⟩ := hl.2 a (by omega) (by omega)
      obtain ⟨t1, t2, t3⟩ := hl.2 b (by omega) (by omega)
      have w1 : c' 564 (a : Int) = c0 564 a := hs.2 564 _ (by decide) (by decide)
      have w2 : c' 564 (b : Int) = c0 564 b := hs.2 564 _ (by decide) (by decide)
      refine v_X11_likes_14 hL (by omega) (by omega) (by omega) (by omega) ⟨fun q => by omega, fun _ => ?_⟩
      rw [w1, w2]
      refine ⟨s1, fun q => next _ _ _ hs hk (by rw [e2, if_neg (fun w => s3 q (ei.mp w).1)]), fun q => ⟨t1, fun q2 => next _ _ _ hs hk (by rw [e2, if_neg (fun w => t3 q2 (ei.mp w).2.1)]), fun q2 => ?_⟩⟩
      obtain ⟨a1, b1, e1, f1⟩ := hl.1 a (s2 q)
      obtain ⟨a2, b2, e4, f2⟩ := hl.1 b (t2 q2)
      have g1 : Φ' a = F a := (hk a (by omega) (by omega)).trans e1
      have g2 : Φ' b = F b := (hk b (by omega) (by omega)).trans e4
      refine t_isNothing hL hs (fun z => ⟨1, rfl, kq1 ?_⟩) (fun z => ⟨0, rfl, kq0 ?_⟩) g1 f1 (by decide) (by omega)
      · exact next _ _ _ hs hk (by rw [e2, if_neg (fun w => (ei.mp w).2.2.1 z)])
      · refine t_isNothing hL hs (fun z => ⟨1, rfl, kq1 ?_⟩) (fun z => ⟨0, rfl, kq0 ?_⟩) g2 f2 (by decide) (by omega)
        · exact next _ _ _ hs hk (by rw [e2, if_neg (fun w => (ei.mp w).2.2.2.1 z)])
        · refine t_areLike hL hs (fun c3 a b hs q => ⟨1, rfl, kr1 ?_⟩) (fun c3 a b hs q => ⟨0, rfl, kr0 ?_⟩) ⟨by omega, by omega, by omega, by omega⟩ g1 g2 f1 f2
          · exact next _ _ _ hs (by intro s p q; repeat (first | exact rfl | refine kUn (by omega) ?_ | exact hk s p q)) (by rw [e2, if_pos (ei.mpr ⟨s2 ‹_›, t2 ‹_›, by assumption, by assumption, q⟩)]; omega)
          · exact next _ _ _ hs (by intro s p q; repeat (first | exact rfl | refine kUn (by omega) ?_ | exact hk s p q)) (by rw [e2, if_neg (fun w => q (ei.mp w).2.2.2.2)])
  have outer : ∀ n a : Nat, a + n = 12 → ∀ (Φ' : Int → KF) c', kPh Φ' c0 c' → (∀ s : Int, 0 ≤ s → s < 12 ∨ s = 30 → Φ' s = Φ s) → kW2 G S0 kM_X11_likes (d + 4) 4 [some (kA 558), some (kI (kCm (kLkB H F) 12 a : Int)), some (kI (a : Int)), none] [] c' P := by
    intro n
    induction n with
    | zero =>
      intro a ha Φ' c' hs hk
      obtain rfl : a = 12 := by omega
      have hc := kCm_le (kLkB H F) 12 12
      exact v_X11_likes_4 hL (by omega) (by omega) (by omega) ⟨fun _ => h Φ' c' hs hk, fun q => by omega⟩
    | succ n ih =>
      intro a ha Φ' c' hs hk
      have hc := kCm_le (kLkB H F) 12 a
      have e2 : kCm (kLkB H F) 12 (a + 1) = kCm (kLkB H F) 12 a + kCn (kLkB H F a) 12 := rfl
      have z0 : kCn (kLkB H F a) (a + 1) = 0 := kCn_0 _ (fun j hj => by unfold kLkB; rw [decide_eq_false (by omega)]; rfl)
      have := inner a (by omega) (kCm (kLkB H F) 12 a) (by omega) (fun Φ' c' p q => by rw [← e2]; exact ih (a + 1) (by omega) Φ' c' p q) (12 - (a + 1)) (a + 1) (by omega) (by omega) Φ' c' hs hk
      rw [z0] at this
      exact v_X11_likes_4 hL (by omega) (by omega) (by omega) ⟨fun q => by omega, fun _ => this⟩
  exact v_X11_likes hL (outer 12 0 (by omega) Φ c hs (fun _ _ _ => rfl))
end MMT
