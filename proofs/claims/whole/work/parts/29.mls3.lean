/-- what has come: (from where the last turn began, the row) -/
def cmS (m : Int) (F : Int → KF) (f : KF) : Nat → Nat × KLs
  | 0 => (0, (1, fun _ => nrmP f))
  | t + 1 => ((cmS m F f t).2.1, sprI m F (cmS m F f t).1 ((cmS m F f t).2.1 - (cmS m F f t).1) (cmS m F f t).2)
theorem cmS_le (m : Int) (F : Int → KF) (f : KF) (hm : kCn (kbit m) 12 ≤ 6) : ∀ t, (t = 0 → (cmS m F f t).1 = 0 ∧ (cmS m F f t).2.1 = 1) ∧ (cmS m F f t).1 ≤ (cmS m F f t).2.1 ∧ (t ≤ 2 → (cmS m F f t).2.1 + kCn (kbit m) 12 * ((cmS m F f t).2.1 - (cmS m F f t).1) ≤ 300) ∧ (t ≤ 3 → (cmS m F f t).2.1 ≤ 300) := by
  have step : ∀ t, (cmS m F f (t + 1)).1 = (cmS m F f t).2.1 ∧ (cmS m F f t).2.1 ≤ (cmS m F f (t + 1)).2.1 ∧ (cmS m F f (t + 1)).2.1 ≤ (cmS m F f t).2.1 + 6 * ((cmS m F f t).2.1 - (cmS m F f t).1) := by
    intro t
    have h := sprI_le m F (cmS m F f t).1 (cmS m F f t).2 ((cmS m F f t).2.1 - (cmS m F f t).1)
    have h2 := Nat.mul_le_mul hm (Nat.le_refl ((cmS m F f t).2.1 - (cmS m F f t).1))
    exact ⟨rfl, h.1, Nat.le_trans h.2 (by omega)⟩
  have s0 : (cmS m F f 0).1 = 0 ∧ (cmS m F f 0).2.1 = 1 := ⟨rfl, rfl⟩
  have s1 := step 0; have s2 := step 1; have s3 := step 2
  intro t
  have hmul := Nat.mul_le_mul hm (Nat.le_refl ((cmS m F f t).2.1 - (cmS m F f t).1))
  refine ⟨fun h => by subst h; exact s0, ?_, fun h => ?_, fun h => ?_⟩
  · cases t with
    | zero => omega
    | succ t => have := step t; omega
  · have : t = 0 ∨ t = 1 ∨ t = 2 := by omega
    rcases this with rfl | rfl | rfl <;> simp only [Nat.zero_add, Nat.reduceAdd] at * <;> omega
  · have : t = 0 ∨ t = 1 ∨ t = 2 ∨ t = 3 := by omega
    rcases this with rfl | rfl | rfl | rfl <;> simp only [Nat.zero_add, Nat.reduceAdd] at * <;> omega
def vCome (H : Int → Bool) (F : Int → KF) (l m n : Int) : Int := if H l = true then (if kSetB H m 6 = true then (if 0 ≤ n ∧ n ≤ 3 then (if kMirS F m = true then ((cmS m F (F l) n.toNat).2.1 : Int) else -3) else -1) else -1) else -1
def brHas (m : Int) (F : Int → KF) (f g : KF) (t : Nat) : Bool := lsHas (cmS m F f t).2.2 (nrmP g) (cmS m F f t).2.1
def brN (m : Int) (F : Int → KF) (f g : KF) : Nat → Nat → Int
  | 0, _ => -2
  | n + 1, t => if brHas m F f g t = true then (t : Int) else brN m F f g n (t + 1)
def vBrought (H : Int → Bool) (F : Int → KF) (a b m : Int) : Int := if H a = true then (if H b = true then (if kSetB H m 6 = true then (if kMirS F m = true then brN m F (F a) (F b) 4 0 else -3) else -1) else -1) else -1
set_option maxRecDepth 4000 in
theorem v_X11_brought {G : KG} {S0 : KSh} (hL : kLay S0) {d : Nat} {P : Option AV → KMem → Prop} {c : KMem} {x1 x2 x3 : Int} (r1 : -2147483648 ≤ x1 ∧ x1 < 2147483648) (r2 : -2147483648 ≤ x2 ∧ x2 < 2147483648) (r3 : -2147483648 ≤ x3 ∧ x3 < 2147483648) (H : (kStd c) ∧ (((kHas c x1) → (((kHas c x2) → (kC2 G S0 kM_X11_areLetters (d + 6) [kA 558, kI x3, kI 6] c (kRI (fun z6 c7 => (k32 z6) ∧ ((z6 ≠ 0 → (kC2 G S0 kM_X11_areMirrors (d + 6) [kA 558, kI x3] c7 (kRI (fun z10 c11 => (k32 z10) ∧ ((z10 ≠ 0 → (kC2 G S0 kM_X11_beginsList (d + 6) [kA 558, kI x1] c11 (kRN (fun c15 => kC2 G S0 kM_X11_copies (d + 6) [kA 558, kI x2, kI 28] c15 (kRN (fun c17 => kC2 G S0 kM_X11_normals (d + 6) [kA 558, kI 28] c17 (kRN (fun c19 => kW2 G S0 kM_X11_brought (d + 7) 63 [some (kA 558), none, none, some (kI x3), some (kI 0), some (kI 0), none] [] c19 P)))))))) ∧ (z10 = 0 → (P (some (kI (-3))) c11))))))) ∧ (z6 = 0 → (P (some (kI (-1))) c7))))))) ∧ (¬ (kHas c x2) → (P (some (kI (-1))) c)))) ∧ (¬ (kHas c x1) → (P (some (kI (-1))) c)))) : kC2 G S0 kM_X11_brought (d + 7) [kA 558, kI x1, kI x2, kI x3] c P := by
  refine k2_met (by decide) rfl (Nat.le_of_ble_eq_true rfl) (l0 := [some (kA 558), some (kI x1), some (kI x2), some (kI x3), none, none, none]) rfl ?_
  refine kw_aload_n dX11_brought_0 rfl ?_
  refine kw_iload_n dX11_brought_1 rfl ?_
  have o1 := H.1
  have H := H.2
  refine k2_callV1I (ci := 9) (N := 38) (T := TX11) rfl (lsh_558 hL) m_X11_isLetter dX11_brought_2 wl_X11_161 (Nat.le_of_ble_eq_true rfl) (s_X11_isLetter hL (k32i (by omega)) o1 (fun h2 => ⟨_, rfl, ?_⟩) (fun h2 => ⟨_, rfl, ?_⟩))
  · have H := H.1 h2
    refine kw_if_eq 26 dX11_brought_5 (by decide) (k32i (by omega)) (fun h3 => absurd h3 (by decide)) (fun _ => ?_)
    refine kw_aload_n dX11_brought_8 rfl ?_
    refine kw_iload_n dX11_brought_9 rfl ?_
    refine k2_callV1I (ci := 9) (N := 38) (T := TX11) rfl (lsh_558 hL) m_X11_isLetter dX11_brought_10 wl_X11_161 (Nat.le_of_ble_eq_true rfl) (s_X11_isLetter hL (k32i (by omega)) o1 (fun h4 => ⟨_, rfl, ?_⟩) (fun h4 => ⟨_, rfl, ?_⟩))
    · have H := H.1 h4
      refine kw_if_eq 26 dX11_brought_13 (by decide) (k32i (by omega)) (fun h5 => absurd h5 (by decide)) (fun _ => ?_)
      refine kw_aload_n dX11_brought_16 rfl ?_
      refine kw_iload_n dX11_brought_17 rfl ?_
      refine kw_bipush dX11_brought_18 (by decide) ?_
      refine k2_callV2I (ci := 9) (N := 38) (T := TX11) rfl (lsh_558 hL) m_X11_areLetters dX11_brought_20 wl_X11_418 (Nat.le_of_ble_eq_true rfl) (kC2_mono H (fun r c7 H => ?_))
      obtain ⟨z6, rfl, H⟩ := H
      refine ⟨z6, rfl, ?_⟩
      have o9 := H.1
      have H := H.2
      refine kw_if_ne 28 dX11_brought_23 (by decide) o9 (fun h8 => ?_) (fun h8 => ?_)
      · have H := H.1 h8
        refine kw_aload_n dX11_brought_28 rfl ?_
        refine kw_iload_n dX11_brought_29 rfl ?_
        refine k2_callV1I (ci := 9) (N := 38) (T := TX11) rfl (lsh_558 hL) m_X11_areMirrors dX11_brought_30 wl_X11_421 (Nat.le_of_ble_eq_true rfl) (kC2_mono H (fun r c11 H => ?_))
        obtain ⟨z10, rfl, H⟩ := H
        refine ⟨z10, rfl, ?_⟩
        have o13 := H.1
        have H := H.2
        refine kw_if_ne 39 dX11_brought_33 (by decide) o13 (fun h12 => ?_) (fun h12 => ?_)
        · have H := H.1 h12
          refine kw_aload_n dX11_brought_39 rfl ?_
          refine kw_iload_n dX11_brought_40 rfl ?_
          refine k2_callV1N (ci := 9) (N := 38) (T := TX11) rfl (lsh_558 hL) m_X11_beginsList dX11_brought_41 wl_X11_424 (Nat.le_of_ble_eq_true rfl) (kC2_mono H (fun r c15 H => ?_))
          obtain ⟨rfl, H⟩ := H
          refine ⟨rfl, ?_⟩
          refine kw_aload_n dX11_brought_44 rfl ?_
          refine kw_iload_n dX11_brought_45 rfl ?_
          refine kw_bipush dX11_brought_46 (by decide) ?_
          refine k2_callV2N (ci := 9) (N := 38) (T := TX11) rfl (lsh_558 hL) m_X11_copies dX11_brought_48 wl_X11_132 (Nat.le_of_ble_eq_true rfl) (kC2_mono H (fun r c17 H => ?_))
          obtain ⟨rfl, H⟩ := H
          refine ⟨rfl, ?_⟩
          refine kw_aload_n dX11_brought_51 rfl ?_
          refine kw_bipush dX11_brought_52 (by decide) ?_
          refine k2_callV1N (ci := 9) (N := 38) (T := TX11) rfl (lsh_558 hL) m_X11_normals dX11_brought_54 wl_X11_165 (Nat.le_of_ble_eq_true rfl) (kC2_mono H (fun r c19 H => ?_))
          obtain ⟨rfl, H⟩ := H
          refine ⟨rfl, ?_⟩
          refine kw_iconst dX11_brought_57 ?_
          refine kw_istore dX11_brought_58 (Nat.le_of_ble_eq_true rfl) ?_
          refine kw_iconst dX11_brought_60 ?_
          refine kw_istore dX11_brought_61 (Nat.le_of_ble_eq_true rfl) ?_
          exact kw_forget (ls' := [some (kA 558), none, none, some (kI x3), some (kI 0), some (kI 0), none]) ⟨Or.inr rfl, ⟨Or.inl rfl, ⟨Or.inl rfl, ⟨Or.inr rfl, ⟨Or.inr rfl, ⟨Or.inr rfl, ⟨Or.inr rfl, trivial⟩⟩⟩⟩⟩⟩⟩ H
        · have H := H.2 h12
          refine kw_bipush dX11_brought_36 (by decide) ?_
          refine k2_iret dX11_brought_38 rfl H
      · have H := H.2 h8
        refine kw_iconst dX11_brought_26 ?_
        refine k2_iret dX11_brought_27 rfl H
    · have H := H.2 h4
      refine kw_if_eq 26 dX11_brought_13 (by decide) (k32i (by omega)) (fun _ => ?_) (fun h20 => absurd h20 (by decide))
      refine kw_iconst dX11_brought_26 ?_
      refine k2_iret dX11_brought_27 rfl H
  · have H := H.2 h2
    refine kw_if_eq 26 dX11_brought_5 (by decide) (k32i (by omega)) (fun _ => ?_) (fun h21 => absurd h21 (by decide))
    refine kw_iconst dX11_brought_26 ?_
    refine k2_iret dX11_brought_27 rfl H
set_option maxRecDepth 4000 in
theorem v_X11_brought_63 {G : KG} {S0 : KSh} (hL : kLay S0) {d : Nat} {P : Option AV → KMem → Prop} {c : KMem} {x3 x4 x5 : Int} (r3 : -2147483648 ≤ x3 ∧ x3 < 2147483648) (r4 : -2147483648 ≤ x4 ∧ x4 < 2147483648) (r5 : 0 ≤ x5 ∧ x5 < 2147483648) (hp : 0 ≤ c 558 14 ∧ c 558 14 < 301) (H : (4 ≤ x5 → (P (some (kI (-2))) c)) ∧ (x5 < 4 → (kC2 G S0 kM_X11_isListed (d + 6) [kA 558, kI 28] c (kRI (fun z23 c24 => (k32 z23) ∧ ((z23 = 0 → ((3 ≤ x5 → (kW2 G S0 kM_X11_brought (d + 7) 63 [some (kA 558), none, none, some (kI x3), some (kI (c24 558 14)), some (kI (x5 + 1)), none] [] c24 P)) ∧ (x5 < 3 → (kC2 G S0 kM_X11_spreads (d + 6) [kA 558, kI x4, kI x3] c24 (kRN (fun c29 => kW2 G S0 kM_X11_brought (d + 7) 63 [some (kA 558), none, none, some (kI x3), some (kI (c24 558 14)), some (kI (x5 + 1)), none] [] c29 P)))))) ∧ (z23 ≠ 0 → (P (some (kI x5)) c24)))))))) : kW2 G S0 kM_X11_brought (d + 7) 63 [some (kA 558), none, none, some (kI x3), some (kI x4), some (kI x5), none] [] c P := by
  refine kw_iload dX11_brought_63 rfl ?_
  refine kw_iconst dX11_brought_65 ?_
  refine kw_icmp_ge 110 dX11_brought_66 (by decide) (k32i (by omega)) (k32i (by omega)) (fun h22 => ?_) (fun h22 => ?_)
  · have H := H.1 h22
    refine kw_bipush dX11_brought_110 (by decide) ?_
    refine k2_iret dX11_brought_112 rfl H
  · have H := H.2 h22
    refine kw_aload_n dX11_brought_69 rfl ?_
    refine kw_bipush dX11_brought_70 (by decide) ?_
    refine k2_callV1I (ci := 9) (N := 38) (T := TX11) rfl (lsh_558 hL) m_X11_isListed dX11_brought_72 wl_X11_412 (Nat.le_of_ble_eq_true rfl) (kC2_mono H (fun r c24 H => ?_))
    obtain ⟨z23, rfl, H⟩ := H
    refine ⟨z23, rfl, ?_⟩
    have o26 := H.1
    have H := H.2
    refine kw_if_eq 81 dX11_brought_75 (by decide) o26 (fun h25 => ?_) (fun h25 => ?_)
    · have H := H.1 h25
      refine kw_aload_n dX11_brought_81 rfl ?_
      refine k2_getI fd_X11_14 dX11_brought_82 wf_X11_406 (lsh_558 hL) ?_
      refine kw_eI (b := (c24 558 14)) rfl ?_
      refine kw_istore dX11_brought_85 (Nat.le_of_ble_eq_true rfl) ?_
      refine kw_iload dX11_brought_87 rfl ?_
      refine kw_iconst dX11_brought_89 ?_
      refine kw_icmp_ge 100 dX11_brought_90 (by decide) (k32i (by omega)) (k32i (by omega)) (fun h27 => ?_) (fun h27 => ?_)
      · have H := H.1 h27
        refine kw_iload dX11_brought_100 rfl ?_
        refine kw_istore dX11_brought_102 (Nat.le_of_ble_eq_true rfl) ?_
        refine kw_iinc dX11_brought_104 rfl ?_
        refine kw_goto 63 dX11_brought_107 (by decide) ?_
        exact kw_forget (ls' := [some (kA 558), none, none, some (kI x3), some (kI (c24 558 14)), some (kI (x5 + 1)), none]) ⟨Or.inr rfl, ⟨Or.inr rfl, ⟨Or.inr rfl, ⟨Or.inr rfl, ⟨Or.inr rfl, ⟨Or.inr rfl, ⟨Or.inl rfl, trivial⟩⟩⟩⟩⟩⟩⟩ H
      · have H := H.2 h27
        refine kw_aload_n dX11_brought_93 rfl ?_
        refine kw_iload dX11_brought_94 rfl ?_
        refine kw_iload_n dX11_brought_96 rfl ?_
        refine k2_callV2N (ci := 9) (N := 38) (T := TX11) rfl (lsh_558 hL) m_X11_spreads dX11_brought_97 wl_X11_427 (Nat.le_of_ble_eq_true rfl) (kC2_mono H (fun r c29 H => ?_))
        obtain ⟨rfl, H⟩ := H
        refine ⟨rfl, ?_⟩
        refine kw_iload dX11_brought_100 rfl ?_
        refine kw_istore dX11_brought_102 (Nat.le_of_ble_eq_true rfl) ?_
        refine kw_iinc dX11_brought_104 rfl ?_
        refine kw_goto 63 dX11_brought_107 (by decide) ?_
        exact kw_forget (ls' := [some (kA 558), none, none, some (kI x3), some (kI (c24 558 14)), some (kI (x5 + 1)), none]) ⟨Or.inr rfl, ⟨Or.inr rfl, ⟨Or.inr rfl, ⟨Or.inr rfl, ⟨Or.inr rfl, ⟨Or.inr rfl, ⟨Or.inl rfl, trivial⟩⟩⟩⟩⟩⟩⟩ H
    · have H := H.2 h25
      refine kw_iload dX11_brought_78 rfl ?_
      refine k2_iret dX11_brought_80 rfl H
set_option maxRecDepth 4000 in
theorem v_X11_come {G : KG} {S0 : KSh} (hL : kLay S0) {d : Nat} {P : Option AV → KMem → Prop} {c : KMem} {x1 x2 x3 : Int} (r1 : -2147483648 ≤ x1 ∧ x1 < 2147483648) (r2 : -2147483648 ≤ x2 ∧ x2 < 2147483648) (r3 : -2147483648 ≤ x3 ∧ x3 < 2147483648) (H : (kStd c) ∧ (((kHas c x1) → (kC2 G S0 kM_X11_areLetters (d + 6) [kA 558, kI x2, kI 6] c (kRI (fun z4 c5 => (k32 z4) ∧ ((z4 = 0 → (P (some (kI (-1))) c5)) ∧ (z4 ≠ 0 → (((0 ≤ x3 ∧ x3 ≤ 3) → (kC2 G S0 kM_X11_areMirrors (d + 6) [kA 558, kI x2] c5 (kRI (fun z10 c11 => (k32 z10) ∧ ((z10 ≠ 0 → (kC2 G S0 kM_X11_beginsList (d + 6) [kA 558, kI x1] c11 (kRN (fun c15 => kW2 G S0 kM_X11_come (d + 7) 51 [some (kA 558), none, some (kI x2), some (kI x3), some (kI 0), some (kI 0), none] [] c15 P)))) ∧ (z10 = 0 → (P (some (kI (-3))) c11))))))) ∧ (¬ (0 ≤ x3 ∧ x3 ≤ 3) → (P (some (kI (-1))) c5))))))))) ∧ (¬ (kHas c x1) → (P (some (kI (-1))) c)))) : kC2 G S0 kM_X11_come (d + 7) [kA 558, kI x1, kI x2, kI x3] c P := by
  refine k2_met (by decide) rfl (Nat.le_of_ble_eq_true rfl) (l0 := [some (kA 558), some (kI x1), some (kI x2), some (kI x3), none, none, none]) rfl ?_
  refine kw_aload_n dX11_come_0 rfl ?_
  refine kw_iload_n dX11_come_1 rfl ?_
  have o1 := H.1
  have H := H.2
  refine k2_callV1I (ci := 9) (N := 38) (T := TX11) rfl (lsh_558 hL) m_X11_isLetter dX11_come_2 wl_X11_161 (Nat.le_of_ble_eq_true rfl) (s_X11_isLetter hL (k32i (by omega)) o1 (fun h2 => ⟨_, rfl, ?_⟩) (fun h2 => ⟨_, rfl, ?_⟩))
  · have H := H.1 h2
    refine kw_if_eq 27 dX11_come_5 (by decide) (k32i (by omega)) (fun h3 => absurd h3 (by decide)) (fun _ => ?_)
    refine kw_aload_n dX11_come_8 rfl ?_
    refine kw_iload_n dX11_come_9 rfl ?_
    refine kw_bipush dX11_come_10 (by decide) ?_
    refine k2_callV2I (ci := 9) (N := 38) (T := TX11) rfl (lsh_558 hL) m_X11_areLetters dX11_come_12 wl_X11_418 (Nat.le_of_ble_eq_true rfl) (kC2_mono H (fun r c5 H => ?_))
    obtain ⟨z4, rfl, H⟩ := H
    refine ⟨z4, rfl, ?_⟩
    have o7 := H.1
    have H := H.2
    refine kw_if_eq 27 dX11_come_15 (by decide) o7 (fun h6 => ?_) (fun h6 => ?_)
    · have H := H.1 h6
      refine kw_iconst dX11_come_27 ?_
      refine k2_iret dX11_come_28 rfl H
    · have H := H.2 h6
      refine kw_iload_n dX11_come_18 rfl ?_
      refine kw_iconst dX11_come_19 ?_
      refine kw_iconst dX11_come_20 ?_
      refine k2_callS3I m_X11_in dX11_come_21 wl_X11_100 (Nat.le_of_ble_eq_true rfl) (s_X11_in hL (k32i (by omega)) (k32i (by omega)) (k32i (by omega)) (fun h8 => ⟨_, rfl, ?_⟩) (fun h8 => ⟨_, rfl, ?_⟩))
      · have H := H.1 h8
        refine kw_if_ne 29 dX11_come_24 (by decide) (k32i (by omega)) (fun _ => ?_) (fun h9 => absurd h9 (by decide))
        refine kw_aload_n dX11_come_29 rfl ?_
        refine kw_iload_n dX11_come_30 rfl ?_
        refine k2_callV1I (ci := 9) (N := 38) (T := TX11) rfl (lsh_558 hL) m_X11_areMirrors dX11_come_31 wl_X11_421 (Nat.le_of_ble_eq_true rfl) (kC2_mono H (fun r c11 H => ?_))
        obtain ⟨z10, rfl, H⟩ := H
        refine ⟨z10, rfl, ?_⟩
        have o13 := H.1
        have H := H.2
        refine kw_if_ne 40 dX11_come_34 (by decide) o13 (fun h12 => ?_) (fun h12 => ?_)
        · have H := H.1 h12
          refine kw_aload_n dX11_come_40 rfl ?_
          refine kw_iload_n dX11_come_41 rfl ?_
          refine k2_callV1N (ci := 9) (N := 38) (T := TX11) rfl (lsh_558 hL) m_X11_beginsList dX11_come_42 wl_X11_424 (Nat.le_of_ble_eq_true rfl) (kC2_mono H (fun r c15 H => ?_))
          obtain ⟨rfl, H⟩ := H
          refine ⟨rfl, ?_⟩
          refine kw_iconst dX11_come_45 ?_
          refine kw_istore dX11_come_46 (Nat.le_of_ble_eq_true rfl) ?_
          refine kw_iconst dX11_come_48 ?_
          refine kw_istore dX11_come_49 (Nat.le_of_ble_eq_true rfl) ?_
          exact kw_forget (ls' := [some (kA 558), none, some (kI x2), some (kI x3), some (kI 0), some (kI 0), none]) ⟨Or.inr rfl, ⟨Or.inl rfl, ⟨Or.inr rfl, ⟨Or.inr rfl, ⟨Or.inr rfl, ⟨Or.inr rfl, ⟨Or.inr rfl, trivial⟩⟩⟩⟩⟩⟩⟩ H
        · have H := H.2 h12
          refine kw_bipush dX11_come_37 (by decide) ?_
          refine k2_iret dX11_come_39 rfl H
      · have H := H.2 h8
        refine kw_if_ne 29 dX11_come_24 (by decide) (k32i (by omega)) (fun h16 => absurd h16 (by decide)) (fun _ => ?_)
        refine kw_iconst dX11_come_27 ?_
        refine k2_iret dX11_come_28 rfl H
  · have H := H.2 h2
    refine kw_if_eq 27 dX11_come_5 (by decide) (k32i (by omega)) (fun _ => ?_) (fun h17 => absurd h17 (by decide))
    refine kw_iconst dX11_come_27 ?_
    refine k2_iret dX11_come_28 rfl H
set_option maxRecDepth 4000 in
theorem v_X11_come_51 {G : KG} {S0 : KSh} (hL : kLay S0) {d : Nat} {P : Option AV → KMem → Prop} {c : KMem} {x2 x3 x4 x5 : Int} (r2 : -2147483648 ≤ x2 ∧ x2 < 2147483648) (r3 : -2147483648 ≤ x3 ∧ x3 < 2147483648) (r4 : -2147483648 ≤ x4 ∧ x4 < 2147483648) (r5 : 0 ≤ x5 ∧ x5 < 2147483648) (hp : 0 ≤ c 558 14 ∧ c 558 14 < 301) (H : (x3 ≤ x5 → (P (some (kI (c 558 14))) c)) ∧ (x5 < x3 → (kC2 G S0 kM_X11_spreads (d + 6) [kA 558, kI x4, kI x2] c (kRN (fun c20 => kW2 G S0 kM_X11_come (d + 7) 51 [some (kA 558), none, some (kI x2), some (kI x3), some (kI (c 558 14)), some (kI (x5 + 1)), none] [] c20 P))))) : kW2 G S0 kM_X11_come (d + 7) 51 [some (kA 558), none, some (kI x2), some (kI x3), some (kI x4), some (kI x5), none] [] c P := by
  refine kw_iload dX11_come_51 rfl ?_
  refine kw_iload_n dX11_come_53 rfl ?_
  refine kw_icmp_ge 80 dX11_come_54 (by decide) (k32i (by omega)) (k32i (by omega)) (fun h18 => ?_) (fun h18 => ?_)
  · have H := H.1 h18
    refine kw_aload_n dX11_come_80 rfl ?_
    refine k2_getI fd_X11_14 dX11_come_81 wf_X11_406 (lsh_558 hL) ?_
    refine kw_eI (b := (c 558 14)) rfl ?_
    refine k2_iret dX11_come_84 rfl H
  · have H := H.2 h18
    refine kw_aload_n dX11_come_57 rfl ?_
    refine k2_getI fd_X11_14 dX11_come_58 wf_X11_406 (lsh_558 hL) ?_
    refine kw_eI (b := (c 558 14)) rfl ?_
    refine kw_istore dX11_come_61 (Nat.le_of_ble_eq_true rfl) ?_
    refine kw_aload_n dX11_come_63 rfl ?_
    refine kw_iload dX11_come_64 rfl ?_
    refine kw_iload_n dX11_come_66 rfl ?_
    refine k2_callV2N (ci := 9) (N := 38) (T := TX11) rfl (lsh_558 hL) m_X11_spreads dX11_come_67 wl_X11_427 (Nat.le_of_ble_eq_true rfl) (kC2_mono H (fun r c20 H => ?_))
    obtain ⟨rfl, H⟩ := H
    refine ⟨rfl, ?_⟩
    refine kw_iload dX11_come_70 rfl ?_
    refine kw_istore dX11_come_72 (Nat.le_of_ble_eq_true rfl) ?_
    refine kw_iinc dX11_come_74 rfl ?_
    refine kw_goto 51 dX11_come_77 (by decide) ?_
    exact kw_forget (ls' := [some (kA 558), none, some (kI x2), some (kI x3), some (kI (c 558 14)), some (kI (x5 + 1)), none]) ⟨Or.inr rfl, ⟨Or.inr rfl, ⟨Or.inr rfl, ⟨Or.inr rfl, ⟨Or.inr rfl, ⟨Or.inr rfl, ⟨Or.inl rfl, trivial⟩⟩⟩⟩⟩⟩⟩ H
section MLS
variable {G : KG} {S0 : KSh} {d : Nat} {P : Option AV → KMem → Prop} {c c0 : KMem} {Φ : Int → KF} {H : Int → Bool} {F : Int → KF} {f g : KF} {M m : Int} {S : KLs} {x0 x1 x2 x3 x4 : Int}
theorem t_areLetters (hL : kLay S0) (r1 : k32 m) (hs : RSt H F c) (h1 : kSetB H m x2 = true → P (some (kI 1)) c) (h0 : ¬ kSetB H m x2 = true → P (some (kI 0)) c) (r2 : k32 x2) : kC2 G S0 kM_X11_areLetters (d + 1) [kA 558, kI m, kI x2] c P := by
  rw [kSetB_iff] at h1 h0
  refine v_X11_areLetters hL r1 r2 ⟨fun q => h0 (fun w => by omega), fun q1 => ⟨fun q => h0 (fun w => by omega), fun q2 => ⟨fun q3 => ?_, fun q => h0 (fun w => by omega)⟩⟩⟩
  have loop : ∀ n k : Nat, k + n = 12 → (∀ j : Nat, j < k → kbit m j = true → H j = true) → kW2 G S0 kM_X11_areLetters (d + 1) 24 [some (kA 558), some (kI m), none, some (kI k)] [] c P := by
    intro n
    induction n with
    | zero =>
      intro k hk hj
      obtain rfl : k = 12 := by omega
      exact v_X11_areLetters_24 hL (by omega) (by omega) ⟨fun _ => h1 ⟨⟨q1, q2, q3⟩, hj⟩, fun q => by omega⟩
    | succ n ih =>
      intro k hk hj
      obtain ⟨s1, s2, s3⟩ := hs.st (l := k) (by omega) (by omega)
      have next : (kbit m k = true → H k = true) → kW2 G S0 kM_X11_areLetters (d + 1) 24 [some (kA 558), some (kI m), none, some (kI ((k + 1 : Nat) : Int))] [] c P := fun w => ih (k + 1) (by omega) (fun j hj2 hb => by
        by_cases e : j = k
        · subst e; exact w hb
        · exact hj j (by omega) hb)
      refine v_X11_areLetters_24 hL (by omega) (by omega) ⟨fun q => by omega, fun _ => ⟨fun z => ⟨s1, fun q => ?_, fun q => ?_⟩, fun z => ?_⟩⟩
      · exact next (fun _ => s2 q)
      · exact h0 (fun w => s3 q (w.2 k (by omega) ((kbit_iff (by omega) (by omega)).mp z)))
      · exact next (fun w => absurd ((kbit_iff (by omega) (by omega)).mpr w) z)
  exact loop 12 0 (by omega) (fun j hj => by omega)
theorem t_areMirrors (hL : kLay S0) (hg : kSgn c0) (hs : kPh Φ c0 c) (e3 : Φ 30 = farP) (hm : 0 ≤ m ∧ m < 4096) (hF : ∀ k : Nat, k < 12 → kbit m k = true → Φ k = F k ∧ kB kLB (F k)) (h1 : ∀ (Φ' : Int → KF) c', kPh Φ' c0 c' → (∀ s : Int, 0 ≤ s → s < 12 ∨ s = 30 → Φ' s = Φ s) → kMirS F m = true → P (some (kI 1)) c') (h0 : ∀ (Φ' : Int → KF) c', kPh Φ' c0 c' → (∀ s : Int, 0 ≤ s → s < 12 ∨ s = 30 → Φ' s = Φ s) → ¬ kMirS F m = true → P (some (kI 0)) c') : kC2 G S0 kM_X11_areMirrors (d + 6) [kA 558, kI m] c P := by
  rw [kMirS_iff] at h1 h0
  have loop : ∀ n k : Nat, k + n = 12 → ∀ (Φ' : Int → KF) c', kPh Φ' c0 c' → (∀ s : Int, 0 ≤ s → s < 12 ∨ s = 30 → Φ' s = Φ s) → (∀ j : Nat, j < k → kbit m j = true → kMir (kind (F j))) → kW2 G S0 kM_X11_areMirrors (d + 6) 2 [some (kA 558), some (kI m), some (kI k)] [] c' P := by
    intro n
    induction n with
    | zero =>
      intro k hk9 Φ' c' hs hk hj
      obtain rfl : k = 12 := by omega
      exact v_X11_areMirrors_2 hL (by omega) (by omega) ⟨fun _ => h1 _ _ hs hk hj, fun q => by omega⟩
    | succ n ih =>
      intro k hk9 Φ' c' hs hk hj
      have next : ∀ (Φ' : Int → KF) c', kPh Φ' c0 c' → (∀ s : Int, 0 ≤ s → s < 12 ∨ s = 30 → Φ' s = Φ s) → (kbit m k = true → kMir (kind (F k))) → kW2 G S0 kM_X11_areMirrors (d + 6) 2 [some (kA 558), some (kI m), some (kI ((k + 1 : Nat) : Int))] [] c' P := fun Φ' c' a b w => ih (k + 1) (by omega) Φ' c' a b (fun j hj2 hb => by
        by_cases e : j = k
        · subst e; exact w hb
        · exact hj j (by omega) hb)
      refine v_X11_areMirrors_2 hL (by omega) (by omega) ⟨fun q => by omega, fun _ => ⟨fun z => ?_, fun z => ?_⟩⟩
      · have zb := (kbit_iff hm (by omega)).mp z
        obtain ⟨p1, p2⟩ := hF k (by omega) zb
        have p4 : Φ' k = F k := (hk k (by omega) (by omega)).trans p1
        have p5 : Φ' 30 = farP := (hk 30 (by omega) (by omega)).trans e3
        refine t_isMirror hL hg hs (fun c1 a b hs z => ⟨1, rfl, kq1 ?_⟩) (fun c1 a b hs z => ⟨0, rfl, kq0 ?_⟩)
        · exact next _ _ hs (by intro s p q; repeat (first | exact rfl | refine kUn (by omega) ?_ | exact hk s p q)) (fun _ => z)
        · exact h0 _ _ hs (by intro s p q; repeat (first | exact rfl | refine kUn (by omega) ?_ | exact hk s p q)) (fun w => z (w k (by omega) zb))
      · exact next _ _ hs hk (fun w => absurd ((kbit_iff hm (by omega)).mpr w) z)
  exact v_X11_areMirrors hL (by omega) (loop 12 0 (by omega) Φ c hs (fun _ _ _ => rfl) (fun j hj => by omega))
theorem t_beginsList (hL : kLay S0) (hg : kSgn c0) (hs : kPh Φ c0 c) (h : ∀ (Φ' : Int → KF) c', kPh Φ' c' c' → kLs (1, fun _ => nrmP f) c' → kFr c0 c' → kSgn c' → (∀ s : Int, 0 ≤ s → s < 12 ∨ s = 30 → Φ' s = Φ s) → P none c') (hp : 0 ≤ x1 ∧ x1 < 12) (e : Φ x1 = f) (hb : kB kLB f) : kC2 G S0 kM_X11_beginsList (d + 3) [kA 558, kI x1] c P := by
  have hs2 : kPh Φ (kup c0 558 14 0) (kup c 558 14 0) := hs.up (by omega)
  have hg2 : kSgn (kup c0 558 14 0) := fun a b ha hb => (kup_n (Or.inl (by decide))).trans (hg a b ha hb)
  have hl : kLs (0, fun _ => f) (kup c0 558 14 0) := ⟨kup_s _ _ _ _, fun i hi => absurd hi (Nat.not_lt_zero i)⟩
  refine v_X11_beginsList hL (by omega) ?_
  refine t_copies hL hs2 (fun c2 hs => ⟨rfl, ?_⟩)
  refine t_normals hL hs (fun c3 hs => ⟨rfl, ?_⟩)
  refine t_listsForm hL hs hl (Nat.zero_lt_succ _) (fun c4 hs4 hl4 hf4 hg4 => ⟨rfl, ?_⟩) (by omega) kUs (nrmP_bd hb)
  refine h _ _ hs4 ⟨hl4.1, fun i hi => ?_⟩ ((kFr.rf.up (by omega)).tr hf4) (hg4 hg2) (by intro s p q; repeat (first | exact rfl | refine kUn (by omega) ?_ | exact hk s p q))
  have hi' : i < 1 := hi
  obtain rfl : i = 0 := by omega
  exact hl4.2 0 (Nat.zero_lt_succ _)
theorem s_X11_come (hL : kLay S0) (r1 : k32 x1) (r2 : k32 x2) (r3 : k32 x3) (hs : RSt H F c) (h : ∀ c', kRP c c' → P (some (kI (vCome H F x1 x2 x3))) c') : kC2 G S0 kM_X11_come (d + 7) [kA 558, kI x1, kI x2, kI x3] c P := by
  obtain ⟨Φ, s0, hg, hst, hy, hn, e3, hl⟩ := hs.op
  have hP := kPi h
  unfold vCome at hP
  refine v_X11_come hL r1 r2 r3 ⟨hst, fun z1 => ?_, fun z1 => hP _ _ kRP.rf (by rw [if_neg (hn _ z1)])⟩
  have y1 := hy _ z1
  obtain ⟨a1, b1, e1, f1⟩ := hl _ y1
  rw [if_pos y1] at hP
  refine t_areLetters hL r2 hs (fun q => ⟨1, rfl, kr1 ?_⟩) (fun q => ⟨0, rfl, kr0 ?_⟩) (k32i (by omega))
  · rw [if_pos q] at hP
    obtain ⟨q1, q2⟩ := kSetB_iff.mp q
    have hm : 0 ≤ x2 ∧ x2 < 4096 := by omega
    have h6 : kCn (kbit x2) 12 ≤ 6 := by rw [← kpop_bit hm]; omega
    refine ⟨fun z3 => ?_, fun z3 => hP _ _ kRP.rf (by rw [if_neg z3])⟩
    rw [if_pos z3] at hP
    refine t_areMirrors (F := F) hL hg s0 e3 hm (fun k hk hb => by have := hl k (q2 k hk hb); exact this.2.2) (fun Φ' c' hs hk w => ⟨1, rfl, kq1 ?_⟩) (fun Φ' c' hs hk w => ⟨0, rfl, kq0 ?_⟩)
    · rw [if_pos w] at hP
      have hmir := kMirS_iff.mp w
      have e5 : Φ' x1 = F x1 := (hk x1 (by omega) (by omega)).trans e1
      refine t_beginsList hL hg hs (fun Φ2 c2 hs2 hl2 hf2 hg2 hk2 => ⟨rfl, ?_⟩) ⟨a1, b1⟩ e5 f1
      have loop : ∀ n t : Nat, t + n = x3.toNat → ∀ (Φ' : Int → KF) c', kPh Φ' c' c' → kLs (cmS x2 F (F x1) t).2 c' → kFr c c' → kSgn c' → (∀ s : Int, 0 ≤ s → s < 12 ∨ s = 30 → Φ' s = Φ s) → kW2 G S0 kM_X11_come (d + 7) 51 [some (kA 558), none, some (kI x2), some (kI x3), some (kI ((cmS x2 F (F x1) t).1 : Int)), some (kI (t : Int)), none] [] c' P := by
        intro n
        induction n with
        | zero =>
          intro t ht Φ' c' hs hl' hf hg hk
          obtain rfl : t = x3.toNat := by omega
          obtain ⟨-, l1, l2, l3⟩ := cmS_le x2 F (F x1) h6 x3.toNat
          have l3 := l3 (by omega)
          have e0 := hl'.1
          refine v_X11_come_51 hL (by omega) r3 (by omega) (by omega) (by omega) ⟨fun _ => ?_, fun q => by omega⟩
          rw [e0]
          exact hP _ _ (s0.rp hs hf (by intro s p q; repeat (first | exact rfl | refine kUn (by omega) ?_ | exact hk s p q))) rfl
        | succ n ih =>
          intro t ht Φ' c' hs hl' hf hg hk
          obtain ⟨-, l1, l2, l3⟩ := cmS_le x2 F (F x1) h6 t
          have l3 := l3 (by omega)
          have e0 := hl'.1
          refine v_X11_come_51 hL (by omega) r3 (by omega) (by omega) (by omega) ⟨fun q => by omega, fun _ => ?_⟩
          refine t_spreads (F := F) hL hg hs hl' ((hk 30 (by omega) (by omega)).trans e3) hm (fun k hk9 hb => ?_) l1 (l2 (by omega)) (fun Φ3 c3 hs3 hl3 hf3 hg3 hk3 => ⟨rfl, ?_⟩)
          · obtain ⟨u1, u2, u3, u4⟩ := hl k (q2 k hk9 hb)
            exact ⟨(hk k (by omega) (by omega)).trans u3, u4, hmir k hk9 hb⟩
          · rw [e0]
            exact ih (t + 1) (by omega) Φ3 c3 hs3 hl3 (hf.tr hf3) hg3 (fun s p q => (hk3 s p (by omega)).trans (hk s p q))
      exact loop x3.toNat 0 (by omega) Φ2 c2 hs2 hl2 hf2 hg2 (fun s p q => (hk2 s p q).trans (hk s p q))
    · rw [if_neg w] at hP
      exact hP _ _ (s0.rp hs kFr.rf hk) rfl
  · rw [if_neg q] at hP
    exact hP _ _ kRP.rf rfl
theorem s_X11_brought (hL : kLay S0) (r1 : k32 x1) (r2 : k32 x2) (r3 : k32 x3) (hs : RSt H F c) (h : ∀ c', kRP c c' → P (some (kI (vBrought H F x1 x2 x3))) c') : kC2 G S0 kM_X11_brought (d + 7) [kA 558, kI x1, kI x2, kI x3] c P := by
  obtain ⟨Φ, s0, hg, hst, hy, hn, e3, hl⟩ := hs.op
  have hP := kPi h
  unfold vBrought at hP
  refine v_X11_brought hL r1 r2 r3 ⟨hst, fun z1 => ?_, fun z1 => hP _ _ kRP.rf (by rw [if_neg (hn _ z1)])⟩
  have y1 := hy _ z1
  obtain ⟨a1, b1, e1, f1⟩ := hl _ y1
  rw [if_pos y1] at hP
  refine ⟨fun z2 => ?_, fun z2 => hP _ _ kRP.rf (by rw [if_neg (hn _ z2)])⟩
  have y2 := hy _ z2
  obtain ⟨a2, b2, e2, f2⟩ := hl _ y2
  rw [if_pos y2] at hP
  refine t_areLetters hL r3 hs (fun q => ⟨1, rfl, kq1 ?_⟩) (fun q => ⟨0, rfl, kq0 ?_⟩) (k32i (by omega))
  · rw [if_pos q] at hP
    obtain ⟨q1, q2⟩ := kSetB_iff.mp q
    have hm : 0 ≤ x3 ∧ x3 < 4096 := by omega
    have h6 : kCn (kbit x3) 12 ≤ 6 := by rw [← kpop_bit hm]; omega
    refine t_areMirrors (F := F) hL hg s0 e3 hm (fun k hk hb => by have := hl k (q2 k hk hb); exact this.2.2) (fun Φ' c' hs hk w => ⟨1, rfl, kq1 ?_⟩) (fun Φ' c' hs hk w => ⟨0, rfl, kq0 ?_⟩)
    · rw [if_pos w] at hP
      have hmir := kMirS_iff.mp w
      have e5 : Φ' x1 = F x1 := (hk x1 (by omega) (by omega)).trans e1
      refine t_beginsList hL hg hs (fun Φ2 c2 hs2 hl2 hf2 hg2 hk2 => ⟨rfl, ?_⟩) ⟨a1, b1⟩ e5 f1
      have e6 : Φ2 x2 = F x2 := (hk2 x2 (by omega) (by omega)).trans ((hk x2 (by omega) (by omega)).trans e2)
      refine t_copies hL hs2 (fun c3 hs => ⟨rfl, ?_⟩)
      refine t_normals hL hs (fun c3 hs => ⟨rfl, ?_⟩)
      have bn : kB kLB (nrmP (F x2)) := nrmP_bd f2
      have loop : ∀ n t : Nat, t + n = 4 → ∀ (fr : Nat) (Φ' : Int → KF) c', kPh Φ' c' c' → (t ≤ 3 → kLs (cmS x3 F (F x1) t).2 c' ∧ fr = (cmS x3 F (F x1) t).1) → 0 ≤ c' 558 14 ∧ c' 558 14 < 301 → fr < 301 → kFr c c' → kSgn c' → (∀ s : Int, 0 ≤ s → s < 12 ∨ s = 30 → Φ' s = Φ s) → Φ' 28 = nrmP (F x2) → (∀ (v : Int) (c' : KMem), kRP c c' → v = brN x3 F (F x1) (F x2) n t → P (some (kI v)) c') → kW2 G S0 kM_X11_brought (d + 7) 63 [some (kA 558), none, none, some (kI x3), some (kI (fr : Int)), some (kI (t : Int)), none] [] c' P := by
        intro n
        induction n with
        | zero =>
          intro t ht fr Φ' c' hs hl' h14 hfr hf hg hk h28 hP
          refine v_X11_brought_63 hL (by omega) (by omega) (by omega) h14 ⟨fun _ => ?_, fun q => by omega⟩
          exact hP _ _ (s0.rp hs hf (by intro s p q; repeat (first | exact rfl | refine kUn (by omega) ?_ | exact hk s p q))) rfl
        | succ n ih =>
          intro t ht fr Φ' c' hs hl' h14 hfr hf hg hk h28 hP
          obtain ⟨hls, rfl⟩ := hl' (by omega)
          obtain ⟨-, l1, l2, l3⟩ := cmS_le x3 F (F x1) h6 t
          have l3 := l3 (by omega)
          have e0 := hls.1
          have eb : brN x3 F (F x1) (F x2) (n + 1) t = if brHas x3 F (F x1) (F x2) t = true then (t : Int) else brN x3 F (F x1) (F x2) n (t + 1) := rfl
          rw [eb] at hP
          refine v_X11_brought_63 hL (by omega) (by omega) (by omega) h14 ⟨fun q => by omega, fun _ => ?_⟩
          refine t_isListed hL hs hls (by omega) (fun w => ⟨1, rfl, kr1 ?_⟩) (fun w => ⟨0, rfl, kr0 ?_⟩) (by omega) h28 bn
          · have w' : brHas x3 F (F x1) (F x2) t = true := w
            rw [if_pos w'] at hP
            exact hP _ _ (s0.rp hs hf (by intro s p q; repeat (first | exact rfl | refine kUn (by omega) ?_ | exact hk s p q))) rfl
          · have w' : ¬ brHas x3 F (F x1) (F x2) t = true := w
            rw [if_neg w'] at hP
            rw [e0]
            refine ⟨fun q => ?_, fun q => ?_⟩
            · exact ih (t + 1) (by omega) _ Φ' c' hs (fun q => by omega) h14 (by omega) hf hg hk h28 hP
            · refine t_spreads (F := F) hL hg hs hls ((hk 30 (by omega) (by omega)).trans e3) hm (fun k hk9 hb => ?_) l1 (l2 (by omega)) (fun Φ3 c3 hs3 hl3 hf3 hg3 hk3 => ⟨rfl, ?_⟩)
              · obtain ⟨u1, u2, u3, u4⟩ := hl k (q2 k hk9 hb)
                exact ⟨(hk k (by omega) (by omega)).trans u3, u4, hmir k hk9 hb⟩
              · have l4 := (cmS_le x3 F (F x1) h6 (t + 1)).2.2.2 (by omega)
                have e9 : c3 558 14 = ((cmS x3 F (F x1) (t + 1)).2.1 : Int) := hl3.1
                exact ih (t + 1) (by omega) _ Φ3 c3 hs3 (fun _ => ⟨hl3, rfl⟩) (by omega) (by omega) (hf.tr hf3) hg3 (fun s p q => (hk3 s p (by omega)).trans (hk s p q)) ((hk3 28 (by omega) (by omega)).trans h28) hP
      have hl3 := hs.ls hl2
      have e9 : c3 558 14 = (1 : Int) := hl3.1
      refine loop 4 0 (by omega) 0 _ c3 hs.own (fun _ => ⟨hl3, rfl⟩) (by omega) (by omega) (hf2.tr hs.fr) (hs.sgn hg2) (fun s p q => ?_) kUs hP
      refine (kUn (by omega) (kUn (by omega) ?_))
      exact (hk2 s p q).trans (hk s p q)
    · rw [if_neg w] at hP
      exact hP _ _ (s0.rp hs kFr.rf hk) rfl
  · rw [if_neg q] at hP
    exact hP _ _ kRP.rf rfl
end MLS
