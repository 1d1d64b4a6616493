set_option maxRecDepth 4000 in
theorem v_X11_squareOf {G : KG} {S0 : KSh} (hL : kLay S0) {d : Nat} {P : Option AV → KMem → Prop} {c : KMem} {x1 : Int} (r1 : -2147483648 ≤ x1 ∧ x1 < 2147483648) (H : kC2 G S0 kM_X11_joins (d + 1) [kA 558, kI 0, kI x1, kI x1, kI 31] c (kRN (fun c2 => P (some (kL (c2 559 ((16 * 31) + 0)))) c2))) : kC2 G S0 kM_X11_squareOf (d + 2) [kA 558, kI x1] c P := by
  refine k2_met (by decide) rfl (Nat.le_of_ble_eq_true rfl) (l0 := [some (kA 558), some (kI x1)]) rfl ?_
  refine kw_aload_n dX11_squareOf_0 rfl ?_
  refine kw_iconst dX11_squareOf_1 ?_
  refine kw_iload_n dX11_squareOf_2 rfl ?_
  refine kw_iload_n dX11_squareOf_3 rfl ?_
  refine kw_bipush dX11_squareOf_4 (by decide) ?_
  refine k2_callV4N (ci := 9) (N := 38) (T := TX11) rfl (lsh_558 hL) m_X11_joins dX11_squareOf_6 wl_X11_111 (Nat.le_of_ble_eq_true rfl) (kC2_mono H (fun r c2 H => ?_))
  obtain ⟨rfl, H⟩ := H
  refine ⟨rfl, ?_⟩
  refine kw_aload_n dX11_squareOf_9 rfl ?_
  refine kw_bipush dX11_squareOf_10 (by decide) ?_
  refine kw_iconst dX11_squareOf_12 ?_
  refine k2_callV2L (ci := 9) (N := 38) (T := TX11) rfl (lsh_558 hL) m_X11_at dX11_squareOf_13 wl_X11_84 (Nat.le_of_ble_eq_true rfl) (s_X11_at hL (k32i (by omega)) (k32i (by omega)) (by omega) ⟨_, rfl, ?_⟩)
  refine k2_lret dX11_squareOf_16 rfl H
set_option maxRecDepth 4000 in
theorem v_X11_innerOf {G : KG} {S0 : KSh} (hL : kLay S0) {d : Nat} {P : Option AV → KMem → Prop} {c : KMem} {x1 x2 : Int} (r1 : -2147483648 ≤ x1 ∧ x1 < 2147483648) (r2 : -2147483648 ≤ x2 ∧ x2 < 2147483648) (H : kC2 G S0 kM_X11_joins (d + 1) [kA 558, kI 2, kI x1, kI x2, kI 31] c (kRN (fun c2 => P (some (kL (c2 559 ((16 * 31) + 0)))) c2))) : kC2 G S0 kM_X11_innerOf (d + 2) [kA 558, kI x1, kI x2] c P := by
  refine k2_met (by decide) rfl (Nat.le_of_ble_eq_true rfl) (l0 := [some (kA 558), some (kI x1), some (kI x2)]) rfl ?_
  refine kw_aload_n dX11_innerOf_0 rfl ?_
  refine kw_iconst dX11_innerOf_1 ?_
  refine kw_iload_n dX11_innerOf_2 rfl ?_
  refine kw_iload_n dX11_innerOf_3 rfl ?_
  refine kw_bipush dX11_innerOf_4 (by decide) ?_
  refine k2_callV4N (ci := 9) (N := 38) (T := TX11) rfl (lsh_558 hL) m_X11_joins dX11_innerOf_6 wl_X11_111 (Nat.le_of_ble_eq_true rfl) (kC2_mono H (fun r c2 H => ?_))
  obtain ⟨rfl, H⟩ := H
  refine ⟨rfl, ?_⟩
  refine kw_aload_n dX11_innerOf_9 rfl ?_
  refine kw_bipush dX11_innerOf_10 (by decide) ?_
  refine kw_iconst dX11_innerOf_12 ?_
  refine k2_callV2L (ci := 9) (N := 38) (T := TX11) rfl (lsh_558 hL) m_X11_at dX11_innerOf_13 wl_X11_84 (Nat.le_of_ble_eq_true rfl) (s_X11_at hL (k32i (by omega)) (k32i (by omega)) (by omega) ⟨_, rfl, ?_⟩)
  refine k2_lret dX11_innerOf_16 rfl H
set_option maxRecDepth 4000 in
theorem v_X11_kindOfOne {G : KG} {S0 : KSh} (hL : kLay S0) {d : Nat} {P : Option AV → KMem → Prop} {c : KMem} {x1 : Int} (r1 : -2147483648 ≤ x1 ∧ x1 < 2147483648) (hp : 0 ≤ x1 ∧ x1 < 100) (H : (k64 (c 559 ((16 * x1) + 4))) ∧ ((k64 (c 559 ((16 * x1) + 8))) ∧ (((c 559 ((16 * x1) + 4)) ≠ (c 559 ((16 * x1) + 8)) → ((k64 (((((c 559 ((16 * x1) + 1)) * (c 559 ((16 * x1) + 1))) + ((c 559 ((16 * x1) + 2)) * (c 559 ((16 * x1) + 2)))) + ((c 559 ((16 * x1) + 4)) * (c 559 ((16 * x1) + 4)))) - ((c 559 ((16 * x1) + 8)) * (c 559 ((16 * x1) + 8))))) ∧ (((((((c 559 ((16 * x1) + 1)) * (c 559 ((16 * x1) + 1))) + ((c 559 ((16 * x1) + 2)) * (c 559 ((16 * x1) + 2)))) + ((c 559 ((16 * x1) + 4)) * (c 559 ((16 * x1) + 4)))) - ((c 559 ((16 * x1) + 8)) * (c 559 ((16 * x1) + 8)))) ≠ 0 → (((((((c 559 ((16 * x1) + 1)) * (c 559 ((16 * x1) + 1))) + ((c 559 ((16 * x1) + 2)) * (c 559 ((16 * x1) + 2)))) + ((c 559 ((16 * x1) + 4)) * (c 559 ((16 * x1) + 4)))) - ((c 559 ((16 * x1) + 8)) * (c 559 ((16 * x1) + 8)))) ≤ 0 → (P (some (kI 4)) c)) ∧ (0 < (((((c 559 ((16 * x1) + 1)) * (c 559 ((16 * x1) + 1))) + ((c 559 ((16 * x1) + 2)) * (c 559 ((16 * x1) + 2)))) + ((c 559 ((16 * x1) + 4)) * (c 559 ((16 * x1) + 4)))) - ((c 559 ((16 * x1) + 8)) * (c 559 ((16 * x1) + 8)))) → (P (some (kI 3)) c)))) ∧ ((((((c 559 ((16 * x1) + 1)) * (c 559 ((16 * x1) + 1))) + ((c 559 ((16 * x1) + 2)) * (c 559 ((16 * x1) + 2)))) + ((c 559 ((16 * x1) + 4)) * (c 559 ((16 * x1) + 4)))) - ((c 559 ((16 * x1) + 8)) * (c 559 ((16 * x1) + 8)))) = 0 → (P (some (kI 2)) c))))) ∧ ((c 559 ((16 * x1) + 4)) = (c 559 ((16 * x1) + 8)) → ((k64 (c 559 ((16 * x1) + 1))) ∧ (((c 559 ((16 * x1) + 1)) ≠ 0 → (P (some (kI 6)) c)) ∧ ((c 559 ((16 * x1) + 1)) = 0 → ((k64 (c 559 ((16 * x1) + 2))) ∧ (((c 559 ((16 * x1) + 2)) = 0 → (P (some (kI 5)) c)) ∧ ((c 559 ((16 * x1) + 2)) ≠ 0 → (P (some (kI 6)) c))))))))))) : kC2 G S0 kM_X11_kindOfOne (d + 1) [kA 558, kI x1] c P := by
  refine k2_met (by decide) rfl (Nat.le_of_ble_eq_true rfl) (l0 := [some (kA 558), some (kI x1), none, none]) rfl ?_
  refine kw_aload_n dX11_kindOfOne_0 rfl ?_
  refine kw_iload_n dX11_kindOfOne_1 rfl ?_
  refine kw_iconst dX11_kindOfOne_2 ?_
  refine k2_callV2L (ci := 9) (N := 38) (T := TX11) rfl (lsh_558 hL) m_X11_at dX11_kindOfOne_3 wl_X11_84 (Nat.le_of_ble_eq_true rfl) (s_X11_at hL (k32i (by omega)) (k32i (by omega)) (by omega) ⟨_, rfl, ?_⟩)
  refine kw_aload_n dX11_kindOfOne_6 rfl ?_
  refine kw_iload_n dX11_kindOfOne_7 rfl ?_
  refine kw_iconst dX11_kindOfOne_8 ?_
  refine k2_callV2L (ci := 9) (N := 38) (T := TX11) rfl (lsh_558 hL) m_X11_at dX11_kindOfOne_9 wl_X11_84 (Nat.le_of_ble_eq_true rfl) (s_X11_at hL (k32i (by omega)) (k32i (by omega)) (by omega) ⟨_, rfl, ?_⟩)
  refine kw_lmul dX11_kindOfOne_12 ?_
  refine kw_aload_n dX11_kindOfOne_13 rfl ?_
  refine kw_iload_n dX11_kindOfOne_14 rfl ?_
  refine kw_iconst dX11_kindOfOne_15 ?_
  refine k2_callV2L (ci := 9) (N := 38) (T := TX11) rfl (lsh_558 hL) m_X11_at dX11_kindOfOne_16 wl_X11_84 (Nat.le_of_ble_eq_true rfl) (s_X11_at hL (k32i (by omega)) (k32i (by omega)) (by omega) ⟨_, rfl, ?_⟩)
  refine kw_aload_n dX11_kindOfOne_19 rfl ?_
  refine kw_iload_n dX11_kindOfOne_20 rfl ?_
  refine kw_iconst dX11_kindOfOne_21 ?_
  refine k2_callV2L (ci := 9) (N := 38) (T := TX11) rfl (lsh_558 hL) m_X11_at dX11_kindOfOne_22 wl_X11_84 (Nat.le_of_ble_eq_true rfl) (s_X11_at hL (k32i (by omega)) (k32i (by omega)) (by omega) ⟨_, rfl, ?_⟩)
  refine kw_lmul dX11_kindOfOne_25 ?_
  refine kw_ladd dX11_kindOfOne_26 ?_
  refine kw_aload_n dX11_kindOfOne_27 rfl ?_
  refine kw_iload_n dX11_kindOfOne_28 rfl ?_
  refine kw_iconst dX11_kindOfOne_29 ?_
  refine k2_callV2L (ci := 9) (N := 38) (T := TX11) rfl (lsh_558 hL) m_X11_at dX11_kindOfOne_30 wl_X11_84 (Nat.le_of_ble_eq_true rfl) (s_X11_at hL (k32i (by omega)) (k32i (by omega)) (by omega) ⟨_, rfl, ?_⟩)
  refine kw_aload_n dX11_kindOfOne_33 rfl ?_
  refine kw_iload_n dX11_kindOfOne_34 rfl ?_
  refine kw_iconst dX11_kindOfOne_35 ?_
  refine k2_callV2L (ci := 9) (N := 38) (T := TX11) rfl (lsh_558 hL) m_X11_at dX11_kindOfOne_36 wl_X11_84 (Nat.le_of_ble_eq_true rfl) (s_X11_at hL (k32i (by omega)) (k32i (by omega)) (by omega) ⟨_, rfl, ?_⟩)
  refine kw_lmul dX11_kindOfOne_39 ?_
  refine kw_ladd dX11_kindOfOne_40 ?_
  refine kw_aload_n dX11_kindOfOne_41 rfl ?_
  refine kw_iload_n dX11_kindOfOne_42 rfl ?_
  refine kw_bipush dX11_kindOfOne_43 (by decide) ?_
  refine k2_callV2L (ci := 9) (N := 38) (T := TX11) rfl (lsh_558 hL) m_X11_at dX11_kindOfOne_45 wl_X11_84 (Nat.le_of_ble_eq_true rfl) (s_X11_at hL (k32i (by omega)) (k32i (by omega)) (by omega) ⟨_, rfl, ?_⟩)
  refine kw_aload_n dX11_kindOfOne_48 rfl ?_
  refine kw_iload_n dX11_kindOfOne_49 rfl ?_
  refine kw_bipush dX11_kindOfOne_50 (by decide) ?_
  refine k2_callV2L (ci := 9) (N := 38) (T := TX11) rfl (lsh_558 hL) m_X11_at dX11_kindOfOne_52 wl_X11_84 (Nat.le_of_ble_eq_true rfl) (s_X11_at hL (k32i (by omega)) (k32i (by omega)) (by omega) ⟨_, rfl, ?_⟩)
  refine kw_lmul dX11_kindOfOne_55 ?_
  refine kw_lsub dX11_kindOfOne_56 ?_
  refine kw_lstore_n dX11_kindOfOne_57 (Nat.le_of_ble_eq_true rfl) ?_
  refine kw_aload_n dX11_kindOfOne_58 rfl ?_
  refine kw_iload_n dX11_kindOfOne_59 rfl ?_
  refine kw_iconst dX11_kindOfOne_60 ?_
  refine k2_callV2L (ci := 9) (N := 38) (T := TX11) rfl (lsh_558 hL) m_X11_at dX11_kindOfOne_61 wl_X11_84 (Nat.le_of_ble_eq_true rfl) (s_X11_at hL (k32i (by omega)) (k32i (by omega)) (by omega) ⟨_, rfl, ?_⟩)
  refine kw_aload_n dX11_kindOfOne_64 rfl ?_
  refine kw_iload_n dX11_kindOfOne_65 rfl ?_
  refine kw_bipush dX11_kindOfOne_66 (by decide) ?_
  refine k2_callV2L (ci := 9) (N := 38) (T := TX11) rfl (lsh_558 hL) m_X11_at dX11_kindOfOne_68 wl_X11_84 (Nat.le_of_ble_eq_true rfl) (s_X11_at hL (k32i (by omega)) (k32i (by omega)) (by omega) ⟨_, rfl, ?_⟩)
  have o1 := H.1
  have H := H.2
  have o2 := H.1
  have H := H.2
  refine kw_lcmp_ne 104 dX11_kindOfOne_71 dX11_kindOfOne_72 (by decide) o1 o2 (fun h3 => ?_) (fun h3 => ?_)
  · have H := H.1 h3
    refine kw_lload_n dX11_kindOfOne_104 rfl ?_
    refine kw_lconst0 dX11_kindOfOne_105 ?_
    have o4 := H.1
    have H := H.2
    refine kw_lcmp_ne 114 dX11_kindOfOne_106 dX11_kindOfOne_107 (by decide) o4 (k64i (by omega)) (fun h5 => ?_) (fun h5 => ?_)
    · have H := H.1 h5
      refine kw_lload_n dX11_kindOfOne_114 rfl ?_
      refine kw_lconst0 dX11_kindOfOne_115 ?_
      refine kw_lcmp_le 124 dX11_kindOfOne_116 dX11_kindOfOne_117 (by decide) o4 (k64i (by omega)) (fun h6 => ?_) (fun h6 => ?_)
      · have H := H.1 h6
        refine kw_iconst dX11_kindOfOne_124 ?_
        refine k2_iret dX11_kindOfOne_125 rfl H
      · have H := H.2 h6
        refine kw_iconst dX11_kindOfOne_120 ?_
        refine kw_goto 125 dX11_kindOfOne_121 (by decide) ?_
        refine k2_iret dX11_kindOfOne_125 rfl H
    · have H := H.2 h5
      refine kw_iconst dX11_kindOfOne_110 ?_
      refine kw_goto 125 dX11_kindOfOne_111 (by decide) ?_
      refine k2_iret dX11_kindOfOne_125 rfl H
  · have H := H.2 h3
    refine kw_aload_n dX11_kindOfOne_75 rfl ?_
    refine kw_iload_n dX11_kindOfOne_76 rfl ?_
    refine kw_iconst dX11_kindOfOne_77 ?_
    refine k2_callV2L (ci := 9) (N := 38) (T := TX11) rfl (lsh_558 hL) m_X11_at dX11_kindOfOne_78 wl_X11_84 (Nat.le_of_ble_eq_true rfl) (s_X11_at hL (k32i (by omega)) (k32i (by omega)) (by omega) ⟨_, rfl, ?_⟩)
    refine kw_lconst0 dX11_kindOfOne_81 ?_
    have o7 := H.1
    have H := H.2
    refine kw_lcmp_ne 97 dX11_kindOfOne_82 dX11_kindOfOne_83 (by decide) o7 (k64i (by omega)) (fun h8 => ?_) (fun h8 => ?_)
    · have H := H.1 h8
      refine kw_bipush dX11_kindOfOne_97 (by decide) ?_
      refine kw_goto 103 dX11_kindOfOne_99 (by decide) ?_
      refine k2_iret dX11_kindOfOne_103 rfl H
    · have H := H.2 h8
      refine kw_aload_n dX11_kindOfOne_86 rfl ?_
      refine kw_iload_n dX11_kindOfOne_87 rfl ?_
      refine kw_iconst dX11_kindOfOne_88 ?_
      refine k2_callV2L (ci := 9) (N := 38) (T := TX11) rfl (lsh_558 hL) m_X11_at dX11_kindOfOne_89 wl_X11_84 (Nat.le_of_ble_eq_true rfl) (s_X11_at hL (k32i (by omega)) (k32i (by omega)) (by omega) ⟨_, rfl, ?_⟩)
      refine kw_lconst0 dX11_kindOfOne_92 ?_
      have o9 := H.1
      have H := H.2
      refine kw_lcmp_eq 102 dX11_kindOfOne_93 dX11_kindOfOne_94 (by decide) o9 (k64i (by omega)) (fun h10 => ?_) (fun h10 => ?_)
      · have H := H.1 h10
        refine kw_iconst dX11_kindOfOne_102 ?_
        refine k2_iret dX11_kindOfOne_103 rfl H
      · have H := H.2 h10
        refine kw_bipush dX11_kindOfOne_97 (by decide) ?_
        refine kw_goto 103 dX11_kindOfOne_99 (by decide) ?_
        refine k2_iret dX11_kindOfOne_103 rfl H
set_option maxRecDepth 4000 in
theorem v_X11_kindOfTwo {G : KG} {S0 : KSh} (hL : kLay S0) {d : Nat} {P : Option AV → KMem → Prop} {c : KMem} {x1 : Int} (r1 : -2147483648 ≤ x1 ∧ x1 < 2147483648) (H : kC2 G S0 kM_X11_joins (d + 2) [kA 558, kI 1, kI x1, kI x1, kI 31] c (kRN (fun c2 => kC2 G S0 kM_X11_isNothing (d + 2) [kA 558, kI 31] c2 (kRI (fun z3 c4 => (k32 z3) ∧ ((z3 ≠ 0 → (kC2 G S0 kM_X11_joins (d + 2) [kA 558, kI 1, kI 30, kI x1, kI 31] c4 (kRN (fun c8 => kC2 G S0 kM_X11_isNothing (d + 2) [kA 558, kI 31] c8 (kRI (fun z9 c10 => (k32 z9) ∧ ((z9 = 0 → (kC2 G S0 kM_X11_squareOf (d + 2) [kA 558, kI x1] c10 (kRL (fun z13 c14 => (k64 z13) ∧ ((z13 ≤ 0 → ((z13 ≠ 0 → (P (some (kI 22)) c14)) ∧ (z13 = 0 → (P (some (kI 21)) c14)))) ∧ (0 < z13 → (P (some (kI 20)) c14))))))) ∧ (z9 ≠ 0 → (P (some (kI 8)) c10))))))))) ∧ (z3 = 0 → (P (some (kI 9)) c4)))))))) : kC2 G S0 kM_X11_kindOfTwo (d + 3) [kA 558, kI x1] c P := by
  refine k2_met (by decide) rfl (Nat.le_of_ble_eq_true rfl) (l0 := [some (kA 558), some (kI x1), none, none]) rfl ?_
  refine kw_aload_n dX11_kindOfTwo_0 rfl ?_
  refine kw_iconst dX11_kindOfTwo_1 ?_
  refine kw_iload_n dX11_kindOfTwo_2 rfl ?_
  refine kw_iload_n dX11_kindOfTwo_3 rfl ?_
  refine kw_bipush dX11_kindOfTwo_4 (by decide) ?_
  refine k2_callV4N (ci := 9) (N := 38) (T := TX11) rfl (lsh_558 hL) m_X11_joins dX11_kindOfTwo_6 wl_X11_111 (Nat.le_of_ble_eq_true rfl) (kC2_mono H (fun r c2 H => ?_))
  obtain ⟨rfl, H⟩ := H
  refine ⟨rfl, ?_⟩
  refine kw_aload_n dX11_kindOfTwo_9 rfl ?_
  refine kw_bipush dX11_kindOfTwo_10 (by decide) ?_
  refine k2_callV1I (ci := 9) (N := 38) (T := TX11) rfl (lsh_558 hL) m_X11_isNothing dX11_kindOfTwo_12 wl_X11_115 (Nat.le_of_ble_eq_true rfl) (kC2_mono H (fun r c4 H => ?_))
  obtain ⟨z3, rfl, H⟩ := H
  refine ⟨z3, rfl, ?_⟩
  have o6 := H.1
  have H := H.2
  refine kw_if_ne 21 dX11_kindOfTwo_15 (by decide) o6 (fun h5 => ?_) (fun h5 => ?_)
  · have H := H.1 h5
    refine kw_aload_n dX11_kindOfTwo_21 rfl ?_
    refine kw_iconst dX11_kindOfTwo_22 ?_
    refine kw_bipush dX11_kindOfTwo_23 (by decide) ?_
    refine kw_iload_n dX11_kindOfTwo_25 rfl ?_
    refine kw_bipush dX11_kindOfTwo_26 (by decide) ?_
    refine k2_callV4N (ci := 9) (N := 38) (T := TX11) rfl (lsh_558 hL) m_X11_joins dX11_kindOfTwo_28 wl_X11_111 (Nat.le_of_ble_eq_true rfl) (kC2_mono H (fun r c8 H => ?_))
    obtain ⟨rfl, H⟩ := H
    refine ⟨rfl, ?_⟩
    refine kw_aload_n dX11_kindOfTwo_31 rfl ?_
    refine kw_bipush dX11_kindOfTwo_32 (by decide) ?_
    refine k2_callV1I (ci := 9) (N := 38) (T := TX11) rfl (lsh_558 hL) m_X11_isNothing dX11_kindOfTwo_34 wl_X11_115 (Nat.le_of_ble_eq_true rfl) (kC2_mono H (fun r c10 H => ?_))
    obtain ⟨z9, rfl, H⟩ := H
    refine ⟨z9, rfl, ?_⟩
    have o12 := H.1
    have H := H.2
    refine kw_if_eq 43 dX11_kindOfTwo_37 (by decide) o12 (fun h11 => ?_) (fun h11 => ?_)
    · have H := H.1 h11
      refine kw_aload_n dX11_kindOfTwo_43 rfl ?_
      refine kw_iload_n dX11_kindOfTwo_44 rfl ?_
      refine k2_callV1L (ci := 9) (N := 38) (T := TX11) rfl (lsh_558 hL) m_X11_squareOf dX11_kindOfTwo_45 wl_X11_119 (Nat.le_of_ble_eq_true rfl) (kC2_mono H (fun r c14 H => ?_))
      obtain ⟨z13, rfl, H⟩ := H
      refine ⟨z13, rfl, ?_⟩
      refine kw_lstore_n dX11_kindOfTwo_48 (Nat.le_of_ble_eq_true rfl) ?_
      refine kw_lload_n dX11_kindOfTwo_49 rfl ?_
      refine kw_lconst0 dX11_kindOfTwo_50 ?_
      have o15 := H.1
      have H := H.2
      refine kw_lcmp_le 60 dX11_kindOfTwo_51 dX11_kindOfTwo_52 (by decide) o15 (k64i (by omega)) (fun h16 => ?_) (fun h16 => ?_)
      · have H := H.1 h16
        refine kw_lload_n dX11_kindOfTwo_60 rfl ?_
        refine kw_lconst0 dX11_kindOfTwo_61 ?_
        refine kw_lcmp_ne 71 dX11_kindOfTwo_62 dX11_kindOfTwo_63 (by decide) o15 (k64i (by omega)) (fun h17 => ?_) (fun h17 => ?_)
        · have H := H.1 h17
          refine kw_bipush dX11_kindOfTwo_71 (by decide) ?_
          refine k2_iret dX11_kindOfTwo_73 rfl H
        · have H := H.2 h17
          refine kw_bipush dX11_kindOfTwo_66 (by decide) ?_
          refine kw_goto 73 dX11_kindOfTwo_68 (by decide) ?_
          refine k2_iret dX11_kindOfTwo_73 rfl H
      · have H := H.2 h16
        refine kw_bipush dX11_kindOfTwo_55 (by decide) ?_
        refine kw_goto 73 dX11_kindOfTwo_57 (by decide) ?_
        refine k2_iret dX11_kindOfTwo_73 rfl H
    · have H := H.2 h11
      refine kw_bipush dX11_kindOfTwo_40 (by decide) ?_
      refine k2_iret dX11_kindOfTwo_42 rfl H
  · have H := H.2 h5
    refine kw_bipush dX11_kindOfTwo_18 (by decide) ?_
    refine k2_iret dX11_kindOfTwo_20 rfl H
set_option maxRecDepth 4000 in
theorem v_X11_kindOf {G : KG} {S0 : KSh} (hL : kLay S0) {d : Nat} {P : Option AV → KMem → Prop} {c : KMem} {x1 : Int} (r1 : -2147483648 ≤ x1 ∧ x1 < 2147483648) (H : kC2 G S0 kM_X11_gradesOf (d + 3) [kA 558, kI x1] c (kRI (fun z1 c2 => (k32 z1) ∧ ((z1 ≠ 0 ∧ z1 ≠ 1 ∧ z1 ≠ 2 ∧ z1 ≠ 4 ∧ z1 ≠ 8 ∧ z1 ≠ 16 → (kW2 G S0 kM_X11_kindOf (d + 4) 131 [none, none, some (kI z1)] [] c2 P)) ∧ (z1 = 0 → (P (some (kI 0)) c2)) ∧ (z1 = 1 → (P (some (kI 1)) c2)) ∧ (z1 = 2 → (kC2 G S0 kM_X11_kindOfOne (d + 3) [kA 558, kI x1] c2 (kRI (fun z5 c6 => P (some (kI z5)) c6)))) ∧ (z1 = 4 → (kC2 G S0 kM_X11_kindOfTwo (d + 3) [kA 558, kI x1] c2 (kRI (fun z7 c8 => P (some (kI z7)) c8)))) ∧ (z1 = 8 → (kC2 G S0 kM_X11_copies (d + 3) [kA 558, kI x1, kI 29] c2 (kRN (fun c10 => kC2 G S0 kM_X11_turnsWhole (d + 3) [kA 558, kI 29, kI 1] c10 (kRN (fun c12 => kC2 G S0 kM_X11_kindOfOne (d + 3) [kA 558, kI 29] c12 (kRI (fun z13 c14 => P (some (kI (10 + z13))) c14)))))))) ∧ (z1 = 16 → (P (some (kI 30)) c2)))))) : kC2 G S0 kM_X11_kindOf (d + 4) [kA 558, kI x1] c P := by
  refine k2_met (by decide) rfl (Nat.le_of_ble_eq_true rfl) (l0 := [some (kA 558), some (kI x1), none]) rfl ?_
  refine kw_aload_n dX11_kindOf_0 rfl ?_
  refine kw_iload_n dX11_kindOf_1 rfl ?_
  refine k2_callV1I (ci := 9) (N := 38) (T := TX11) rfl (lsh_558 hL) m_X11_gradesOf dX11_kindOf_2 wl_X11_123 (Nat.le_of_ble_eq_true rfl) (kC2_mono H (fun r c2 H => ?_))
  obtain ⟨z1, rfl, H⟩ := H
  refine ⟨z1, rfl, ?_⟩
  refine kw_istore_n dX11_kindOf_5 (Nat.le_of_ble_eq_true rfl) ?_
  refine kw_iload_n dX11_kindOf_6 rfl ?_
  have o3 := H.1
  have H := H.2
  refine k2_tsw dX11_kindOf_7 o3 131 (by decide) (fun h4 => ?_) ?_
  · have H := H.1 (by omega)
    exact kw_forget (ls' := [none, none, some (kI z1)]) ⟨Or.inl rfl, ⟨Or.inl rfl, ⟨Or.inr rfl, trivial⟩⟩⟩ H
  · intro j off tgt e1 e2 e3 e4
    have hj : j < 17 := by omega
    by_cases f0 : j = 0
    · subst f0
      have e5 : off = 81 := Option.some.inj (e3.symm.trans (by decide))
      obtain rfl : tgt = 88 := by omega
      have H := H.2.1 (by omega)
      refine kw_iconst dX11_kindOf_88 ?_
      refine k2_iret dX11_kindOf_89 rfl H
    by_cases f1 : j = 1
    · subst f1
      have e5 : off = 83 := Option.some.inj (e3.symm.trans (by decide))
      obtain rfl : tgt = 90 := by omega
      have H := H.2.2.1 (by omega)
      refine kw_iconst dX11_kindOf_90 ?_
      refine k2_iret dX11_kindOf_91 rfl H
    by_cases f2 : j = 2
    · subst f2
      have e5 : off = 85 := Option.some.inj (e3.symm.trans (by decide))
      obtain rfl : tgt = 92 := by omega
      have H := H.2.2.2.1 (by omega)
      refine kw_aload_n dX11_kindOf_92 rfl ?_
      refine kw_iload_n dX11_kindOf_93 rfl ?_
      refine k2_callV1I (ci := 9) (N := 38) (T := TX11) rfl (lsh_558 hL) m_X11_kindOfOne dX11_kindOf_94 wl_X11_126 (Nat.le_of_ble_eq_true rfl) (kC2_mono H (fun r c6 H => ?_))
      obtain ⟨z5, rfl, H⟩ := H
      refine ⟨z5, rfl, ?_⟩
      refine k2_iret dX11_kindOf_97 rfl H
    by_cases f3 : j = 3
    · subst f3
      have e5 : off = 124 := Option.some.inj (e3.symm.trans (by decide))
      obtain rfl : tgt = 131 := by omega
      have H := H.1 (by omega)
      exact kw_forget (ls' := [none, none, some (kI z1)]) ⟨Or.inl rfl, ⟨Or.inl rfl, ⟨Or.inr rfl, trivial⟩⟩⟩ H
    by_cases f4 : j = 4
    · subst f4
      have e5 : off = 91 := Option.some.inj (e3.symm.trans (by decide))
      obtain rfl : tgt = 98 := by omega
      have H := H.2.2.2.2.1 (by omega)
      refine kw_aload_n dX11_kindOf_98 rfl ?_
      refine kw_iload_n dX11_kindOf_99 rfl ?_
      refine k2_callV1I (ci := 9) (N := 38) (T := TX11) rfl (lsh_558 hL) m_X11_kindOfTwo dX11_kindOf_100 wl_X11_129 (Nat.le_of_ble_eq_true rfl) (kC2_mono H (fun r c8 H => ?_))
      obtain ⟨z7, rfl, H⟩ := H
      refine ⟨z7, rfl, ?_⟩
      refine k2_iret dX11_kindOf_103 rfl H
    by_cases f5 : j = 5
    · subst f5
      have e5 : off = 124 := Option.some.inj (e3.symm.trans (by decide))
      obtain rfl : tgt = 131 := by omega
      have H := H.1 (by omega)
      exact kw_forget (ls' := [none, none, some (kI z1)]) ⟨Or.inl rfl, ⟨Or.inl rfl, ⟨Or.inr rfl, trivial⟩⟩⟩ H
    by_cases f6 : j = 6
    · subst f6
      have e5 : off = 124 := Option.some.inj (e3.symm.trans (by decide))
      obtain rfl : tgt = 131 := by omega
      have H := H.1 (by omega)
      exact kw_forget (ls' := [none, none, some (kI z1)]) ⟨Or.inl rfl, ⟨Or.inl rfl, ⟨Or.inr rfl, trivial⟩⟩⟩ H
    by_cases f7 : j = 7
    · subst f7
      have e5 : off = 124 := Option.some.inj (e3.symm.trans (by decide))
      obtain rfl : tgt = 131 := by omega
      have H := H.1 (by omega)
      exact kw_forget (ls' := [none, none, some (kI z1)]) ⟨Or.inl rfl, ⟨Or.inl rfl, ⟨Or.inr rfl, trivial⟩⟩⟩ H
    by_cases f8 : j = 8
    · subst f8
      have e5 : off = 97 := Option.some.inj (e3.symm.trans (by decide))
      obtain rfl : tgt = 104 := by omega
      have H := H.2.2.2.2.2.1 (by omega)
      refine kw_aload_n dX11_kindOf_104 rfl ?_
      refine kw_iload_n dX11_kindOf_105 rfl ?_
      refine kw_bipush dX11_kindOf_106 (by decide) ?_
      refine k2_callV2N (ci := 9) (N := 38) (T := TX11) rfl (lsh_558 hL) m_X11_copies dX11_kindOf_108 wl_X11_132 (Nat.le_of_ble_eq_true rfl) (kC2_mono H (fun r c10 H => ?_))
      obtain ⟨rfl, H⟩ := H
      refine ⟨rfl, ?_⟩
      refine kw_aload_n dX11_kindOf_111 rfl ?_
      refine kw_bipush dX11_kindOf_112 (by decide) ?_
      refine kw_iconst dX11_kindOf_114 ?_
      refine k2_callV2N (ci := 9) (N := 38) (T := TX11) rfl (lsh_558 hL) m_X11_turnsWhole dX11_kindOf_115 wl_X11_136 (Nat.le_of_ble_eq_true rfl) (kC2_mono H (fun r c12 H => ?_))
      obtain ⟨rfl, H⟩ := H
      refine ⟨rfl, ?_⟩
      refine kw_bipush dX11_kindOf_118 (by decide) ?_
      refine kw_aload_n dX11_kindOf_120 rfl ?_
      refine kw_bipush dX11_kindOf_121 (by decide) ?_
      refine k2_callV1I (ci := 9) (N := 38) (T := TX11) rfl (lsh_558 hL) m_X11_kindOfOne dX11_kindOf_123 wl_X11_126 (Nat.le_of_ble_eq_true rfl) (kC2_mono H (fun r c14 H => ?_))
      obtain ⟨z13, rfl, H⟩ := H
      refine ⟨z13, rfl, ?_⟩
      refine kw_iadd dX11_kindOf_126 ?_
      refine k2_iret dX11_kindOf_127 rfl H
    by_cases f9 : j = 9
    · subst f9
      have e5 : off = 124 := Option.some.inj (e3.symm.trans (by decide))
      obtain rfl : tgt = 131 := by omega
      have H := H.1 (by omega)
      exact kw_forget (ls' := [none, none, some (kI z1)]) ⟨Or.inl rfl, ⟨Or.inl rfl, ⟨Or.inr rfl, trivial⟩⟩⟩ H
    by_cases f10 : j = 10
    · subst f10
      have e5 : off = 124 := Option.some.inj (e3.symm.trans (by decide))
      obtain rfl : tgt = 131 := by omega
      have H := H.1 (by omega)
      exact kw_forget (ls' := [none, none, some (kI z1)]) ⟨Or.inl rfl, ⟨Or.inl rfl, ⟨Or.inr rfl, trivial⟩⟩⟩ H
    by_cases f11 : j = 11
    · subst f11
      have e5 : off = 124 := Option.some.inj (e3.symm.trans (by decide))
      obtain rfl : tgt = 131 := by omega
      have H := H.1 (by omega)
      exact kw_forget (ls' := [none, none, some (kI z1)]) ⟨Or.inl rfl, ⟨Or.inl rfl, ⟨Or.inr rfl, trivial⟩⟩⟩ H
    by_cases f12 : j = 12
    · subst f12
      have e5 : off = 124 := Option.some.inj (e3.symm.trans (by decide))
      obtain rfl : tgt = 131 := by omega
      have H := H.1 (by omega)
      exact kw_forget (ls' := [none, none, some (kI z1)]) ⟨Or.inl rfl, ⟨Or.inl rfl, ⟨Or.inr rfl, trivial⟩⟩⟩ H
    by_cases f13 : j = 13
    · subst f13
      have e5 : off = 124 := Option.some.inj (e3.symm.trans (by decide))
      obtain rfl : tgt = 131 := by omega
      have H := H.1 (by omega)
      exact kw_forget (ls' := [none, none, some (kI z1)]) ⟨Or.inl rfl, ⟨Or.inl rfl, ⟨Or.inr rfl, trivial⟩⟩⟩ H
    by_cases f14 : j = 14
    · subst f14
      have e5 : off = 124 := Option.some.inj (e3.symm.trans (by decide))
      obtain rfl : tgt = 131 := by omega
      have H := H.1 (by omega)
      exact kw_forget (ls' := [none, none, some (kI z1)]) ⟨Or.inl rfl, ⟨Or.inl rfl, ⟨Or.inr rfl, trivial⟩⟩⟩ H
    by_cases f15 : j = 15
    · subst f15
      have e5 : off = 124 := Option.some.inj (e3.symm.trans (by decide))
      obtain rfl : tgt = 131 := by omega
      have H := H.1 (by omega)
      exact kw_forget (ls' := [none, none, some (kI z1)]) ⟨Or.inl rfl, ⟨Or.inl rfl, ⟨Or.inr rfl, trivial⟩⟩⟩ H
    by_cases f16 : j = 16
    · subst f16
      have e5 : off = 121 := Option.some.inj (e3.symm.trans (by decide))
      obtain rfl : tgt = 128 := by omega
      have H := H.2.2.2.2.2.2 (by omega)
      refine kw_bipush dX11_kindOf_128 (by decide) ?_
      refine k2_iret dX11_kindOf_130 rfl H
    omega
set_option maxRecDepth 4000 in
theorem v_X11_kindOf_131 {G : KG} {S0 : KSh} (hL : kLay S0) {d : Nat} {P : Option AV → KMem → Prop} {c : KMem} {x2 : Int} (r2 : -2147483648 ≤ x2 ∧ x2 < 2147483648) (H : ((kand x2 10) ≠ 0 → (((kand x2 21) ≠ 0 → (P (some (kI 42)) c)) ∧ ((kand x2 21) = 0 → (P (some (kI 41)) c)))) ∧ ((kand x2 10) = 0 → (P (some (kI 40)) c))) : kW2 G S0 kM_X11_kindOf (d + 4) 131 [none, none, some (kI x2)] [] c P := by
  refine kw_iload_n dX11_kindOf_131 rfl ?_
  refine kw_bipush dX11_kindOf_132 (by decide) ?_
  refine kw_iand dX11_kindOf_134 ?_
  refine kw_if_ne 143 dX11_kindOf_135 (by decide) (k32_kand _ _) (fun h15 => ?_) (fun h15 => ?_)
  · have H := H.1 h15
    refine kw_iload_n dX11_kindOf_143 rfl ?_
    refine kw_bipush dX11_kindOf_144 (by decide) ?_
    refine kw_iand dX11_kindOf_146 ?_
    refine kw_if_ne 155 dX11_kindOf_147 (by decide) (k32_kand _ _) (fun h16 => ?_) (fun h16 => ?_)
    · have H := H.1 h16
      refine kw_bipush dX11_kindOf_155 (by decide) ?_
      refine k2_iret dX11_kindOf_157 rfl H
    · have H := H.2 h16
      refine kw_bipush dX11_kindOf_150 (by decide) ?_
      refine kw_goto 157 dX11_kindOf_152 (by decide) ?_
      refine k2_iret dX11_kindOf_157 rfl H
  · have H := H.2 h15
    refine kw_bipush dX11_kindOf_138 (by decide) ?_
    refine kw_goto 157 dX11_kindOf_140 (by decide) ?_
    refine k2_iret dX11_kindOf_157 rfl H
set_option maxRecDepth 4000 in
theorem v_X11_isObjectKind {G : KG} {S0 : KSh} (hL : kLay S0) {d : Nat} {P : Option AV → KMem → Prop} {c : KMem} {x0 : Int} (r0 : -2147483648 ≤ x0 ∧ x0 < 2147483648) (H : ((2 ≤ x0 ∧ x0 ≤ 6) → (P (some (kI 1)) c)) ∧ (¬ (2 ≤ x0 ∧ x0 ≤ 6) → (((12 ≤ x0 ∧ x0 ≤ 16) → (P (some (kI 1)) c)) ∧ (¬ (12 ≤ x0 ∧ x0 ≤ 16) → (P (some (kI 0)) c))))) : kC2 G S0 kM_X11_isObjectKind (d + 1) [kI x0] c P := by
  refine k2_met (by decide) rfl (Nat.le_of_ble_eq_true rfl) (l0 := [some (kI x0)]) rfl ?_
  refine kw_iload_n dX11_isObjectKind_0 rfl ?_
  refine kw_iconst dX11_isObjectKind_1 ?_
  refine kw_bipush dX11_isObjectKind_2 (by decide) ?_
  refine k2_callS3I m_X11_in dX11_isObjectKind_4 wl_X11_100 (Nat.le_of_ble_eq_true rfl) (s_X11_in hL (k32i (by omega)) (k32i (by omega)) (k32i (by omega)) (fun h1 => ⟨_, rfl, ?_⟩) (fun h1 => ⟨_, rfl, ?_⟩))
  · have H := H.1 h1
    refine kw_if_ne 21 dX11_isObjectKind_7 (by decide) (k32i (by omega)) (fun _ => ?_) (fun h2 => absurd h2 (by decide))
    refine kw_iconst dX11_isObjectKind_21 ?_
    refine kw_goto 26 dX11_isObjectKind_22 (by decide) ?_
    refine k2_zret dX11_isObjectKind_26 rfl (Or.inr rfl) H
  · have H := H.2 h1
    refine kw_if_ne 21 dX11_isObjectKind_7 (by decide) (k32i (by omega)) (fun h3 => absurd h3 (by decide)) (fun _ => ?_)
    refine kw_iload_n dX11_isObjectKind_10 rfl ?_
    refine kw_bipush dX11_isObjectKind_11 (by decide) ?_
    refine kw_bipush dX11_isObjectKind_13 (by decide) ?_
    refine k2_callS3I m_X11_in dX11_isObjectKind_15 wl_X11_100 (Nat.le_of_ble_eq_true rfl) (s_X11_in hL (k32i (by omega)) (k32i (by omega)) (k32i (by omega)) (fun h4 => ⟨_, rfl, ?_⟩) (fun h4 => ⟨_, rfl, ?_⟩))
    · have H := H.1 h4
      refine kw_if_eq 25 dX11_isObjectKind_18 (by decide) (k32i (by omega)) (fun h5 => absurd h5 (by decide)) (fun _ => ?_)
      refine kw_iconst dX11_isObjectKind_21 ?_
      refine kw_goto 26 dX11_isObjectKind_22 (by decide) ?_
      refine k2_zret dX11_isObjectKind_26 rfl (Or.inr rfl) H
    · have H := H.2 h4
      refine kw_if_eq 25 dX11_isObjectKind_18 (by decide) (k32i (by omega)) (fun _ => ?_) (fun h6 => absurd h6 (by decide))
      refine kw_iconst dX11_isObjectKind_25 ?_
      refine k2_zret dX11_isObjectKind_26 rfl (Or.inl rfl) H
set_option maxRecDepth 4000 in
theorem v_X11_isMirrorKind {G : KG} {S0 : KSh} (hL : kLay S0) {d : Nat} {P : Option AV → KMem → Prop} {c : KMem} {x0 : Int} (r0 : -2147483648 ≤ x0 ∧ x0 < 2147483648) (H : (x0 = 3 → (P (some (kI 1)) c)) ∧ (x0 ≠ 3 → ((x0 = 6 → (P (some (kI 1)) c)) ∧ (x0 ≠ 6 → ((x0 = 13 → (P (some (kI 1)) c)) ∧ (x0 ≠ 13 → ((x0 ≠ 16 → (P (some (kI 0)) c)) ∧ (x0 = 16 → (P (some (kI 1)) c))))))))) : kC2 G S0 kM_X11_isMirrorKind d [kI x0] c P := by
  refine k2_met (by decide) rfl (Nat.le_of_ble_eq_true rfl) (l0 := [some (kI x0)]) rfl ?_
  refine kw_iload_n dX11_isMirrorKind_0 rfl ?_
  refine kw_iconst dX11_isMirrorKind_1 ?_
  refine kw_icmp_eq 23 dX11_isMirrorKind_2 (by decide) (k32i (by omega)) (k32i (by omega)) (fun h1 => ?_) (fun h1 => ?_)
  · have H := H.1 h1
    refine kw_iconst dX11_isMirrorKind_23 ?_
    refine kw_goto 28 dX11_isMirrorKind_24 (by decide) ?_
    refine k2_zret dX11_isMirrorKind_28 rfl (Or.inr rfl) H
  · have H := H.2 h1
    refine kw_iload_n dX11_isMirrorKind_5 rfl ?_
    refine kw_bipush dX11_isMirrorKind_6 (by decide) ?_
    refine kw_icmp_eq 23 dX11_isMirrorKind_8 (by decide) (k32i (by omega)) (k32i (by omega)) (fun h2 => ?_) (fun h2 => ?_)
    · have H := H.1 h2
      refine kw_iconst dX11_isMirrorKind_23 ?_
      refine kw_goto 28 dX11_isMirrorKind_24 (by decide) ?_
      refine k2_zret dX11_isMirrorKind_28 rfl (Or.inr rfl) H
    · have H := H.2 h2
      refine kw_iload_n dX11_isMirrorKind_11 rfl ?_
      refine kw_bipush dX11_isMirrorKind_12 (by decide) ?_
      refine kw_icmp_eq 23 dX11_isMirrorKind_14 (by decide) (k32i (by omega)) (k32i (by omega)) (fun h3 => ?_) (fun h3 => ?_)
      · have H := H.1 h3
        refine kw_iconst dX11_isMirrorKind_23 ?_
        refine kw_goto 28 dX11_isMirrorKind_24 (by decide) ?_
        refine k2_zret dX11_isMirrorKind_28 rfl (Or.inr rfl) H
      · have H := H.2 h3
        refine kw_iload_n dX11_isMirrorKind_17 rfl ?_
        refine kw_bipush dX11_isMirrorKind_18 (by decide) ?_
        refine kw_icmp_ne 27 dX11_isMirrorKind_20 (by decide) (k32i (by omega)) (k32i (by omega)) (fun h4 => ?_) (fun h4 => ?_)
        · have H := H.1 h4
          refine kw_iconst dX11_isMirrorKind_27 ?_
          refine k2_zret dX11_isMirrorKind_28 rfl (Or.inl rfl) H
        · have H := H.2 h4
          refine kw_iconst dX11_isMirrorKind_23 ?_
          refine kw_goto 28 dX11_isMirrorKind_24 (by decide) ?_
          refine k2_zret dX11_isMirrorKind_28 rfl (Or.inr rfl) H
set_option maxRecDepth 4000 in
theorem v_X11_isPairKind {G : KG} {S0 : KSh} (hL : kLay S0) {d : Nat} {P : Option AV → KMem → Prop} {c : KMem} {x0 : Int} (r0 : -2147483648 ≤ x0 ∧ x0 < 2147483648) (H : ((20 ≤ x0 ∧ x0 ≤ 22) → (P (some (kI 1)) c)) ∧ (¬ (20 ≤ x0 ∧ x0 ≤ 22) → (P (some (kI 0)) c))) : kC2 G S0 kM_X11_isPairKind (d + 1) [kI x0] c P := by
  refine k2_met (by decide) rfl (Nat.le_of_ble_eq_true rfl) (l0 := [some (kI x0)]) rfl ?_
  refine kw_iload_n dX11_isPairKind_0 rfl ?_
  refine kw_bipush dX11_isPairKind_1 (by decide) ?_
  refine kw_bipush dX11_isPairKind_3 (by decide) ?_
  refine k2_callS3I m_X11_in dX11_isPairKind_5 wl_X11_100 (Nat.le_of_ble_eq_true rfl) (s_X11_in hL (k32i (by omega)) (k32i (by omega)) (k32i (by omega)) (fun h1 => ⟨_, rfl, ?_⟩) (fun h1 => ⟨_, rfl, ?_⟩))
  · have H := H.1 h1
    refine k2_zret dX11_isPairKind_8 rfl (Or.inr rfl) H
  · have H := H.2 h1
    refine k2_zret dX11_isPairKind_8 rfl (Or.inl rfl) H
set_option maxRecDepth 4000 in
theorem v_X11_laysVector {G : KG} {S0 : KSh} (hL : kLay S0) {d : Nat} {P : Option AV → KMem → Prop} {c : KMem} {x1 x2 : Int} (r1 : -2147483648 ≤ x1 ∧ x1 < 2147483648) (r2 : -2147483648 ≤ x2 ∧ x2 < 2147483648) (hp : 0 ≤ x1 ∧ x1 < 100 ∧ 0 ≤ x2 ∧ x2 < 100) (H : kC2 G S0 kM_X11_copies (d + 1) [kA 558, kI x1, kI x2] c (kRN (fun c2 => (k64 (c2 559 ((16 * x2) + 1))) ∧ (((c2 559 ((16 * x2) + 1)) ≠ 0 → (P none c2)) ∧ ((c2 559 ((16 * x2) + 1)) = 0 → ((k64 (c2 559 ((16 * x2) + 2))) ∧ (((c2 559 ((16 * x2) + 2)) ≠ 0 → (P none c2)) ∧ ((c2 559 ((16 * x2) + 2)) = 0 → ((k64 (c2 559 ((16 * x2) + 4))) ∧ (((c2 559 ((16 * x2) + 4)) ≠ 0 → (P none c2)) ∧ ((c2 559 ((16 * x2) + 4)) = 0 → ((k64 (c2 559 ((16 * x2) + 8))) ∧ (((c2 559 ((16 * x2) + 8)) ≠ 0 → (P none c2)) ∧ ((c2 559 ((16 * x2) + 8)) = 0 → (kC2 G S0 kM_X11_turnsWhole (d + 1) [kA 558, kI x2, kI 1] c2 (kRN (fun c12 => P none c12))))))))))))))))) : kC2 G S0 kM_X11_laysVector (d + 2) [kA 558, kI x1, kI x2] c P := by
  refine k2_met (by decide) rfl (Nat.le_of_ble_eq_true rfl) (l0 := [some (kA 558), some (kI x1), some (kI x2)]) rfl ?_
  refine kw_aload_n dX11_laysVector_0 rfl ?_
  refine kw_iload_n dX11_laysVector_1 rfl ?_
  refine kw_iload_n dX11_laysVector_2 rfl ?_
  refine k2_callV2N (ci := 9) (N := 38) (T := TX11) rfl (lsh_558 hL) m_X11_copies dX11_laysVector_3 wl_X11_132 (Nat.le_of_ble_eq_true rfl) (kC2_mono H (fun r c2 H => ?_))
  obtain ⟨rfl, H⟩ := H
  refine ⟨rfl, ?_⟩
  refine kw_aload_n dX11_laysVector_6 rfl ?_
  refine kw_iload_n dX11_laysVector_7 rfl ?_
  refine kw_iconst dX11_laysVector_8 ?_
  refine k2_callV2L (ci := 9) (N := 38) (T := TX11) rfl (lsh_558 hL) m_X11_at dX11_laysVector_9 wl_X11_84 (Nat.le_of_ble_eq_true rfl) (s_X11_at hL (k32i (by omega)) (k32i (by omega)) (by omega) ⟨_, rfl, ?_⟩)
  refine kw_lconst0 dX11_laysVector_12 ?_
  have o3 := H.1
  have H := H.2
  refine kw_lcmp_ne 57 dX11_laysVector_13 dX11_laysVector_14 (by decide) o3 (k64i (by omega)) (fun h4 => ?_) (fun h4 => ?_)
  · have H := H.1 h4
    refine k2_ret dX11_laysVector_57 rfl H
  · have H := H.2 h4
    refine kw_aload_n dX11_laysVector_17 rfl ?_
    refine kw_iload_n dX11_laysVector_18 rfl ?_
    refine kw_iconst dX11_laysVector_19 ?_
    refine k2_callV2L (ci := 9) (N := 38) (T := TX11) rfl (lsh_558 hL) m_X11_at dX11_laysVector_20 wl_X11_84 (Nat.le_of_ble_eq_true rfl) (s_X11_at hL (k32i (by omega)) (k32i (by omega)) (by omega) ⟨_, rfl, ?_⟩)
    refine kw_lconst0 dX11_laysVector_23 ?_
    have o5 := H.1
    have H := H.2
    refine kw_lcmp_ne 57 dX11_laysVector_24 dX11_laysVector_25 (by decide) o5 (k64i (by omega)) (fun h6 => ?_) (fun h6 => ?_)
    · have H := H.1 h6
      refine k2_ret dX11_laysVector_57 rfl H
    · have H := H.2 h6
      refine kw_aload_n dX11_laysVector_28 rfl ?_
      refine kw_iload_n dX11_laysVector_29 rfl ?_
      refine kw_iconst dX11_laysVector_30 ?_
      refine k2_callV2L (ci := 9) (N := 38) (T := TX11) rfl (lsh_558 hL) m_X11_at dX11_laysVector_31 wl_X11_84 (Nat.le_of_ble_eq_true rfl) (s_X11_at hL (k32i (by omega)) (k32i (by omega)) (by omega) ⟨_, rfl, ?_⟩)
      refine kw_lconst0 dX11_laysVector_34 ?_
      have o7 := H.1
      have H := H.2
      refine kw_lcmp_ne 57 dX11_laysVector_35 dX11_laysVector_36 (by decide) o7 (k64i (by omega)) (fun h8 => ?_) (fun h8 => ?_)
      · have H := H.1 h8
        refine k2_ret dX11_laysVector_57 rfl H
      · have H := H.2 h8
        refine kw_aload_n dX11_laysVector_39 rfl ?_
        refine kw_iload_n dX11_laysVector_40 rfl ?_
        refine kw_bipush dX11_laysVector_41 (by decide) ?_
        refine k2_callV2L (ci := 9) (N := 38) (T := TX11) rfl (lsh_558 hL) m_X11_at dX11_laysVector_43 wl_X11_84 (Nat.le_of_ble_eq_true rfl) (s_X11_at hL (k32i (by omega)) (k32i (by omega)) (by omega) ⟨_, rfl, ?_⟩)
        refine kw_lconst0 dX11_laysVector_46 ?_
        have o9 := H.1
        have H := H.2
        refine kw_lcmp_ne 57 dX11_laysVector_47 dX11_laysVector_48 (by decide) o9 (k64i (by omega)) (fun h10 => ?_) (fun h10 => ?_)
        · have H := H.1 h10
          refine k2_ret dX11_laysVector_57 rfl H
        · have H := H.2 h10
          refine kw_aload_n dX11_laysVector_51 rfl ?_
          refine kw_iload_n dX11_laysVector_52 rfl ?_
          refine kw_iconst dX11_laysVector_53 ?_
          refine k2_callV2N (ci := 9) (N := 38) (T := TX11) rfl (lsh_558 hL) m_X11_turnsWhole dX11_laysVector_54 wl_X11_136 (Nat.le_of_ble_eq_true rfl) (kC2_mono H (fun r c12 H => ?_))
          obtain ⟨rfl, H⟩ := H
          refine ⟨rfl, ?_⟩
          refine k2_ret dX11_laysVector_57 rfl H
set_option maxRecDepth 4000 in
theorem v_X11_isPlain {G : KG} {S0 : KSh} (hL : kLay S0) {d : Nat} {P : Option AV → KMem → Prop} {c : KMem} {x1 : Int} (r1 : -2147483648 ≤ x1 ∧ x1 < 2147483648) (hp : 0 ≤ x1 ∧ x1 < 100) (H : kW2 G S0 kM_X11_isPlain (d + 1) 2 [some (kA 558), some (kI x1), some (kI 1)] [] c P) : kC2 G S0 kM_X11_isPlain (d + 1) [kA 558, kI x1] c P := by
  refine k2_met (by decide) rfl (Nat.le_of_ble_eq_true rfl) (l0 := [some (kA 558), some (kI x1), none]) rfl ?_
  refine kw_iconst dX11_isPlain_0 ?_
  refine kw_istore_n dX11_isPlain_1 (Nat.le_of_ble_eq_true rfl) ?_
  exact kw_forget (ls' := [some (kA 558), some (kI x1), some (kI 1)]) ⟨Or.inr rfl, ⟨Or.inr rfl, ⟨Or.inr rfl, trivial⟩⟩⟩ H
set_option maxRecDepth 4000 in
theorem v_X11_isPlain_2 {G : KG} {S0 : KSh} (hL : kLay S0) {d : Nat} {P : Option AV → KMem → Prop} {c : KMem} {x1 x2 : Int} (r1 : -2147483648 ≤ x1 ∧ x1 < 2147483648) (r2 : 0 ≤ x2 ∧ x2 < 2147483648) (hp : 0 ≤ x1 ∧ x1 < 100 ∧ 0 ≤ x2) (H : (16 ≤ x2 → ((k64 (c 559 ((16 * x1) + 0))) ∧ (((c 559 ((16 * x1) + 0)) = 0 → (P (some (kI 0)) c)) ∧ ((c 559 ((16 * x1) + 0)) ≠ 0 → (P (some (kI 1)) c))))) ∧ (x2 < 16 → ((k64 (c 559 ((16 * x1) + x2))) ∧ (((c 559 ((16 * x1) + x2)) = 0 → (kW2 G S0 kM_X11_isPlain (d + 1) 2 [some (kA 558), some (kI x1), some (kI (x2 + 1))] [] c P)) ∧ ((c 559 ((16 * x1) + x2)) ≠ 0 → (P (some (kI 0)) c)))))) : kW2 G S0 kM_X11_isPlain (d + 1) 2 [some (kA 558), some (kI x1), some (kI x2)] [] c P := by
  refine kw_iload_n dX11_isPlain_2 rfl ?_
  refine kw_bipush dX11_isPlain_3 (by decide) ?_
  refine kw_icmp_ge 27 dX11_isPlain_5 (by decide) (k32i (by omega)) (k32i (by omega)) (fun h1 => ?_) (fun h1 => ?_)
  · have H := H.1 h1
    refine kw_aload_n dX11_isPlain_27 rfl ?_
    refine kw_iload_n dX11_isPlain_28 rfl ?_
    refine kw_iconst dX11_isPlain_29 ?_
    refine k2_callV2L (ci := 9) (N := 38) (T := TX11) rfl (lsh_558 hL) m_X11_at dX11_isPlain_30 wl_X11_84 (Nat.le_of_ble_eq_true rfl) (s_X11_at hL (k32i (by omega)) (k32i (by omega)) (by omega) ⟨_, rfl, ?_⟩)
    refine kw_lconst0 dX11_isPlain_33 ?_
    have o2 := H.1
    have H := H.2
    refine kw_lcmp_eq 42 dX11_isPlain_34 dX11_isPlain_35 (by decide) o2 (k64i (by omega)) (fun h3 => ?_) (fun h3 => ?_)
    · have H := H.1 h3
      refine kw_iconst dX11_isPlain_42 ?_
      refine k2_zret dX11_isPlain_43 rfl (Or.inl rfl) H
    · have H := H.2 h3
      refine kw_iconst dX11_isPlain_38 ?_
      refine kw_goto 43 dX11_isPlain_39 (by decide) ?_
      refine k2_zret dX11_isPlain_43 rfl (Or.inr rfl) H
  · have H := H.2 h1
    refine kw_aload_n dX11_isPlain_8 rfl ?_
    refine kw_iload_n dX11_isPlain_9 rfl ?_
    refine kw_iload_n dX11_isPlain_10 rfl ?_
    refine k2_callV2L (ci := 9) (N := 38) (T := TX11) rfl (lsh_558 hL) m_X11_at dX11_isPlain_11 wl_X11_84 (Nat.le_of_ble_eq_true rfl) (s_X11_at hL (k32i (by omega)) (k32i (by omega)) (by omega) ⟨_, rfl, ?_⟩)
    refine kw_lconst0 dX11_isPlain_14 ?_
    have o4 := H.1
    have H := H.2
    refine kw_lcmp_eq 21 dX11_isPlain_15 dX11_isPlain_16 (by decide) o4 (k64i (by omega)) (fun h5 => ?_) (fun h5 => ?_)
    · have H := H.1 h5
      refine kw_iinc dX11_isPlain_21 rfl ?_
      refine kw_goto 2 dX11_isPlain_24 (by decide) ?_
      exact kw_forget (ls' := [some (kA 558), some (kI x1), some (kI (x2 + 1))]) ⟨Or.inr rfl, ⟨Or.inr rfl, ⟨Or.inr rfl, trivial⟩⟩⟩ H
    · have H := H.2 h5
      refine kw_iconst dX11_isPlain_19 ?_
      refine k2_zret dX11_isPlain_20 rfl (Or.inl rfl) H
set_option maxRecDepth 4000 in
theorem v_X11_isMotion {G : KG} {S0 : KSh} (hL : kLay S0) {d : Nat} {P : Option AV → KMem → Prop} {c : KMem} {x1 : Int} (r1 : -2147483648 ≤ x1 ∧ x1 < 2147483648) (H : kC2 G S0 kM_X11_kindOf (d + 4) [kA 558, kI x1] c (kRI (fun z1 c2 => (k32 z1) ∧ ((z1 = 1 → (kW2 G S0 kM_X11_isMotion (d + 5) 41 [some (kA 558), some (kI x1), none] [] c2 P)) ∧ (z1 ≠ 1 → ((z1 = 3 → (kW2 G S0 kM_X11_isMotion (d + 5) 41 [some (kA 558), some (kI x1), none] [] c2 P)) ∧ (z1 ≠ 3 → ((z1 = 4 → (kW2 G S0 kM_X11_isMotion (d + 5) 41 [some (kA 558), some (kI x1), none] [] c2 P)) ∧ (z1 ≠ 4 → ((z1 = 6 → (kW2 G S0 kM_X11_isMotion (d + 5) 41 [some (kA 558), some (kI x1), none] [] c2 P)) ∧ (z1 ≠ 6 → ((z1 = 40 → (kW2 G S0 kM_X11_isMotion (d + 5) 41 [some (kA 558), some (kI x1), none] [] c2 P)) ∧ (z1 ≠ 40 → ((z1 = 41 → (kW2 G S0 kM_X11_isMotion (d + 5) 41 [some (kA 558), some (kI x1), none] [] c2 P)) ∧ (z1 ≠ 41 → (P (some (kI 0)) c2)))))))))))))))) : kC2 G S0 kM_X11_isMotion (d + 5) [kA 558, kI x1] c P := by
  refine k2_met (by decide) rfl (Nat.le_of_ble_eq_true rfl) (l0 := [some (kA 558), some (kI x1), none]) rfl ?_
  refine kw_aload_n dX11_isMotion_0 rfl ?_
  refine kw_iload_n dX11_isMotion_1 rfl ?_
  refine k2_callV1I (ci := 9) (N := 38) (T := TX11) rfl (lsh_558 hL) m_X11_kindOf dX11_isMotion_2 wl_X11_140 (Nat.le_of_ble_eq_true rfl) (kC2_mono H (fun r c2 H => ?_))
  obtain ⟨z1, rfl, H⟩ := H
  refine ⟨z1, rfl, ?_⟩
  refine kw_istore_n dX11_isMotion_5 (Nat.le_of_ble_eq_true rfl) ?_
  refine kw_iload_n dX11_isMotion_6 rfl ?_
  refine kw_iconst dX11_isMotion_7 ?_
  have o4 := H.1
  have H := H.2
  refine kw_icmp_eq 41 dX11_isMotion_8 (by decide) o4 (k32i (by omega)) (fun h3 => ?_) (fun h3 => ?_)
  · have H := H.1 h3
    exact kw_forget (ls' := [some (kA 558), some (kI x1), none]) ⟨Or.inr rfl, ⟨Or.inr rfl, ⟨Or.inl rfl, trivial⟩⟩⟩ H
  · have H := H.2 h3
    refine kw_iload_n dX11_isMotion_11 rfl ?_
    refine kw_iconst dX11_isMotion_12 ?_
    refine kw_icmp_eq 41 dX11_isMotion_13 (by decide) o4 (k32i (by omega)) (fun h5 => ?_) (fun h5 => ?_)
    · have H := H.1 h5
      exact kw_forget (ls' := [some (kA 558), some (kI x1), none]) ⟨Or.inr rfl, ⟨Or.inr rfl, ⟨Or.inl rfl, trivial⟩⟩⟩ H
    · have H := H.2 h5
      refine kw_iload_n dX11_isMotion_16 rfl ?_
      refine kw_iconst dX11_isMotion_17 ?_
      refine kw_icmp_eq 41 dX11_isMotion_18 (by decide) o4 (k32i (by omega)) (fun h6 => ?_) (fun h6 => ?_)
      · have H := H.1 h6
        exact kw_forget (ls' := [some (kA 558), some (kI x1), none]) ⟨Or.inr rfl, ⟨Or.inr rfl, ⟨Or.inl rfl, trivial⟩⟩⟩ H
      · have H := H.2 h6
        refine kw_iload_n dX11_isMotion_21 rfl ?_
        refine kw_bipush dX11_isMotion_22 (by decide) ?_
        refine kw_icmp_eq 41 dX11_isMotion_24 (by decide) o4 (k32i (by omega)) (fun h7 => ?_) (fun h7 => ?_)
        · have H := H.1 h7
          exact kw_forget (ls' := [some (kA 558), some (kI x1), none]) ⟨Or.inr rfl, ⟨Or.inr rfl, ⟨Or.inl rfl, trivial⟩⟩⟩ H
        · have H := H.2 h7
          refine kw_iload_n dX11_isMotion_27 rfl ?_
          refine kw_bipush dX11_isMotion_28 (by decide) ?_
          refine kw_icmp_eq 41 dX11_isMotion_30 (by decide) o4 (k32i (by omega)) (fun h8 => ?_) (fun h8 => ?_)
          · have H := H.1 h8
            exact kw_forget (ls' := [some (kA 558), some (kI x1), none]) ⟨Or.inr rfl, ⟨Or.inr rfl, ⟨Or.inl rfl, trivial⟩⟩⟩ H
          · have H := H.2 h8
            refine kw_iload_n dX11_isMotion_33 rfl ?_
            refine kw_bipush dX11_isMotion_34 (by decide) ?_
            refine kw_icmp_eq 41 dX11_isMotion_36 (by decide) o4 (k32i (by omega)) (fun h9 => ?_) (fun h9 => ?_)
            · have H := H.1 h9
              exact kw_forget (ls' := [some (kA 558), some (kI x1), none]) ⟨Or.inr rfl, ⟨Or.inr rfl, ⟨Or.inl rfl, trivial⟩⟩⟩ H
            · have H := H.2 h9
              refine kw_iconst dX11_isMotion_39 ?_
              refine k2_zret dX11_isMotion_40 rfl (Or.inl rfl) H
set_option maxRecDepth 4000 in
theorem v_X11_isMotion_41 {G : KG} {S0 : KSh} (hL : kLay S0) {d : Nat} {P : Option AV → KMem → Prop} {c : KMem} {x1 : Int} (r1 : -2147483648 ≤ x1 ∧ x1 < 2147483648) (H : kC2 G S0 kM_X11_copies (d + 4) [kA 558, kI x1, kI 29] c (kRN (fun c11 => kC2 G S0 kM_X11_reverses (d + 4) [kA 558, kI 29] c11 (kRN (fun c13 => kC2 G S0 kM_X11_joins (d + 4) [kA 558, kI 0, kI x1, kI 29, kI 31] c13 (kRN (fun c15 => kC2 G S0 kM_X11_isPlain (d + 4) [kA 558, kI 31] c15 (kRI (fun z16 c17 => (z16 = 0 ∨ z16 = 1) ∧ (P (some (kI z16)) c17)))))))))) : kW2 G S0 kM_X11_isMotion (d + 5) 41 [some (kA 558), some (kI x1), none] [] c P := by
  refine kw_aload_n dX11_isMotion_41 rfl ?_
  refine kw_iload_n dX11_isMotion_42 rfl ?_
  refine kw_bipush dX11_isMotion_43 (by decide) ?_
  refine k2_callV2N (ci := 9) (N := 38) (T := TX11) rfl (lsh_558 hL) m_X11_copies dX11_isMotion_45 wl_X11_132 (Nat.le_of_ble_eq_true rfl) (kC2_mono H (fun r c11 H => ?_))
  obtain ⟨rfl, H⟩ := H
  refine ⟨rfl, ?_⟩
  refine kw_aload_n dX11_isMotion_48 rfl ?_
  refine kw_bipush dX11_isMotion_49 (by decide) ?_
  refine k2_callV1N (ci := 9) (N := 38) (T := TX11) rfl (lsh_558 hL) m_X11_reverses dX11_isMotion_51 wl_X11_149 (Nat.le_of_ble_eq_true rfl) (kC2_mono H (fun r c13 H => ?_))
  obtain ⟨rfl, H⟩ := H
  refine ⟨rfl, ?_⟩
  refine kw_aload_n dX11_isMotion_54 rfl ?_
  refine kw_iconst dX11_isMotion_55 ?_
  refine kw_iload_n dX11_isMotion_56 rfl ?_
  refine kw_bipush dX11_isMotion_57 (by decide) ?_
  refine kw_bipush dX11_isMotion_59 (by decide) ?_
  refine k2_callV4N (ci := 9) (N := 38) (T := TX11) rfl (lsh_558 hL) m_X11_joins dX11_isMotion_61 wl_X11_111 (Nat.le_of_ble_eq_true rfl) (kC2_mono H (fun r c15 H => ?_))
  obtain ⟨rfl, H⟩ := H
  refine ⟨rfl, ?_⟩
  refine kw_aload_n dX11_isMotion_64 rfl ?_
  refine kw_bipush dX11_isMotion_65 (by decide) ?_
  refine k2_callV1I (ci := 9) (N := 38) (T := TX11) rfl (lsh_558 hL) m_X11_isPlain dX11_isMotion_67 wl_X11_152 (Nat.le_of_ble_eq_true rfl) (kC2_mono H (fun r c17 H => ?_))
  obtain ⟨z16, rfl, H⟩ := H
  refine ⟨z16, rfl, ?_⟩
  have o18 := H.1
  have H := H.2
  refine k2_zret dX11_isMotion_70 rfl o18 H
theorem s_X11_normals {G : KG} {S0 : KSh} (hL : kLay S0) {d : Nat} {P : Option AV → KMem → Prop} {c : KMem} {x1 : Int} (hp : 0 ≤ x1 ∧ x1 < 100) (h63 : ∀ k : Int, 0 ≤ k → k < 16 → k63 (kF c x1 k)) (h : ∀ c', kEq (kF c' x1) (nrmP (kF c x1)) → kR (fun s => s = x1) c c' → P none c') : kC2 G S0 kM_X11_normals (d + 2) [kA 558, kI x1] c P := by
  have L2 : kgdN 16 (kF c x1) ≠ 0 → k63 (nrmD (kF c x1)) → ∀ n k : Nat, k + n = 16 → ∀ c', (∀ j : Int, 0 ≤ j → j < 16 → kF c' x1 j = if j < k then nrmP (kF c x1) j else kF c x1 j) → kR (fun s => s = x1) c c' → kW2 G S0 kM_X11_normals (d + 2) 78 [some (kA 558), some (kI x1), some (kL (nrmD (kF c x1))), none, some (kI k)] [] c' P := by
    intro hz hb n
    induction n with
    | zero =>
      intro k hk c' h1 h2
      exact v_X11_normals_78 hL (by omega) (by omega) (by omega) ⟨fun _ => h c' (fun j a b => by rw [h1 j a b, if_pos (by omega)]) h2, fun q => by omega⟩
    | succ n ih =>
      intro k hk c' h1 h2
      have e9 : c' 559 (16 * x1 + k) = kF c x1 k := by have := h1 k (by omega) (by omega); rw [if_neg (by omega)] at this; exact this
      have hne : nrmD (kF c x1) ≠ 0 := by unfold nrmD; split <;> omega
      refine v_X11_normals_78 hL (by omega) (by omega) (by omega) ⟨fun q => by omega, fun _ => ⟨by rw [e9]; exact k63_64 (h63 k (by omega) (by omega)), k63_64 hb, hne, ?_⟩⟩
      refine ih (k + 1) (by omega) _ (fun j a b => ?_) (h2.up (by omega) rfl)
      rw [kF_up (by omega) ⟨a, b⟩]
      by_cases e : j = k
      · subst e
        rw [if_pos ⟨rfl, rfl⟩, if_pos (by omega), e9]
        unfold nrmP
        rw [if_neg hz]
      · rw [if_neg (fun q => e q.2), h1 j a b]
        by_cases e2 : j < k
        · rw [if_pos e2, if_pos (by omega)]
        · rw [if_neg e2, if_neg (by omega)]
  have L1 : ∀ k : Nat, k ≤ 16 → ∀ g : Int, k63 g → (∀ m : Nat, m ∣ g.natAbs ↔ ∀ j : Nat, k ≤ j → j < 16 → (m : Int) ∣ kF c x1 j) → (g < 0 ↔ ∃ i : Nat, k ≤ i ∧ i < 16 ∧ kF c x1 i < 0 ∧ ∀ j : Nat, k ≤ j → j < i → kF c x1 j = 0) → kW2 G S0 kM_X11_normals (d + 2) 6 [some (kA 558), some (kI x1), some (kL g), none, some (kI ((k : Int) - 1))] [] c P := by
    intro k
    induction k with
    | zero =>
      intro hk g hg h1 h2
      have e1 : g.natAbs = kgdN 16 (kF c x1) := by
        refine Nat.dvd_antisymm ((kgdN_dvd _ 16).mpr fun j hj => (h1 _).mp (Nat.dvd_refl _) j (by omega) hj) ((h1 _).mpr fun j _ hj => (kgdN_dvd _ 16).mp (Nat.dvd_refl _) j hj)
      have e2 : g < 0 ↔ kngN 16 (kF c x1) = true := by
        rw [h2, kngN_iff]
        constructor
        · rintro ⟨i, -, a, b, f⟩; exact ⟨i, a, b, fun j hj => f j (by omega) hj⟩
        · rintro ⟨i, a, b, f⟩; exact ⟨i, by omega, a, b, fun j _ hj => f j hj⟩
      have e3 : g = nrmD (kF c x1) := by
        unfold nrmD
        by_cases q : kngN 16 (kF c x1) = true
        · rw [if_pos q]; have := e2.mpr q; omega
        · rw [if_neg q]; have z9 : ¬ g < 0 := fun z => q (e2.mp z); omega
      refine v_X11_normals_6 hL (by omega) (by omega) (by omega) ⟨fun _ => ⟨k63_64 hg, fun z => ?_, fun z => ?_⟩, fun q => by omega⟩
      · rw [e3]
        exact L2 (by omega) (e3 ▸ hg) 16 0 (by omega) c (fun j a b => by rw [if_neg (by omega)]) kR.rf
      · refine h c (fun j a b => ?_) kR.rf
        unfold nrmP
        rw [if_pos (by omega)]
    | succ k ih =>
      intro hk g hg h1 h2
      have e0 : (((k + 1 : Nat) : Int) - 1) = k := by omega
      rw [e0]
      have hf := h63 k (by omega) (by omega)
      have split1 : ∀ (Q : Nat → Prop), (∀ j, k ≤ j → j < 16 → Q j) ↔ Q k ∧ ∀ j, k + 1 ≤ j → j < 16 → Q j := by
        intro Q
        constructor
        · intro q; exact ⟨q k (by omega) (by omega), fun j a b => q j (by omega) b⟩
        · rintro ⟨a, b⟩ j h1 h2
          by_cases e : j = k
          · subst e; exact a
          · exact b j (by omega) h2
      have hgl : (Int.gcd g (kF c x1 k) : Int) < 9223372036854775808 ∨ kF c x1 k = 0 := by
        by_cases z : kF c x1 k = 0
        · exact Or.inr z
        · have h9 : Int.gcd g (kF c x1 k) ∣ (kF c x1 k).natAbs := Nat.gcd_dvd_right _ _
          have h8 := Nat.le_of_dvd (by omega) h9
          unfold k63 at hf
          exact Or.inl (by omega)
      have dv : ∀ m : Nat, m ∣ Int.gcd g (kF c x1 k) ↔ ∀ j : Nat, k ≤ j → j < 16 → (m : Int) ∣ kF c x1 j := by
        intro m
        rw [split1, Int.dvd_gcd_iff, ← h1 m, and_comm, Int.ofNat_dvd_left (z := g)]
      have pos : kF c x1 k ≠ 0 → 0 < Int.gcd g (kF c x1 k) := fun z => Nat.pos_of_ne_zero (fun q => z (Int.gcd_eq_zero_iff.mp q).2)
      refine v_X11_normals_6 hL (by omega) (by omega) (by omega) ⟨fun q => by omega, fun _ => ⟨k63_64 hf, fun z => ?_, fun z => ⟨fun y => ?_, fun y => ?_⟩⟩⟩
      · have z' : kF c x1 k = 0 := z
        refine ih (by omega) g hg (fun m => ?_) ?_
        · rw [split1, z', ← h1 m]
          simp
        · rw [h2]
          constructor
          · rintro ⟨i, a, b, e, f⟩
            refine ⟨i, by omega, b, e, fun j u v => ?_⟩
            by_cases w : j = k
            · rw [w]; exact z'
            · exact f j (by omega) v
          · rintro ⟨i, a, b, e, f⟩
            have : i ≠ k := fun w => by rw [w] at e; omega
            exact ⟨i, by omega, b, e, fun j u v => f j (by omega) v⟩
      · have z' : kF c x1 k ≠ 0 := z
        have y' : 0 ≤ kF c x1 k := y
        have hp9 := pos z'
        refine s_X11_gcd hL hg hf ⟨_, rfl, ?_⟩
        refine ih (by omega) _ (by unfold k63; show -9223372036854775808 < (Int.gcd g (kF c x1 k) : Int) ∧ (Int.gcd g (kF c x1 k) : Int) < 9223372036854775808; omega) (fun m => ?_) ?_
        · show m ∣ (Int.gcd g (kF c x1 k) : Int).natAbs ↔ _
          rw [Int.natAbs_natCast]; exact dv m
        · constructor
          · intro q
            have : (Int.gcd g (kF c x1 k) : Int) < 0 := q
            omega
          · rintro ⟨i, a, b, e, f⟩
            exfalso
            by_cases w : i = k
            · rw [w] at e; omega
            · exact z' (f k (by omega) (by omega))
      · have z' : kF c x1 k ≠ 0 := z
        have y' : kF c x1 k < 0 := y
        have hp9 := pos z'
        refine s_X11_gcd hL hg hf ⟨_, rfl, ?_⟩
        refine ih (by omega) _ (by unfold k63; show -9223372036854775808 < -(Int.gcd g (kF c x1 k) : Int) ∧ -(Int.gcd g (kF c x1 k) : Int) < 9223372036854775808; omega) (fun m => ?_) ?_
        · show m ∣ (-(Int.gcd g (kF c x1 k) : Int)).natAbs ↔ _
          rw [Int.natAbs_neg, Int.natAbs_natCast]; exact dv m
        · constructor
          · intro _
            exact ⟨k, by omega, by omega, y', fun j a b => by omega⟩
          · intro _
            show -(Int.gcd g (kF c x1 k) : Int) < 0
            omega
  refine v_X11_normals hL (by omega) (L1 16 (by omega) 0 (by unfold k63; omega) (fun m => ⟨fun _ j a b => by omega, fun _ => Nat.dvd_zero m⟩) ⟨fun q => by omega, fun ⟨i, a, b, _⟩ => by omega⟩)
/-- what the reference keeps for itself -/
def kI0 (c : KMem) : Prop := kSgn c ∧ kEq (kF c 30) farP
theorem kI0.kept {T : Int → Prop} {c c' : KMem} (h : kI0 c) (hr : kR T c c') (ht : ¬ T 30) : kI0 c' := ⟨h.1.kept hr, (hr.1 30 ht (by decide)).tr h.2⟩
theorem farP_bd : kB 1 farP := fun k _ _ => by unfold farP; split <;> omega
abbrev kLB : Int := 100000000
theorem kb64 {M : Int} {f : KF} (h : kB M f) (hM : M < 9223372036854775807) : ∀ k : Int, 0 ≤ k → k < 16 → k64 (f k) := fun k h0 h1 => by have := h k h0 h1; exact k64i (by omega)
theorem kb63 {M : Int} {f : KF} (h : kB M f) (hM : M < 9223372036854775807) : ∀ k : Int, 0 ≤ k → k < 16 → k63 (f k) := fun k h0 h1 => by have := h k h0 h1; unfold k63; omega
theorem s_X11_squareOf {G : KG} {S0 : KSh} (hL : kLay S0) {d : Nat} {P : Option AV → KMem → Prop} {c : KMem} {x1 : Int} (hp : 0 ≤ x1 ∧ x1 < 100) (hI : kI0 c) {M : Int} (hM : M < 9223372036854775807) (hb : kB M (kF c x1)) (h : ∀ c', kR (fun s => s = 31) c c' → P (some (kL (mulP 0 (kF c x1) (kF c x1) 0))) c') : kC2 G S0 kM_X11_squareOf (d + 2) [kA 558, kI x1] c P := by
  refine v_X11_squareOf hL (by omega) (s_X11_joins hL (k32i (by omega)) ⟨hp.1, hp.2, hp.1, hp.2, by omega, by omega⟩ hI.1 (kb64 hb hM) (fun c' h1 h2 => ⟨rfl, ?_⟩))
  have e : c' 559 ((16 * 31) + 0) = mulP 0 (kF c x1) (kF c x1) 0 := h1 0 (by omega) (by omega)
  show P (some (kL (c' 559 (16 * 31 + 0)))) c'
  rw [e]
  exact h c' h2
theorem s_X11_innerOf {G : KG} {S0 : KSh} (hL : kLay S0) {d : Nat} {P : Option AV → KMem → Prop} {c : KMem} {x1 x2 : Int} (hp : 0 ≤ x1 ∧ x1 < 100 ∧ 0 ≤ x2 ∧ x2 < 100) (hI : kI0 c) {M : Int} (hM : M < 9223372036854775807) (hb : kB M (kF c x1)) (h : ∀ c', kR (fun s => s = 31) c c' → P (some (kL (mulP 2 (kF c x1) (kF c x2) 0))) c') : kC2 G S0 kM_X11_innerOf (d + 2) [kA 558, kI x1, kI x2] c P := by
  refine v_X11_innerOf hL (by omega) (by omega) (s_X11_joins hL (k32i (by omega)) ⟨hp.1, hp.2.1, hp.2.2.1, hp.2.2.2, by omega, by omega⟩ hI.1 (kb64 hb hM) (fun c' h1 h2 => ⟨rfl, ?_⟩))
  have e : c' 559 ((16 * 31) + 0) = mulP 2 (kF c x1) (kF c x2) 0 := h1 0 (by omega) (by omega)
  show P (some (kL (c' 559 (16 * 31 + 0)))) c'
  rw [e]
  exact h c' h2
theorem kQ4_bd {f : KF} (h : kB kLB f) : -40000000000000000 ≤ kQ4 f ∧ kQ4 f ≤ 40000000000000000 := by
  unfold kQ4
  have h1 := kmul_bd (h 1 (by omega) (by omega)) (h 1 (by omega) (by omega))
  have h2 := kmul_bd (h 2 (by omega) (by omega)) (h 2 (by omega) (by omega))
  have h4 := kmul_bd (h 4 (by omega) (by omega)) (h 4 (by omega) (by omega))
  have h8 := kmul_bd (h 8 (by omega) (by omega)) (h 8 (by omega) (by omega))
  have e : kLB * kLB = 10000000000000000 := by decide
  rw [e] at h1 h2 h4 h8
  omega
theorem s_X11_kindOfOne {G : KG} {S0 : KSh} (hL : kLay S0) {d : Nat} {P : Option AV → KMem → Prop} {c : KMem} {x1 : Int} (hp : 0 ≤ x1 ∧ x1 < 100) (hb : kB kLB (kF c x1)) (h : P (some (kI (kOne (kF c x1)))) c) : kC2 G S0 kM_X11_kindOfOne (d + 1) [kA 558, kI x1] c P := by
  have hq := kQ4_bd hb
  have e1 : ∀ k : Int, c 559 (16 * x1 + k) = kF c x1 k := fun k => rfl
  have hk : ∀ k : Int, 0 ≤ k → k < 16 → k64 (c 559 (16 * x1 + k)) := kb64 hb (by decide)
  have eq : ((((c 559 ((16 * x1) + 1)) * (c 559 ((16 * x1) + 1))) + ((c 559 ((16 * x1) + 2)) * (c 559 ((16 * x1) + 2)))) + ((c 559 ((16 * x1) + 4)) * (c 559 ((16 * x1) + 4)))) - ((c 559 ((16 * x1) + 8)) * (c 559 ((16 * x1) + 8))) = kQ4 (kF c x1) := rfl
  refine v_X11_kindOfOne hL (by omega) hp ?_
  rw [eq]
  unfold kOne at h
  refine ⟨hk 4 (by omega) (by omega), hk 8 (by omega) (by omega), fun z => ⟨k64i (by omega), fun y => ⟨fun w => ?_, fun w => ?_⟩, fun y => ?_⟩, fun z => ⟨hk 1 (by omega) (by omega), fun y => ?_, fun y => ⟨hk 2 (by omega) (by omega), fun w => ?_, fun w => ?_⟩⟩⟩
  · have y' : kQ4 (kF c x1) ≠ 0 := y
    rw [if_neg z, if_neg y', if_neg (by omega)] at h; exact h
  · have y' : kQ4 (kF c x1) ≠ 0 := y
    rw [if_neg z, if_neg y', if_pos w] at h; exact h
  · rw [if_neg z, if_pos y] at h; exact h
  · rw [if_pos z, if_pos (Or.inl y)] at h; exact h
  · have y' : kF c x1 1 = 0 := y
    have w' : kF c x1 2 = 0 := w
    rw [if_pos z, if_neg (by rw [y', w']; simp)] at h; exact h
  · rw [if_pos z, if_pos (Or.inr w)] at h; exact h
theorem k2m {c : KMem} {x : Int} : (c 559 (16 * x + 0) = kF c x 0) := rfl
theorem mulP_bdL {kd : Int} {f g : KF} (hf : kB kLB f) (hg : kB kLB g) : kB 160000000000000000 (mulP kd f g) := (mulP_bd (by decide) (by decide) hf hg).le (by decide)
theorem s_X11_kindOfTwo {G : KG} {S0 : KSh} (hL : kLay S0) {d : Nat} {P : Option AV → KMem → Prop} {c : KMem} {x1 : Int} (hp : 0 ≤ x1 ∧ x1 < 100 ∧ x1 ≠ 31) (hI : kI0 c) (hb : kB kLB (kF c x1)) (h : ∀ c', kR (fun s => s = 31) c c' → P (some (kI (kTwo (kF c x1)))) c') : kC2 G S0 kM_X11_kindOfTwo (d + 3) [kA 558, kI x1] c P := by
  unfold kTwo at h
  have n31 : ∀ (c1 : KMem), kR (fun s => s = 31) c c1 → kEq (kF c1 x1) (kF c x1) ∧ kI0 c1 := fun c1 q => ⟨q.1 x1 hp.2.2 hp.1, hI.kept q (by decide)⟩
  refine v_X11_kindOfTwo hL (by omega) (s_X11_joins hL (k32i (by omega)) ⟨hp.1, hp.2.1, hp.1, hp.2.1, by omega, by omega⟩ hI.1 (kb64 hb (by decide)) (fun c1 h1 h2 => ⟨rfl, ?_⟩))
  have b1 : kB 160000000000000000 (kF c1 31) := (mulP_bdL hb hb).eq h1
  refine s_X11_isNothing hL (by omega) (kb64 b1 (by decide)) (fun z => ⟨1, rfl, k32i (by omega), fun _ => ?_, fun q => absurd q (by decide)⟩) (fun z => ⟨0, rfl, k32i (by omega), fun q => absurd rfl q, fun _ => ?_⟩)
  · have e0 : kZb (mulP 1 (kF c x1) (kF c x1)) = true := kZb_iff.mpr (h1.sy.tr z)
    obtain ⟨a1, a2⟩ := n31 c1 h2
    refine s_X11_joins hL (k32i (by omega)) ⟨by omega, by omega, hp.1, hp.2.1, by omega, by omega⟩ a2.1 (kb64 (farP_bd.eq a2.2) (by decide)) (fun c2 h3 h4 => ⟨rfl, ?_⟩)
    have h5 := h2.tr h4 (fun _ q => q) (fun _ q => q)
    obtain ⟨a3, a4⟩ := n31 c2 h5
    have e1 : kEq (kF c2 31) (mulP 1 farP (kF c x1)) := h3.tr (mulP_congr a2.2 a1)
    have b2 : kB 160000000000000000 (kF c2 31) := (mulP_bdL (farP_bd.le (by decide)) hb).eq e1
    refine s_X11_isNothing hL (by omega) (kb64 b2 (by decide)) (fun z => ⟨1, rfl, k32i (by omega), fun q => absurd q (by decide), fun _ => ?_⟩) (fun z => ⟨0, rfl, k32i (by omega), fun _ => ?_, fun q => absurd rfl q⟩)
    · have e2 : kZb (mulP 1 farP (kF c x1)) = true := kZb_iff.mpr (e1.sy.tr z)
      have := h c2 h5
      rw [if_neg (by rw [e0]; decide), if_pos e2] at this
      exact this
    · have e2 : ¬ kZb (mulP 1 farP (kF c x1)) = true := fun q => z (e1.tr (kZb_iff.mp q))
      refine s_X11_squareOf hL ⟨hp.1, hp.2.1⟩ a4 (M := kLB) (by decide) (hb.eq a3) (fun c3 h6 => ⟨_, rfl, ?_⟩)
      have e3 : mulP 0 (kF c2 x1) (kF c2 x1) 0 = mulP 0 (kF c x1) (kF c x1) 0 := mulP_congr a3 a3 0 (by omega) (by omega)
      rw [e3]
      have b3 := mulP_bdL (kd := 0) hb hb 0 (by omega) (by omega)
      have := h c3 (h5.tr h6 (fun _ q => q) (fun _ q => q))
      rw [if_neg (by rw [e0]; decide), if_neg e2] at this
      refine ⟨k64i (by omega), fun y => ⟨fun w => ?_, fun w => ?_⟩, fun y => ?_⟩
      · rw [if_neg (by omega), if_neg w] at this; exact this
      · rw [if_neg (by omega), if_pos w] at this; exact this
      · rw [if_pos y] at this; exact this
  · have e0 : kZb (mulP 1 (kF c x1) (kF c x1)) = false := by
      cases q : kZb (mulP 1 (kF c x1) (kF c x1)) with
      | false => rfl
      | true => exact absurd (h1.tr (kZb_iff.mp q)) z
    have := h c1 h2
    rw [if_pos e0] at this
    exact this
theorem kand_gr {f : KF} {m : Nat} (hm : m < 2147483648) : kand (kgr f : Int) m = ((kgr f &&& m : Nat) : Int) := kand_nat _ _ (by have := kgrN_lt (f := f) 16 (by omega); show kgrN 16 f < _; omega) hm
theorem s_X11_kindOf {G : KG} {S0 : KSh} (hL : kLay S0) {d : Nat} {P : Option AV → KMem → Prop} {c : KMem} {x1 : Int} (hp : 0 ≤ x1 ∧ x1 < 100 ∧ x1 ≠ 31 ∧ x1 ≠ 29) (hI : kI0 c) (hb : kB kLB (kF c x1)) (h : ∀ c', kR (fun s => s = 29 ∨ s = 31) c c' → P (some (kI (kind (kF c x1)))) c') : kC2 G S0 kM_X11_kindOf (d + 4) [kA 558, kI x1] c P := by
  unfold kind at h
  have hg := kgrN_lt (f := kF c x1) 16 (by omega)
  have hg' : kgr (kF c x1) < 32 := hg
  refine v_X11_kindOf hL (by omega) (s_X11_gradesOf hL ⟨hp.1, hp.2.1⟩ (kb64 hb (by decide)) ⟨_, rfl, k32i (by omega), fun z => ?_, fun z => ?_, fun z => ?_, fun z => ?_, fun z => ?_, fun z => ?_, fun z => ?_⟩)
  · have hc := h c kR.rf
    rw [if_neg (by omega), if_neg (by omega), if_neg (by omega), if_neg (by omega), if_neg (by omega), if_neg (by omega)] at hc
    refine v_X11_kindOf_131 hL (by omega) ?_
    have e1 : kand (kgr (kF c x1) : Int) 10 = ((kgr (kF c x1) &&& 10 : Nat) : Int) := kand_gr (m := 10) (by omega)
    have e2 : kand (kgr (kF c x1) : Int) 21 = ((kgr (kF c x1) &&& 21 : Nat) : Int) := kand_gr (m := 21) (by omega)
    rw [e1, e2]
    refine ⟨fun y => ⟨fun w => ?_, fun w => ?_⟩, fun y => ?_⟩
    · rw [if_neg (by omega), if_neg (by omega)] at hc; exact hc
    · rw [if_neg (by omega), if_pos (by omega)] at hc; exact hc
    · rw [if_pos (by omega)] at hc; exact hc
  · have hc := h c kR.rf
    rw [if_pos (by omega)] at hc; exact hc
  · have hc := h c kR.rf
    rw [if_neg (by omega), if_pos (by omega)] at hc; exact hc
  · have hc := h c kR.rf
    rw [if_neg (by omega), if_neg (by omega), if_pos (by omega)] at hc
    exact s_X11_kindOfOne hL ⟨hp.1, hp.2.1⟩ hb ⟨_, rfl, hc⟩
  · refine s_X11_kindOfTwo hL ⟨hp.1, hp.2.1, hp.2.2.1⟩ hI hb (fun c1 h1 => ⟨_, rfl, ?_⟩)
    have hc := h c1 (h1.tr kR.rf (fun _ q => Or.inr q) (fun _ q => q))
    rw [if_neg (by omega), if_neg (by omega), if_neg (by omega), if_pos (by omega)] at hc
    exact hc
  · refine s_X11_copies hL (by omega) (fun c1 h1 h2 _ => ⟨rfl, ?_⟩)
    have hI1 := hI.kept h2 (by decide)
    refine s_X11_turnsWhole hL (by omega) hI1.1 (fun c2 h3 h4 => ⟨rfl, ?_⟩)
    rw [if_neg (by decide)] at h3
    have e1 : kEq (kF c2 29) (whlP (-1) (kF c x1)) := h3.tr (whlP_congr h1)
    refine s_X11_kindOfOne hL (by omega) ((whlP_bd (Or.inr rfl) hb).eq e1) ⟨_, rfl, ?_⟩
    have hc := h c2 (h2.tr h4 (fun _ q => Or.inl q) (fun _ q => Or.inl q))
    rw [if_neg (by omega), if_neg (by omega), if_neg (by omega), if_neg (by omega), if_pos (by omega)] at hc
    rw [kOne_congr e1]
    exact hc
  · have hc := h c kR.rf
    rw [if_neg (by omega), if_neg (by omega), if_neg (by omega), if_neg (by omega), if_neg (by omega), if_pos (by omega)] at hc; exact hc
