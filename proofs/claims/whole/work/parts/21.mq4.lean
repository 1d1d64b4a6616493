set_option maxRecDepth 4000 in
theorem v_X11_middle {G : KG} {S0 : KSh} (hL : kLay S0) {d : Nat} {P : Option AV → KMem → Prop} {c : KMem} {x1 x2 : Int} (r1 : -2147483648 ≤ x1 ∧ x1 < 2147483648) (r2 : -2147483648 ≤ x2 ∧ x2 < 2147483648) (H : (kStd c) ∧ (((kHas c x1) → (((0 ≤ x2 ∧ x2 ≤ 4) → (kC2 G S0 kM_X11_kindOf (d + 4) [kA 558, kI x1] c (kRI (fun z6 c7 => (k32 z6) ∧ (((kMid z6) → (kC2 G S0 kM_X11_laysVector (d + 4) [kA 558, kI x1, kI 24] c7 (kRN (fun c12 => kC2 G S0 kM_X11_findsMiddle (d + 4) [kA 558, kI 24] c12 (kRN (fun c14 => (x2 ≠ 0 → ((x2 ≠ 1 → ((x2 ≠ 2 → ((x2 ≠ 3 → (P (some (kL (c14 558 35))) c14)) ∧ (x2 = 3 → (P (some (kL (c14 558 34))) c14)))) ∧ (x2 = 2 → (P (some (kL (c14 558 33))) c14)))) ∧ (x2 = 1 → (P (some (kL (c14 558 32))) c14)))) ∧ (x2 = 0 → (P (some (kL (c14 558 31))) c14)))))))) ∧ (¬ (kMid z6) → (P (some (kL (-3000000000000000000))) c7))))))) ∧ (¬ (0 ≤ x2 ∧ x2 ≤ 4) → (P (some (kL (-2000000000000000000))) c)))) ∧ (¬ (kHas c x1) → (P (some (kL (-2000000000000000000))) c)))) : kC2 G S0 kM_X11_middle (d + 5) [kA 558, kI x1, kI x2] c P := by
  refine k2_met (by decide) rfl (Nat.le_of_ble_eq_true rfl) (l0 := [some (kA 558), some (kI x1), some (kI x2)]) rfl ?_
  refine kw_aload_n dX11_middle_0 rfl ?_
  refine kw_iload_n dX11_middle_1 rfl ?_
  have o1 := H.1
  have H := H.2
  refine k2_callV1I (ci := 9) (N := 38) (T := TX11) rfl (lsh_558 hL) m_X11_isLetter dX11_middle_2 wl_X11_161 (Nat.le_of_ble_eq_true rfl) (s_X11_isLetter hL (k32i (by omega)) o1 (fun h2 => ⟨_, rfl, ?_⟩) (fun h2 => ⟨_, rfl, ?_⟩))
  · have H := H.1 h2
    refine kw_if_eq 17 dX11_middle_5 (by decide) (k32i (by omega)) (fun h3 => absurd h3 (by decide)) (fun _ => ?_)
    refine kw_iload_n dX11_middle_8 rfl ?_
    refine kw_iconst dX11_middle_9 ?_
    refine kw_iconst dX11_middle_10 ?_
    refine k2_callS3I m_X11_in dX11_middle_11 wl_X11_100 (Nat.le_of_ble_eq_true rfl) (s_X11_in hL (k32i (by omega)) (k32i (by omega)) (k32i (by omega)) (fun h4 => ⟨_, rfl, ?_⟩) (fun h4 => ⟨_, rfl, ?_⟩))
    · have H := H.1 h4
      refine kw_if_ne 21 dX11_middle_14 (by decide) (k32i (by omega)) (fun _ => ?_) (fun h5 => absurd h5 (by decide))
      refine kw_aload_n dX11_middle_21 rfl ?_
      refine kw_iload_n dX11_middle_22 rfl ?_
      refine k2_callV1I (ci := 9) (N := 38) (T := TX11) rfl (lsh_558 hL) m_X11_kindOf dX11_middle_23 wl_X11_140 (Nat.le_of_ble_eq_true rfl) (kC2_mono H (fun r c7 H => ?_))
      obtain ⟨z6, rfl, H⟩ := H
      refine ⟨z6, rfl, ?_⟩
      have o8 := H.1
      have H := H.2
      refine k2_callS1I m_X11_hasMiddle dX11_middle_26 wl_X11_329 (Nat.le_of_ble_eq_true rfl) (s_X11_hasMiddle hL o8 (fun h9 => ⟨_, rfl, ?_⟩) (fun h9 => ⟨_, rfl, ?_⟩))
      · have H := H.1 h9
        refine kw_if_ne 36 dX11_middle_29 (by decide) (k32i (by omega)) (fun _ => ?_) (fun h10 => absurd h10 (by decide))
        refine kw_aload_n dX11_middle_36 rfl ?_
        refine kw_iload_n dX11_middle_37 rfl ?_
        refine kw_bipush dX11_middle_38 (by decide) ?_
        refine k2_callV2N (ci := 9) (N := 38) (T := TX11) rfl (lsh_558 hL) m_X11_laysVector dX11_middle_40 wl_X11_334 (Nat.le_of_ble_eq_true rfl) (kC2_mono H (fun r c12 H => ?_))
        obtain ⟨rfl, H⟩ := H
        refine ⟨rfl, ?_⟩
        refine kw_aload_n dX11_middle_43 rfl ?_
        refine kw_bipush dX11_middle_44 (by decide) ?_
        refine k2_callV1N (ci := 9) (N := 38) (T := TX11) rfl (lsh_558 hL) m_X11_findsMiddle dX11_middle_46 wl_X11_337 (Nat.le_of_ble_eq_true rfl) (kC2_mono H (fun r c14 H => ?_))
        obtain ⟨rfl, H⟩ := H
        refine ⟨rfl, ?_⟩
        refine kw_iload_n dX11_middle_49 rfl ?_
        refine kw_if_ne 60 dX11_middle_50 (by decide) (k32i (by omega)) (fun h15 => ?_) (fun h15 => ?_)
        · have H := H.1 h15
          refine kw_iload_n dX11_middle_60 rfl ?_
          refine kw_iconst dX11_middle_61 ?_
          refine kw_icmp_ne 72 dX11_middle_62 (by decide) (k32i (by omega)) (k32i (by omega)) (fun h16 => ?_) (fun h16 => ?_)
          · have H := H.1 h16
            refine kw_iload_n dX11_middle_72 rfl ?_
            refine kw_iconst dX11_middle_73 ?_
            refine kw_icmp_ne 84 dX11_middle_74 (by decide) (k32i (by omega)) (k32i (by omega)) (fun h17 => ?_) (fun h17 => ?_)
            · have H := H.1 h17
              refine kw_iload_n dX11_middle_84 rfl ?_
              refine kw_iconst dX11_middle_85 ?_
              refine kw_icmp_ne 96 dX11_middle_86 (by decide) (k32i (by omega)) (k32i (by omega)) (fun h18 => ?_) (fun h18 => ?_)
              · have H := H.1 h18
                refine kw_aload_n dX11_middle_96 rfl ?_
                refine k2_getL fd_X11_35 dX11_middle_97 wf_X11_324 (lsh_558 hL) ?_
                refine k2_lret dX11_middle_100 rfl H
              · have H := H.2 h18
                refine kw_aload_n dX11_middle_89 rfl ?_
                refine k2_getL fd_X11_34 dX11_middle_90 wf_X11_321 (lsh_558 hL) ?_
                refine kw_goto 100 dX11_middle_93 (by decide) ?_
                refine k2_lret dX11_middle_100 rfl H
            · have H := H.2 h17
              refine kw_aload_n dX11_middle_77 rfl ?_
              refine k2_getL fd_X11_33 dX11_middle_78 wf_X11_314 (lsh_558 hL) ?_
              refine kw_goto 100 dX11_middle_81 (by decide) ?_
              refine k2_lret dX11_middle_100 rfl H
          · have H := H.2 h16
            refine kw_aload_n dX11_middle_65 rfl ?_
            refine k2_getL fd_X11_32 dX11_middle_66 wf_X11_311 (lsh_558 hL) ?_
            refine kw_goto 100 dX11_middle_69 (by decide) ?_
            refine k2_lret dX11_middle_100 rfl H
        · have H := H.2 h15
          refine kw_aload_n dX11_middle_53 rfl ?_
          refine k2_getL fd_X11_31 dX11_middle_54 wf_X11_307 (lsh_558 hL) ?_
          refine kw_goto 100 dX11_middle_57 (by decide) ?_
          refine k2_lret dX11_middle_100 rfl H
      · have H := H.2 h9
        refine kw_if_ne 36 dX11_middle_29 (by decide) (k32i (by omega)) (fun h19 => absurd h19 (by decide)) (fun _ => ?_)
        refine kw_ldc2 dX11_middle_32 wk_X11_332 ?_
        refine k2_lret dX11_middle_35 rfl H
    · have H := H.2 h4
      refine kw_if_ne 21 dX11_middle_14 (by decide) (k32i (by omega)) (fun h20 => absurd h20 (by decide)) (fun _ => ?_)
      refine kw_ldc2 dX11_middle_17 wk_X11_327 ?_
      refine k2_lret dX11_middle_20 rfl H
  · have H := H.2 h2
    refine kw_if_eq 17 dX11_middle_5 (by decide) (k32i (by omega)) (fun _ => ?_) (fun h21 => absurd h21 (by decide))
    refine kw_ldc2 dX11_middle_17 wk_X11_327 ?_
    refine k2_lret dX11_middle_20 rfl H
set_option maxRecDepth 4000 in
theorem v_X11_line {G : KG} {S0 : KSh} (hL : kLay S0) {d : Nat} {P : Option AV → KMem → Prop} {c : KMem} {x1 x2 : Int} (r1 : -2147483648 ≤ x1 ∧ x1 < 2147483648) (r2 : -2147483648 ≤ x2 ∧ x2 < 2147483648) (H : (kStd c) ∧ (((kHas c x1) → (((0 ≤ x2 ∧ x2 ≤ 2) → (kC2 G S0 kM_X11_kindOf (d + 4) [kA 558, kI x1] c (kRI (fun z6 c7 => (k32 z6) ∧ ((z6 = 6 → (kW2 G S0 kM_X11_line (d + 5) 41 [some (kA 558), some (kI x1), some (kI x2), none, none, none] [] c7 P)) ∧ (z6 ≠ 6 → ((z6 = 16 → (kW2 G S0 kM_X11_line (d + 5) 41 [some (kA 558), some (kI x1), some (kI x2), none, none, none] [] c7 P)) ∧ (z6 ≠ 16 → (P (some (kI (-1000000000))) c7))))))))) ∧ (¬ (0 ≤ x2 ∧ x2 ≤ 2) → (P (some (kI (-1000000000))) c)))) ∧ (¬ (kHas c x1) → (P (some (kI (-1000000000))) c)))) : kC2 G S0 kM_X11_line (d + 5) [kA 558, kI x1, kI x2] c P := by
  refine k2_met (by decide) rfl (Nat.le_of_ble_eq_true rfl) (l0 := [some (kA 558), some (kI x1), some (kI x2), none, none, none]) rfl ?_
  refine kw_aload_n dX11_line_0 rfl ?_
  refine kw_iload_n dX11_line_1 rfl ?_
  have o1 := H.1
  have H := H.2
  refine k2_callV1I (ci := 9) (N := 38) (T := TX11) rfl (lsh_558 hL) m_X11_isLetter dX11_line_2 wl_X11_161 (Nat.le_of_ble_eq_true rfl) (s_X11_isLetter hL (k32i (by omega)) o1 (fun h2 => ⟨_, rfl, ?_⟩) (fun h2 => ⟨_, rfl, ?_⟩))
  · have H := H.1 h2
    refine kw_if_eq 17 dX11_line_5 (by decide) (k32i (by omega)) (fun h3 => absurd h3 (by decide)) (fun _ => ?_)
    refine kw_iload_n dX11_line_8 rfl ?_
    refine kw_iconst dX11_line_9 ?_
    refine kw_iconst dX11_line_10 ?_
    refine k2_callS3I m_X11_in dX11_line_11 wl_X11_100 (Nat.le_of_ble_eq_true rfl) (s_X11_in hL (k32i (by omega)) (k32i (by omega)) (k32i (by omega)) (fun h4 => ⟨_, rfl, ?_⟩) (fun h4 => ⟨_, rfl, ?_⟩))
    · have H := H.1 h4
      refine kw_if_ne 20 dX11_line_14 (by decide) (k32i (by omega)) (fun _ => ?_) (fun h5 => absurd h5 (by decide))
      refine kw_aload_n dX11_line_20 rfl ?_
      refine kw_iload_n dX11_line_21 rfl ?_
      refine k2_callV1I (ci := 9) (N := 38) (T := TX11) rfl (lsh_558 hL) m_X11_kindOf dX11_line_22 wl_X11_140 (Nat.le_of_ble_eq_true rfl) (kC2_mono H (fun r c7 H => ?_))
      obtain ⟨z6, rfl, H⟩ := H
      refine ⟨z6, rfl, ?_⟩
      refine kw_istore_n dX11_line_25 (Nat.le_of_ble_eq_true rfl) ?_
      refine kw_iload_n dX11_line_26 rfl ?_
      refine kw_bipush dX11_line_27 (by decide) ?_
      have o9 := H.1
      have H := H.2
      refine kw_icmp_eq 41 dX11_line_29 (by decide) o9 (k32i (by omega)) (fun h8 => ?_) (fun h8 => ?_)
      · have H := H.1 h8
        exact kw_forget (ls' := [some (kA 558), some (kI x1), some (kI x2), none, none, none]) ⟨Or.inr rfl, ⟨Or.inr rfl, ⟨Or.inr rfl, ⟨Or.inl rfl, ⟨Or.inr rfl, ⟨Or.inr rfl, trivial⟩⟩⟩⟩⟩⟩ H
      · have H := H.2 h8
        refine kw_iload_n dX11_line_32 rfl ?_
        refine kw_bipush dX11_line_33 (by decide) ?_
        refine kw_icmp_eq 41 dX11_line_35 (by decide) o9 (k32i (by omega)) (fun h10 => ?_) (fun h10 => ?_)
        · have H := H.1 h10
          exact kw_forget (ls' := [some (kA 558), some (kI x1), some (kI x2), none, none, none]) ⟨Or.inr rfl, ⟨Or.inr rfl, ⟨Or.inr rfl, ⟨Or.inl rfl, ⟨Or.inr rfl, ⟨Or.inr rfl, trivial⟩⟩⟩⟩⟩⟩ H
        · have H := H.2 h10
          refine kw_ldc dX11_line_38 wk_X11_164 ?_
          refine k2_iret dX11_line_40 rfl H
    · have H := H.2 h4
      refine kw_if_ne 20 dX11_line_14 (by decide) (k32i (by omega)) (fun h11 => absurd h11 (by decide)) (fun _ => ?_)
      refine kw_ldc dX11_line_17 wk_X11_164 ?_
      refine k2_iret dX11_line_19 rfl H
  · have H := H.2 h2
    refine kw_if_eq 17 dX11_line_5 (by decide) (k32i (by omega)) (fun _ => ?_) (fun h12 => absurd h12 (by decide))
    refine kw_ldc dX11_line_17 wk_X11_164 ?_
    refine k2_iret dX11_line_19 rfl H
set_option maxRecDepth 4000 in
theorem v_X11_line_41 {G : KG} {S0 : KSh} (hL : kLay S0) {d : Nat} {P : Option AV → KMem → Prop} {c : KMem} {x1 x2 : Int} (r1 : -2147483648 ≤ x1 ∧ x1 < 2147483648) (r2 : -2147483648 ≤ x2 ∧ x2 < 2147483648) (hp : 0 ≤ x1 ∧ x1 < 100) (H : kC2 G S0 kM_X11_laysVector (d + 4) [kA 558, kI x1, kI 24] c (kRN (fun c14 => kC2 G S0 kM_X11_gcd (d + 4) [kL (c14 559 ((16 * 24) + 1)), kL (c14 559 ((16 * 24) + 2))] c14 (kRL (fun z15 c16 => kC2 G S0 kM_X11_gcd (d + 4) [kL z15, kL (c16 559 ((16 * 24) + 4))] c16 (kRL (fun z17 c18 => (k64 (c18 559 ((16 * 24) + 1))) ∧ (((c18 559 ((16 * 24) + 1)) < 0 → (kW2 G S0 kM_X11_line (d + 5) 118 [some (kA 558), none, some (kI x2), none, some (kL (-z17)), none] [] c18 P)) ∧ (0 ≤ (c18 559 ((16 * 24) + 1)) → (((c18 559 ((16 * 24) + 1)) ≠ 0 → (kW2 G S0 kM_X11_line (d + 5) 118 [some (kA 558), none, some (kI x2), none, some (kL z17), none] [] c18 P)) ∧ ((c18 559 ((16 * 24) + 1)) = 0 → ((k64 (c18 559 ((16 * 24) + 2))) ∧ ((0 ≤ (c18 559 ((16 * 24) + 2)) → (kW2 G S0 kM_X11_line (d + 5) 118 [some (kA 558), none, some (kI x2), none, some (kL z17), none] [] c18 P)) ∧ ((c18 559 ((16 * 24) + 2)) < 0 → (kW2 G S0 kM_X11_line (d + 5) 118 [some (kA 558), none, some (kI x2), none, some (kL (-z17)), none] [] c18 P))))))))))))))) : kW2 G S0 kM_X11_line (d + 5) 41 [some (kA 558), some (kI x1), some (kI x2), none, none, none] [] c P := by
  refine kw_aload_n dX11_line_41 rfl ?_
  refine kw_iload_n dX11_line_42 rfl ?_
  refine kw_bipush dX11_line_43 (by decide) ?_
  refine k2_callV2N (ci := 9) (N := 38) (T := TX11) rfl (lsh_558 hL) m_X11_laysVector dX11_line_45 wl_X11_334 (Nat.le_of_ble_eq_true rfl) (kC2_mono H (fun r c14 H => ?_))
  obtain ⟨rfl, H⟩ := H
  refine ⟨rfl, ?_⟩
  refine kw_aload_n dX11_line_48 rfl ?_
  refine kw_bipush dX11_line_49 (by decide) ?_
  refine kw_iconst dX11_line_51 ?_
  refine k2_callV2L (ci := 9) (N := 38) (T := TX11) rfl (lsh_558 hL) m_X11_at dX11_line_52 wl_X11_84 (Nat.le_of_ble_eq_true rfl) (s_X11_at hL (k32i (by omega)) (k32i (by omega)) (by omega) ⟨_, rfl, ?_⟩)
  refine kw_aload_n dX11_line_55 rfl ?_
  refine kw_bipush dX11_line_56 (by decide) ?_
  refine kw_iconst dX11_line_58 ?_
  refine k2_callV2L (ci := 9) (N := 38) (T := TX11) rfl (lsh_558 hL) m_X11_at dX11_line_59 wl_X11_84 (Nat.le_of_ble_eq_true rfl) (s_X11_at hL (k32i (by omega)) (k32i (by omega)) (by omega) ⟨_, rfl, ?_⟩)
  refine k2_callS2L m_X11_gcd dX11_line_62 wl_X11_76 (Nat.le_of_ble_eq_true rfl) (kC2_mono H (fun r c16 H => ?_))
  obtain ⟨z15, rfl, H⟩ := H
  refine ⟨z15, rfl, ?_⟩
  refine kw_aload_n dX11_line_65 rfl ?_
  refine kw_bipush dX11_line_66 (by decide) ?_
  refine kw_iconst dX11_line_68 ?_
  refine k2_callV2L (ci := 9) (N := 38) (T := TX11) rfl (lsh_558 hL) m_X11_at dX11_line_69 wl_X11_84 (Nat.le_of_ble_eq_true rfl) (s_X11_at hL (k32i (by omega)) (k32i (by omega)) (by omega) ⟨_, rfl, ?_⟩)
  refine k2_callS2L m_X11_gcd dX11_line_72 wl_X11_76 (Nat.le_of_ble_eq_true rfl) (kC2_mono H (fun r c18 H => ?_))
  obtain ⟨z17, rfl, H⟩ := H
  refine ⟨z17, rfl, ?_⟩
  refine kw_lstore dX11_line_75 (Nat.le_of_ble_eq_true rfl) ?_
  refine kw_aload_n dX11_line_77 rfl ?_
  refine kw_bipush dX11_line_78 (by decide) ?_
  refine kw_iconst dX11_line_80 ?_
  refine k2_callV2L (ci := 9) (N := 38) (T := TX11) rfl (lsh_558 hL) m_X11_at dX11_line_81 wl_X11_84 (Nat.le_of_ble_eq_true rfl) (s_X11_at hL (k32i (by omega)) (k32i (by omega)) (by omega) ⟨_, rfl, ?_⟩)
  refine kw_lconst0 dX11_line_84 ?_
  have o19 := H.1
  have H := H.2
  refine kw_lcmp_lt 113 dX11_line_85 dX11_line_86 (by decide) o19 (k64i (by omega)) (fun h20 => ?_) (fun h20 => ?_)
  · have H := H.1 h20
    refine kw_lload dX11_line_113 rfl ?_
    refine kw_lneg dX11_line_115 ?_
    refine kw_lstore dX11_line_116 (Nat.le_of_ble_eq_true rfl) ?_
    exact kw_forget (ls' := [some (kA 558), none, some (kI x2), none, some (kL (-z17)), none]) ⟨Or.inr rfl, ⟨Or.inl rfl, ⟨Or.inr rfl, ⟨Or.inr rfl, ⟨Or.inr rfl, ⟨Or.inr rfl, trivial⟩⟩⟩⟩⟩⟩ H
  · have H := H.2 h20
    refine kw_aload_n dX11_line_89 rfl ?_
    refine kw_bipush dX11_line_90 (by decide) ?_
    refine kw_iconst dX11_line_92 ?_
    refine k2_callV2L (ci := 9) (N := 38) (T := TX11) rfl (lsh_558 hL) m_X11_at dX11_line_93 wl_X11_84 (Nat.le_of_ble_eq_true rfl) (s_X11_at hL (k32i (by omega)) (k32i (by omega)) (by omega) ⟨_, rfl, ?_⟩)
    refine kw_lconst0 dX11_line_96 ?_
    refine kw_lcmp_ne 118 dX11_line_97 dX11_line_98 (by decide) o19 (k64i (by omega)) (fun h21 => ?_) (fun h21 => ?_)
    · have H := H.1 h21
      exact kw_forget (ls' := [some (kA 558), none, some (kI x2), none, some (kL z17), none]) ⟨Or.inr rfl, ⟨Or.inl rfl, ⟨Or.inr rfl, ⟨Or.inr rfl, ⟨Or.inr rfl, ⟨Or.inr rfl, trivial⟩⟩⟩⟩⟩⟩ H
    · have H := H.2 h21
      refine kw_aload_n dX11_line_101 rfl ?_
      refine kw_bipush dX11_line_102 (by decide) ?_
      refine kw_iconst dX11_line_104 ?_
      refine k2_callV2L (ci := 9) (N := 38) (T := TX11) rfl (lsh_558 hL) m_X11_at dX11_line_105 wl_X11_84 (Nat.le_of_ble_eq_true rfl) (s_X11_at hL (k32i (by omega)) (k32i (by omega)) (by omega) ⟨_, rfl, ?_⟩)
      refine kw_lconst0 dX11_line_108 ?_
      have o22 := H.1
      have H := H.2
      refine kw_lcmp_ge 118 dX11_line_109 dX11_line_110 (by decide) o22 (k64i (by omega)) (fun h23 => ?_) (fun h23 => ?_)
      · have H := H.1 h23
        exact kw_forget (ls' := [some (kA 558), none, some (kI x2), none, some (kL z17), none]) ⟨Or.inr rfl, ⟨Or.inl rfl, ⟨Or.inr rfl, ⟨Or.inr rfl, ⟨Or.inr rfl, ⟨Or.inr rfl, trivial⟩⟩⟩⟩⟩⟩ H
      · have H := H.2 h23
        refine kw_lload dX11_line_113 rfl ?_
        refine kw_lneg dX11_line_115 ?_
        refine kw_lstore dX11_line_116 (Nat.le_of_ble_eq_true rfl) ?_
        exact kw_forget (ls' := [some (kA 558), none, some (kI x2), none, some (kL (-z17)), none]) ⟨Or.inr rfl, ⟨Or.inl rfl, ⟨Or.inr rfl, ⟨Or.inr rfl, ⟨Or.inr rfl, ⟨Or.inr rfl, trivial⟩⟩⟩⟩⟩⟩ H
set_option maxRecDepth 4000 in
theorem v_X11_line_118 {G : KG} {S0 : KSh} (hL : kLay S0) {d : Nat} {P : Option AV → KMem → Prop} {c : KMem} {x2 x4 : Int} (r2 : -2147483648 ≤ x2 ∧ x2 < 2147483648) (H : (x2 ≠ 0 → ((x2 ≠ 1 → ((k64 (c 559 ((16 * 24) + 4))) ∧ ((k64 x4) ∧ ((x4 ≠ 0) ∧ (P (some (kI (Int.tdiv (c 559 ((16 * 24) + 4)) x4))) c))))) ∧ (x2 = 1 → ((k64 (c 559 ((16 * 24) + 2))) ∧ ((k64 x4) ∧ ((x4 ≠ 0) ∧ (P (some (kI (Int.tdiv (c 559 ((16 * 24) + 2)) x4))) c))))))) ∧ (x2 = 0 → ((k64 (c 559 ((16 * 24) + 1))) ∧ ((k64 x4) ∧ ((x4 ≠ 0) ∧ (P (some (kI (Int.tdiv (c 559 ((16 * 24) + 1)) x4))) c)))))) : kW2 G S0 kM_X11_line (d + 5) 118 [some (kA 558), none, some (kI x2), none, some (kL x4), none] [] c P := by
  refine kw_aload_n dX11_line_118 rfl ?_
  refine kw_bipush dX11_line_119 (by decide) ?_
  refine kw_iload_n dX11_line_121 rfl ?_
  refine kw_if_ne 129 dX11_line_122 (by decide) (k32i (by omega)) (fun h24 => ?_) (fun h24 => ?_)
  · have H := H.1 h24
    refine kw_iload_n dX11_line_129 rfl ?_
    refine kw_iconst dX11_line_130 ?_
    refine kw_icmp_ne 138 dX11_line_131 (by decide) (k32i (by omega)) (k32i (by omega)) (fun h25 => ?_) (fun h25 => ?_)
    · have H := H.1 h25
      refine kw_iconst dX11_line_138 ?_
      refine k2_callV2L (ci := 9) (N := 38) (T := TX11) rfl (lsh_558 hL) m_X11_at dX11_line_139 wl_X11_84 (Nat.le_of_ble_eq_true rfl) (s_X11_at hL (k32i (by omega)) (k32i (by omega)) (by omega) ⟨_, rfl, ?_⟩)
      refine kw_lload dX11_line_142 rfl ?_
      have o26 := H.1
      have H := H.2
      have o27 := H.1
      have H := H.2
      have o28 := H.1
      have H := H.2
      refine kw_ldiv dX11_line_144 o26 o27 o28 ?_
      refine kw_l2i dX11_line_145 ?_
      refine k2_iret dX11_line_146 rfl H
    · have H := H.2 h25
      refine kw_iconst dX11_line_134 ?_
      refine kw_goto 139 dX11_line_135 (by decide) ?_
      refine k2_callV2L (ci := 9) (N := 38) (T := TX11) rfl (lsh_558 hL) m_X11_at dX11_line_139 wl_X11_84 (Nat.le_of_ble_eq_true rfl) (s_X11_at hL (k32i (by omega)) (k32i (by omega)) (by omega) ⟨_, rfl, ?_⟩)
      refine kw_lload dX11_line_142 rfl ?_
      have o29 := H.1
      have H := H.2
      have o30 := H.1
      have H := H.2
      have o31 := H.1
      have H := H.2
      refine kw_ldiv dX11_line_144 o29 o30 o31 ?_
      refine kw_l2i dX11_line_145 ?_
      refine k2_iret dX11_line_146 rfl H
  · have H := H.2 h24
    refine kw_iconst dX11_line_125 ?_
    refine kw_goto 139 dX11_line_126 (by decide) ?_
    refine k2_callV2L (ci := 9) (N := 38) (T := TX11) rfl (lsh_558 hL) m_X11_at dX11_line_139 wl_X11_84 (Nat.le_of_ble_eq_true rfl) (s_X11_at hL (k32i (by omega)) (k32i (by omega)) (by omega) ⟨_, rfl, ?_⟩)
    refine kw_lload dX11_line_142 rfl ?_
    have o32 := H.1
    have H := H.2
    have o33 := H.1
    have H := H.2
    have o34 := H.1
    have H := H.2
    refine kw_ldiv dX11_line_144 o32 o33 o34 ?_
    refine kw_l2i dX11_line_145 ?_
    refine k2_iret dX11_line_146 rfl H
set_option maxRecDepth 4000 in
theorem v_X11_isOnKind {G : KG} {S0 : KSh} (hL : kLay S0) {d : Nat} {P : Option AV → KMem → Prop} {c : KMem} {x1 : Int} (r1 : -2147483648 ≤ x1 ∧ x1 < 2147483648) (H : ((kObj x1) → (P (some (kI 1)) c)) ∧ (¬ (kObj x1) → (((20 ≤ x1 ∧ x1 ≤ 22) → (P (some (kI 1)) c)) ∧ (¬ (20 ≤ x1 ∧ x1 ≤ 22) → ((x1 ≠ 8 → (P (some (kI 0)) c)) ∧ (x1 = 8 → (P (some (kI 1)) c))))))) : kC2 G S0 kM_X11_isOnKind (d + 2) [kA 558, kI x1] c P := by
  refine k2_met (by decide) rfl (Nat.le_of_ble_eq_true rfl) (l0 := [some (kA 558), some (kI x1)]) rfl ?_
  refine kw_iload_n dX11_isOnKind_0 rfl ?_
  refine k2_callS1I m_X11_isObjectKind dX11_isOnKind_1 wl_X11_143 (Nat.le_of_ble_eq_true rfl) (s_X11_isObjectKind hL (k32i (by omega)) (fun h1 => ⟨_, rfl, ?_⟩) (fun h1 => ⟨_, rfl, ?_⟩))
  · have H := H.1 h1
    refine kw_if_ne 20 dX11_isOnKind_4 (by decide) (k32i (by omega)) (fun _ => ?_) (fun h2 => absurd h2 (by decide))
    refine kw_iconst dX11_isOnKind_20 ?_
    refine kw_goto 25 dX11_isOnKind_21 (by decide) ?_
    refine k2_zret dX11_isOnKind_25 rfl (Or.inr rfl) H
  · have H := H.2 h1
    refine kw_if_ne 20 dX11_isOnKind_4 (by decide) (k32i (by omega)) (fun h3 => absurd h3 (by decide)) (fun _ => ?_)
    refine kw_iload_n dX11_isOnKind_7 rfl ?_
    refine k2_callS1I m_X11_isPairKind dX11_isOnKind_8 wl_X11_340 (Nat.le_of_ble_eq_true rfl) (s_X11_isPairKind hL (k32i (by omega)) (fun h4 => ⟨_, rfl, ?_⟩) (fun h4 => ⟨_, rfl, ?_⟩))
    · have H := H.1 h4
      refine kw_if_ne 20 dX11_isOnKind_11 (by decide) (k32i (by omega)) (fun _ => ?_) (fun h5 => absurd h5 (by decide))
      refine kw_iconst dX11_isOnKind_20 ?_
      refine kw_goto 25 dX11_isOnKind_21 (by decide) ?_
      refine k2_zret dX11_isOnKind_25 rfl (Or.inr rfl) H
    · have H := H.2 h4
      refine kw_if_ne 20 dX11_isOnKind_11 (by decide) (k32i (by omega)) (fun h6 => absurd h6 (by decide)) (fun _ => ?_)
      refine kw_iload_n dX11_isOnKind_14 rfl ?_
      refine kw_bipush dX11_isOnKind_15 (by decide) ?_
      refine kw_icmp_ne 24 dX11_isOnKind_17 (by decide) (k32i (by omega)) (k32i (by omega)) (fun h7 => ?_) (fun h7 => ?_)
      · have H := H.1 h7
        refine kw_iconst dX11_isOnKind_24 ?_
        refine k2_zret dX11_isOnKind_25 rfl (Or.inl rfl) H
      · have H := H.2 h7
        refine kw_iconst dX11_isOnKind_20 ?_
        refine kw_goto 25 dX11_isOnKind_21 (by decide) ?_
        refine k2_zret dX11_isOnKind_25 rfl (Or.inr rfl) H
set_option maxRecDepth 4000 in
theorem v_X11_isWhere {G : KG} {S0 : KSh} (hL : kLay S0) {d : Nat} {P : Option AV → KMem → Prop} {c : KMem} {x0 : Int} (r0 : -2147483648 ≤ x0 ∧ x0 < 2147483648) (H : (((-99) ≤ x0 ∧ x0 ≤ 99) → (P (some (kI 1)) c)) ∧ (¬ ((-99) ≤ x0 ∧ x0 ≤ 99) → (P (some (kI 0)) c))) : kC2 G S0 kM_X11_isWhere (d + 1) [kI x0] c P := by
  refine k2_met (by decide) rfl (Nat.le_of_ble_eq_true rfl) (l0 := [some (kI x0)]) rfl ?_
  refine kw_iload_n dX11_isWhere_0 rfl ?_
  refine kw_bipush dX11_isWhere_1 (by decide) ?_
  refine kw_bipush dX11_isWhere_3 (by decide) ?_
  refine k2_callS3I m_X11_in dX11_isWhere_5 wl_X11_100 (Nat.le_of_ble_eq_true rfl) (s_X11_in hL (k32i (by omega)) (k32i (by omega)) (k32i (by omega)) (fun h1 => ⟨_, rfl, ?_⟩) (fun h1 => ⟨_, rfl, ?_⟩))
  · have H := H.1 h1
    refine k2_zret dX11_isWhere_8 rfl (Or.inr rfl) H
  · have H := H.2 h1
    refine k2_zret dX11_isWhere_8 rfl (Or.inl rfl) H
section MQ4
variable {G : KG} {S0 : KSh} {d : Nat} {P : Option AV → KMem → Prop} {c c0 : KMem} {Φ : Int → KF} {H : Int → Bool} {F : Int → KF} {f g : KF} {M : Int} {x0 x1 x2 x3 x4 : Int}
theorem kMid_ne (h : kMid (kind f)) : kObj (kind f) ∧ vecP f 4 ≠ vecP f 8 := by
  have h1 := kOne_rg f; have h2 := kOne_rg (whlP (-1) f); have h3 := kTwo_rg f
  refine ⟨by unfold kMid at h; unfold kObj; omega, ?_⟩
  unfold kMid kind at h
  unfold vecP
  by_cases q : kgr f = 8
  · rw [if_neg (by omega), if_neg (by omega), if_neg (by omega), if_neg (by omega), if_pos q] at h
    rw [if_pos q]
    intro e
    unfold kOne at h
    rw [if_pos e] at h
    split at h <;> omega
  · rw [if_neg q]
    intro e
    by_cases q2 : kgr f = 2
    · rw [if_neg (by omega), if_neg (by omega), if_pos q2] at h
      unfold kOne at h
      rw [if_pos e] at h
      split at h <;> omega
    · repeat' split at h
      all_goals omega
theorem s_X11_middle (hL : kLay S0) (r1 : k32 x1) (r2 : k32 x2) (hs : RSt H F c) (h : ∀ c', kRP c c' → P (some (kL (vMiddle H F x1 x2))) c') : kC2 G S0 kM_X11_middle (d + 5) [kA 558, kI x1, kI x2] c P := by
  obtain ⟨Φ, s0, hg, hst, hy, hn, e3, hl⟩ := hs.op
  have hP := kPl h
  refine v_X11_middle hL r1 r2 ⟨hst, fun z1 => ?_, fun z1 => hP _ _ kRP.rf (by unfold vMiddle; rw [if_neg (fun q => hn _ z1 q.1)])⟩
  have y1 := hy _ z1
  obtain ⟨a1, b1, e1, f1⟩ := hl _ y1
  have hk := kind_rg (F x1)
  refine ⟨fun z2 => ?_, fun z2 => hP _ _ kRP.rf (by unfold vMiddle; rw [if_neg (fun q => z2 q.2)])⟩
  have u : vMiddle H F x1 x2 = _ := if_pos ⟨y1, z2⟩
  rw [u] at hP
  refine t_kindOf hL hg s0 (fun c1 a b hs => ⟨_, rfl, ?_⟩)
  refine ⟨k32i (by omega), fun z => ?_, fun z => ?_⟩
  · rw [if_pos (kMidB_iff.mpr z)] at hP
    obtain ⟨ho, hne⟩ := kMid_ne z
    refine t_laysVector hL hg hs ho (fun c2 hs => ⟨rfl, ?_⟩)
    refine t_findsMiddle hL hs hne (fun c3 hs => ⟨rfl, ?_⟩)
    have hrp : kRP c c3 := s0.rp hs kFr.rf.md (by intro s p q; repeat (first | exact rfl | refine kUn (by omega) ?_ | exact hk s p q))
    unfold mdN at hP
    refine ⟨fun w0 => ⟨fun w1 => ⟨fun w2 => ⟨fun w3 => ?_, fun w3 => ?_⟩, fun w2 => ?_⟩, fun w1 => ?_⟩, fun w0 => ?_⟩
    · rw [if_neg w0, if_neg w1, if_neg w2, if_neg w3] at hP
      exact hP _ _ hrp ((hs.2 558 35 (by decide) (by decide)).trans kMd_35)
    · rw [if_neg w0, if_neg w1, if_neg w2, if_pos w3] at hP
      exact hP _ _ hrp ((hs.2 558 34 (by decide) (by decide)).trans kMd_34)
    · rw [if_neg w0, if_neg w1, if_pos w2] at hP
      exact hP _ _ hrp ((hs.2 558 33 (by decide) (by decide)).trans kMd_33)
    · rw [if_neg w0, if_pos w1] at hP
      exact hP _ _ hrp ((hs.2 558 32 (by decide) (by decide)).trans kMd_32)
    · rw [if_pos w0] at hP
      exact hP _ _ hrp ((hs.2 558 31 (by decide) (by decide)).trans kMd_31)
  · rw [if_neg (fun q => z (kMidB_iff.mp q))] at hP
    exact hP _ _ (s0.rp hs kFr.rf (by intro s p q; repeat (first | exact rfl | refine kUn (by omega) ?_ | exact hk s p q))) rfl
theorem s_X11_isOnKind (hL : kLay S0) (r1 : k32 x1) (h1 : kBear x1 → P (some (kI 1)) c) (h0 : ¬ kBear x1 → P (some (kI 0)) c) : kC2 G S0 kM_X11_isOnKind (d + 2) [kA 558, kI x1] c P := by
  unfold kBear at h1 h0
  refine v_X11_isOnKind hL r1 ⟨fun a => h1 (Or.inl a), fun a => ⟨fun b => h1 (Or.inr (Or.inl b)), fun b => ⟨fun e => h0 (fun q => ?_), fun e => h1 (Or.inr (Or.inr e))⟩⟩⟩
  rcases q with q | q | q
  · exact a q
  · exact b q
  · exact e q
theorem s_X11_isWhere (hL : kLay S0) (r0 : k32 x0) (h1 : (-99 ≤ x0 ∧ x0 ≤ 99) → P (some (kI 1)) c) (h0 : ¬ (-99 ≤ x0 ∧ x0 ≤ 99) → P (some (kI 0)) c) : kC2 G S0 kM_X11_isWhere (d + 1) [kI x0] c P := v_X11_isWhere hL r0 ⟨h1, h0⟩
theorem kLin_ne (h : kind f = 6 ∨ kind f = 16) : kObj (kind f) ∧ (vecP f 1 ≠ 0 ∨ vecP f 2 ≠ 0) := by
  have h1 := kOne_rg f; have h2 := kOne_rg (whlP (-1) f); have h3 := kTwo_rg f
  refine ⟨by unfold kObj; omega, ?_⟩
  unfold kind at h
  unfold vecP
  by_cases q : kgr f = 8
  · rw [if_neg (by omega), if_neg (by omega), if_neg (by omega), if_neg (by omega), if_pos q] at h
    rw [if_pos q]
    have h6 : kOne (whlP (-1) f) = 6 := by omega
    unfold kOne at h6
    split at h6
    · split at h6
      · assumption
      · omega
    · split at h6
      · omega
      · split at h6 <;> omega
  · rw [if_neg q]
    by_cases q2 : kgr f = 2
    · rw [if_neg (by omega), if_neg (by omega), if_pos q2] at h
      have h6 : kOne f = 6 := by omega
      unfold kOne at h6
      split at h6
      · split at h6
        · assumption
        · omega
      · split at h6
        · omega
        · split at h6 <;> omega
    · repeat' split at h
      all_goals omega
theorem s_X11_line (hL : kLay S0) (r1 : k32 x1) (r2 : k32 x2) (hs : RSt H F c) (h : ∀ c', kRP c c' → P (some (kI (vLine H F x1 x2))) c') : kC2 G S0 kM_X11_line (d + 5) [kA 558, kI x1, kI x2] c P := by
  obtain ⟨Φ, s0, hg, hst, hy, hn, e3, hl⟩ := hs.op
  have hP := kPi h
  unfold vLine at hP
  refine v_X11_line hL r1 r2 ⟨hst, fun z1 => ?_, fun z1 => hP _ _ kRP.rf (by rw [if_neg (fun q => hn _ z1 q.1.1)])⟩
  have y1 := hy _ z1
  obtain ⟨a1, b1, e1, f1⟩ := hl _ y1
  have hk := kind_rg (F x1)
  refine ⟨fun z2 => ?_, fun z2 => hP _ _ kRP.rf (by rw [if_neg (fun q => z2 q.1.2)])⟩
  refine t_kindOf hL hg s0 (fun c1 a b hs => ⟨_, rfl, ?_⟩)
  have main : (kind (F x1) = 6 ∨ kind (F x1) = 16) → kW2 G S0 kM_X11_line (d + 5) 41 [some (kA 558), some (kI x1), some (kI x2), none, none, none] [] c1 P := by
    intro z
    rw [if_pos ⟨⟨y1, z2⟩, z⟩] at hP
    obtain ⟨ho, hne⟩ := kLin_ne z
    refine v_X11_line_41 hL (by omega) (by omega) (by omega) ?_
    refine t_laysVector hL hg hs ho (fun c2 hs => ⟨rfl, ?_⟩)
    have bv := vecP_bd f1
    have E := hs.e (s := 24) (by omega) kUs
    have E1 : c2 559 (16 * 24 + 1) = vecP (F x1) 1 := E 1 (by omega) (by omega)
    have E2 : c2 559 (16 * 24 + 2) = vecP (F x1) 2 := E 2 (by omega) (by omega)
    have E4 : c2 559 (16 * 24 + 4) = vecP (F x1) 4 := E 4 (by omega) (by omega)
    have v1 : -100000000 ≤ vecP (F x1) 1 ∧ vecP (F x1) 1 ≤ 100000000 := bv 1 (by omega) (by omega)
    have v2 : -100000000 ≤ vecP (F x1) 2 ∧ vecP (F x1) 2 ≤ 100000000 := bv 2 (by omega) (by omega)
    have v4 : -100000000 ≤ vecP (F x1) 4 ∧ vecP (F x1) 4 ≤ 100000000 := bv 4 (by omega) (by omega)
    have hgg : Int.gcd (vecP (F x1) 1) (vecP (F x1) 2) ≤ 100000000 := kgcd_le (by omega) (by omega)
    have hg0 : Int.gcd (vecP (F x1) 1) (vecP (F x1) 2) ≠ 0 := fun q => by have := Int.gcd_eq_zero_iff.mp q; omega
    have hgk : Int.gcd (Int.gcd (vecP (F x1) 1) (vecP (F x1) 2) : Int) (vecP (F x1) 4) ≤ 100000000 := kgcd_le (by omega) (by omega)
    have hk0 : Int.gcd (Int.gcd (vecP (F x1) 1) (vecP (F x1) 2) : Int) (vecP (F x1) 4) ≠ 0 := fun q => by have := (Int.gcd_eq_zero_iff.mp q).1; omega
    have fin : ∀ x : Int, x = lnG (vecP (F x1)) → k64 x → x ≠ 0 → kW2 G S0 kM_X11_line (d + 5) 118 [some (kA 558), none, some (kI x2), none, some (kL x), none] [] c2 P := by
      intro x ex x64 x0
      refine v_X11_line_118 hL (by omega) ?_
      rw [E1, E2, E4]
      have hrp : kRP c c2 := s0.rp hs kFr.rf (by intro s p q; repeat (first | exact rfl | refine kUn (by omega) ?_ | exact hk s p q))
      unfold lnN at hP
      refine ⟨fun w0 => ⟨fun w1 => ?_, fun w1 => ?_⟩, fun w0 => ?_⟩
      · rw [if_neg w0, if_neg w1, ← ex] at hP
        exact ⟨k64i (by omega), x64, x0, hP _ _ hrp rfl⟩
      · rw [if_neg (by omega), if_pos w1, ← ex] at hP
        exact ⟨k64i (by omega), x64, x0, hP _ _ hrp rfl⟩
      · rw [if_pos w0, ← ex] at hP
        exact ⟨k64i (by omega), x64, x0, hP _ _ hrp rfl⟩
    refine s_X11_gcd hL (by rw [E1]; unfold k63; omega) (by rw [E2]; unfold k63; omega) ⟨_, rfl, ?_⟩
    dsimp only
    rw [E1, E2, E4]
    refine s_X11_gcd hL (by unfold k63; omega) (by unfold k63; omega) ⟨_, rfl, ?_⟩
    dsimp only
    rw [E1, E2]
    refine ⟨k64i (by omega), fun w => fin _ (by unfold lnG; rw [if_pos (by omega)]) (k64i (by omega)) (by omega), fun w => ⟨fun w2 => fin _ (by unfold lnG; rw [if_neg (by omega)]) (k64i (by omega)) (by omega), fun w2 => ⟨k64i (by omega), fun w3 => fin _ (by unfold lnG; rw [if_neg (by omega)]) (k64i (by omega)) (by omega), fun w3 => fin _ (by unfold lnG; rw [if_pos (by omega)]) (k64i (by omega)) (by omega)⟩⟩⟩
  refine ⟨k32i (by omega), fun z => main (Or.inl z), fun z => ⟨fun z3 => main (Or.inr z3), fun z3 => ?_⟩⟩
  rw [if_neg (fun q => by omega)] at hP
  exact hP _ _ (s0.rp hs kFr.rf (by intro s p q; repeat (first | exact rfl | refine kUn (by omega) ?_ | exact hk s p q))) rfl
end MQ4
/-- whether a PLACE lies on a FORM that can bear it -/
def kOn (f : KF) (u v : Int) : Bool := if kObjB (kind f) = true then mulP 2 (plcP u v) (vecP f) 0 == 0 else kZb (mulP 1 (plcP u v) f)
def vOn (H : Int → Bool) (F : Int → KF) (l u v : Int) : Int := if H l = true ∧ (-99 ≤ u ∧ u ≤ 99) ∧ (-99 ≤ v ∧ v ≤ 99) then (if kBearB (kind (F l)) = true then (if kOn (F l) u v = true then 1 else 0) else -3) else -1
def vRow (H : Int → Bool) (F : Int → KF) (l v : Int) : Int := if H l = true ∧ (-99 ≤ v ∧ v ≤ 99) then (if kBearB (kind (F l)) = true then (kBits (fun k => kOn (F l) ((k : Int) - 15) v) 31 : Int) else -3) else -1
/-- how many places of the field a vector bears -/
def kpl (A : KF) (u v : Int) : Int := 2 * u * A 1 + 2 * v * A 2 + (u * u + v * v - 1) * A 4 - (u * u + v * v + 1) * A 8
def kCn (p : Nat → Bool) : Nat → Nat
  | 0 => 0
  | n + 1 => if p n = true then kCn p n + 1 else kCn p n
theorem kCn_le (p : Nat → Bool) : ∀ n, kCn p n ≤ n
  | 0 => Nat.le_refl 0
  | n + 1 => by have := kCn_le p n; show (if p n = true then kCn p n + 1 else kCn p n) ≤ n + 1; split <;> omega
def kCm (p : Nat → Nat → Bool) (m : Nat) : Nat → Nat
  | 0 => 0
  | n + 1 => kCm p m n + kCn (p n) m
theorem kCm_le (p : Nat → Nat → Bool) (m : Nat) : ∀ n, kCm p m n ≤ n * m
  | 0 => Nat.zero_le _
  | n + 1 => by have := kCm_le p m n; have h2 := kCn_le (p n) m; show kCm p m n + kCn (p n) m ≤ (n + 1) * m; rw [Nat.succ_mul]; omega
def vWhole (H : Int → Bool) (F : Int → KF) (l : Int) : Int := if H l = true then (if kObjB (kind (F l)) = true then (kCm (fun i j => kpl (vecP (F l)) ((i : Int) - 99) ((j : Int) - 99) == 0) 199 199 : Int) else -3) else -1
set_option maxRecDepth 4000 in
theorem v_X11_liesOn {G : KG} {S0 : KSh} (hL : kLay S0) {d : Nat} {P : Option AV → KMem → Prop} {c : KMem} {x1 x2 x3 x4 : Int} (r1 : -2147483648 ≤ x1 ∧ x1 < 2147483648) (r2 : -2147483648 ≤ x2 ∧ x2 < 2147483648) (r3 : -2147483648 ≤ x3 ∧ x3 < 2147483648) (r4 : -2147483648 ≤ x4 ∧ x4 < 2147483648) (H : kC2 G S0 kM_X11_laysPlace (d + 2) [kA 558, kI 25, kL x3, kL x4] c (kRN (fun c2 => (x2 = 0 → (kC2 G S0 kM_X11_joins (d + 2) [kA 558, kI 1, kI 25, kI x1, kI 31] c2 (kRN (fun c5 => kC2 G S0 kM_X11_isNothing (d + 2) [kA 558, kI 31] c5 (kRI (fun z6 c7 => (z6 = 0 ∨ z6 = 1) ∧ (P (some (kI z6)) c7))))))) ∧ (x2 ≠ 0 → (kC2 G S0 kM_X11_innerOf (d + 2) [kA 558, kI 25, kI 24] c2 (kRL (fun z9 c10 => (k64 z9) ∧ ((z9 ≠ 0 → (P (some (kI 0)) c10)) ∧ (z9 = 0 → (P (some (kI 1)) c10)))))))))) : kC2 G S0 kM_X11_liesOn (d + 3) [kA 558, kI x1, kI x2, kI x3, kI x4] c P := by
  refine k2_met (by decide) rfl (Nat.le_of_ble_eq_true rfl) (l0 := [some (kA 558), some (kI x1), some (kI x2), some (kI x3), some (kI x4)]) rfl ?_
  refine kw_aload_n dX11_liesOn_0 rfl ?_
  refine kw_bipush dX11_liesOn_1 (by decide) ?_
  refine kw_iload_n dX11_liesOn_3 rfl ?_
  refine kw_i2l dX11_liesOn_4 (k32i (by omega)) ?_
  refine kw_iload dX11_liesOn_5 rfl ?_
  refine kw_i2l dX11_liesOn_7 (k32i (by omega)) ?_
  refine k2_callV3N (ci := 9) (N := 38) (T := TX11) rfl (lsh_558 hL) m_X11_laysPlace dX11_liesOn_8 wl_X11_232 (Nat.le_of_ble_eq_true rfl) (kC2_mono H (fun r c2 H => ?_))
  obtain ⟨rfl, H⟩ := H
  refine ⟨rfl, ?_⟩
  refine kw_iload_n dX11_liesOn_11 rfl ?_
  refine kw_if_eq 34 dX11_liesOn_12 (by decide) (k32i (by omega)) (fun h3 => ?_) (fun h3 => ?_)
  · have H := H.1 h3
    refine kw_aload_n dX11_liesOn_34 rfl ?_
    refine kw_iconst dX11_liesOn_35 ?_
    refine kw_bipush dX11_liesOn_36 (by decide) ?_
    refine kw_iload_n dX11_liesOn_38 rfl ?_
    refine kw_bipush dX11_liesOn_39 (by decide) ?_
    refine k2_callV4N (ci := 9) (N := 38) (T := TX11) rfl (lsh_558 hL) m_X11_joins dX11_liesOn_41 wl_X11_111 (Nat.le_of_ble_eq_true rfl) (kC2_mono H (fun r c5 H => ?_))
    obtain ⟨rfl, H⟩ := H
    refine ⟨rfl, ?_⟩
    refine kw_aload_n dX11_liesOn_44 rfl ?_
    refine kw_bipush dX11_liesOn_45 (by decide) ?_
    refine k2_callV1I (ci := 9) (N := 38) (T := TX11) rfl (lsh_558 hL) m_X11_isNothing dX11_liesOn_47 wl_X11_115 (Nat.le_of_ble_eq_true rfl) (kC2_mono H (fun r c7 H => ?_))
    obtain ⟨z6, rfl, H⟩ := H
    refine ⟨z6, rfl, ?_⟩
    have o8 := H.1
    have H := H.2
    refine k2_zret dX11_liesOn_50 rfl o8 H
  · have H := H.2 h3
    refine kw_aload_n dX11_liesOn_15 rfl ?_
    refine kw_bipush dX11_liesOn_16 (by decide) ?_
    refine kw_bipush dX11_liesOn_18 (by decide) ?_
    refine k2_callV2L (ci := 9) (N := 38) (T := TX11) rfl (lsh_558 hL) m_X11_innerOf dX11_liesOn_20 wl_X11_343 (Nat.le_of_ble_eq_true rfl) (kC2_mono H (fun r c10 H => ?_))
    obtain ⟨z9, rfl, H⟩ := H
    refine ⟨z9, rfl, ?_⟩
    refine kw_lconst0 dX11_liesOn_23 ?_
    have o11 := H.1
    have H := H.2
    refine kw_lcmp_ne 32 dX11_liesOn_24 dX11_liesOn_25 (by decide) o11 (k64i (by omega)) (fun h12 => ?_) (fun h12 => ?_)
    · have H := H.1 h12
      refine kw_iconst dX11_liesOn_32 ?_
      refine k2_zret dX11_liesOn_33 rfl (Or.inl rfl) H
    · have H := H.2 h12
      refine kw_iconst dX11_liesOn_28 ?_
      refine kw_goto 33 dX11_liesOn_29 (by decide) ?_
      refine k2_zret dX11_liesOn_33 rfl (Or.inr rfl) H
set_option maxRecDepth 4000 in
theorem v_X11_on {G : KG} {S0 : KSh} (hL : kLay S0) {d : Nat} {P : Option AV → KMem → Prop} {c : KMem} {x1 x2 x3 : Int} (r1 : -2147483648 ≤ x1 ∧ x1 < 2147483648) (r2 : -2147483648 ≤ x2 ∧ x2 < 2147483648) (r3 : -2147483648 ≤ x3 ∧ x3 < 2147483648) (H : (kStd c) ∧ (((kHas c x1) → (((-99 ≤ x2 ∧ x2 ≤ 99) → (((-99 ≤ x3 ∧ x3 ≤ 99) → (kC2 G S0 kM_X11_kindOf (d + 4) [kA 558, kI x1] c (kRI (fun z8 c9 => (k32 z8) ∧ (((kBear z8) → (((kObj z8) → (kC2 G S0 kM_X11_laysVector (d + 4) [kA 558, kI x1, kI 24] c9 (kRN (fun c16 => kW2 G S0 kM_X11_on (d + 5) 58 [some (kA 558), some (kI x1), some (kI x2), some (kI x3), some (kI z8)] [] c16 P)))) ∧ (¬ (kObj z8) → (kW2 G S0 kM_X11_on (d + 5) 58 [some (kA 558), some (kI x1), some (kI x2), some (kI x3), some (kI z8)] [] c9 P)))) ∧ (¬ (kBear z8) → (P (some (kI (-3))) c9))))))) ∧ (¬ (-99 ≤ x3 ∧ x3 ≤ 99) → (P (some (kI (-1))) c)))) ∧ (¬ (-99 ≤ x2 ∧ x2 ≤ 99) → (P (some (kI (-1))) c)))) ∧ (¬ (kHas c x1) → (P (some (kI (-1))) c)))) : kC2 G S0 kM_X11_on (d + 5) [kA 558, kI x1, kI x2, kI x3] c P := by
  refine k2_met (by decide) rfl (Nat.le_of_ble_eq_true rfl) (l0 := [some (kA 558), some (kI x1), some (kI x2), some (kI x3), none]) rfl ?_
  refine kw_aload_n dX11_on_0 rfl ?_
  refine kw_iload_n dX11_on_1 rfl ?_
  have o1 := H.1
  have H := H.2
  refine k2_callV1I (ci := 9) (N := 38) (T := TX11) rfl (lsh_558 hL) m_X11_isLetter dX11_on_2 wl_X11_161 (Nat.le_of_ble_eq_true rfl) (s_X11_isLetter hL (k32i (by omega)) o1 (fun h2 => ⟨_, rfl, ?_⟩) (fun h2 => ⟨_, rfl, ?_⟩))
  · have H := H.1 h2
    refine kw_if_eq 22 dX11_on_5 (by decide) (k32i (by omega)) (fun h3 => absurd h3 (by decide)) (fun _ => ?_)
    refine kw_iload_n dX11_on_8 rfl ?_
    refine k2_callS1I m_X11_isWhere dX11_on_9 wl_X11_346 (Nat.le_of_ble_eq_true rfl) (s_X11_isWhere hL (k32i (by omega)) (fun h4 => ⟨_, rfl, ?_⟩) (fun h4 => ⟨_, rfl, ?_⟩))
    · have H := H.1 h4
      refine kw_if_eq 22 dX11_on_12 (by decide) (k32i (by omega)) (fun h5 => absurd h5 (by decide)) (fun _ => ?_)
      refine kw_iload_n dX11_on_15 rfl ?_
      refine k2_callS1I m_X11_isWhere dX11_on_16 wl_X11_346 (Nat.le_of_ble_eq_true rfl) (s_X11_isWhere hL (k32i (by omega)) (fun h6 => ⟨_, rfl, ?_⟩) (fun h6 => ⟨_, rfl, ?_⟩))
      · have H := H.1 h6
        refine kw_if_ne 24 dX11_on_19 (by decide) (k32i (by omega)) (fun _ => ?_) (fun h7 => absurd h7 (by decide))
        refine kw_aload_n dX11_on_24 rfl ?_
        refine kw_iload_n dX11_on_25 rfl ?_
        refine k2_callV1I (ci := 9) (N := 38) (T := TX11) rfl (lsh_558 hL) m_X11_kindOf dX11_on_26 wl_X11_140 (Nat.le_of_ble_eq_true rfl) (kC2_mono H (fun r c9 H => ?_))
        obtain ⟨z8, rfl, H⟩ := H
        refine ⟨z8, rfl, ?_⟩
        refine kw_istore dX11_on_29 (Nat.le_of_ble_eq_true rfl) ?_
        refine kw_aload_n dX11_on_31 rfl ?_
        refine kw_iload dX11_on_32 rfl ?_
        have o10 := H.1
        have H := H.2
        refine k2_callV1I (ci := 9) (N := 38) (T := TX11) rfl (lsh_558 hL) m_X11_isOnKind dX11_on_34 wl_X11_349 (Nat.le_of_ble_eq_true rfl) (s_X11_isOnKind hL o10 (fun h11 => ⟨_, rfl, ?_⟩) (fun h11 => ⟨_, rfl, ?_⟩))
        · have H := H.1 h11
          refine kw_if_ne 43 dX11_on_37 (by decide) (k32i (by omega)) (fun _ => ?_) (fun h12 => absurd h12 (by decide))
          refine kw_iload dX11_on_43 rfl ?_
          refine k2_callS1I m_X11_isObjectKind dX11_on_45 wl_X11_143 (Nat.le_of_ble_eq_true rfl) (s_X11_isObjectKind hL o10 (fun h13 => ⟨_, rfl, ?_⟩) (fun h13 => ⟨_, rfl, ?_⟩))
          · have H := H.1 h13
            refine kw_if_eq 58 dX11_on_48 (by decide) (k32i (by omega)) (fun h14 => absurd h14 (by decide)) (fun _ => ?_)
            refine kw_aload_n dX11_on_51 rfl ?_
            refine kw_iload_n dX11_on_52 rfl ?_
            refine kw_bipush dX11_on_53 (by decide) ?_
            refine k2_callV2N (ci := 9) (N := 38) (T := TX11) rfl (lsh_558 hL) m_X11_laysVector dX11_on_55 wl_X11_334 (Nat.le_of_ble_eq_true rfl) (kC2_mono H (fun r c16 H => ?_))
            obtain ⟨rfl, H⟩ := H
            refine ⟨rfl, ?_⟩
            exact kw_forget (ls' := [some (kA 558), some (kI x1), some (kI x2), some (kI x3), some (kI z8)]) ⟨Or.inr rfl, ⟨Or.inr rfl, ⟨Or.inr rfl, ⟨Or.inr rfl, ⟨Or.inr rfl, trivial⟩⟩⟩⟩⟩ H
          · have H := H.2 h13
            refine kw_if_eq 58 dX11_on_48 (by decide) (k32i (by omega)) (fun _ => ?_) (fun h17 => absurd h17 (by decide))
            exact kw_forget (ls' := [some (kA 558), some (kI x1), some (kI x2), some (kI x3), some (kI z8)]) ⟨Or.inr rfl, ⟨Or.inr rfl, ⟨Or.inr rfl, ⟨Or.inr rfl, ⟨Or.inr rfl, trivial⟩⟩⟩⟩⟩ H
        · have H := H.2 h11
          refine kw_if_ne 43 dX11_on_37 (by decide) (k32i (by omega)) (fun h18 => absurd h18 (by decide)) (fun _ => ?_)
          refine kw_bipush dX11_on_40 (by decide) ?_
          refine k2_iret dX11_on_42 rfl H
      · have H := H.2 h6
        refine kw_if_ne 24 dX11_on_19 (by decide) (k32i (by omega)) (fun h19 => absurd h19 (by decide)) (fun _ => ?_)
        refine kw_iconst dX11_on_22 ?_
        refine k2_iret dX11_on_23 rfl H
    · have H := H.2 h4
      refine kw_if_eq 22 dX11_on_12 (by decide) (k32i (by omega)) (fun _ => ?_) (fun h20 => absurd h20 (by decide))
      refine kw_iconst dX11_on_22 ?_
      refine k2_iret dX11_on_23 rfl H
  · have H := H.2 h2
    refine kw_if_eq 22 dX11_on_5 (by decide) (k32i (by omega)) (fun _ => ?_) (fun h21 => absurd h21 (by decide))
    refine kw_iconst dX11_on_22 ?_
    refine k2_iret dX11_on_23 rfl H
set_option maxRecDepth 4000 in
theorem v_X11_on_58 {G : KG} {S0 : KSh} (hL : kLay S0) {d : Nat} {P : Option AV → KMem → Prop} {c : KMem} {x1 x2 x3 x4 : Int} (r1 : -2147483648 ≤ x1 ∧ x1 < 2147483648) (r2 : -2147483648 ≤ x2 ∧ x2 < 2147483648) (r3 : -2147483648 ≤ x3 ∧ x3 < 2147483648) (r4 : -2147483648 ≤ x4 ∧ x4 < 2147483648) (H : ((kObj x4) → (kC2 G S0 kM_X11_liesOn (d + 4) [kA 558, kI x1, kI 1, kI x2, kI x3] c (kRI (fun z23 c24 => (k32 z23) ∧ ((z23 = 0 → (P (some (kI 0)) c24)) ∧ (z23 ≠ 0 → (P (some (kI 1)) c24))))))) ∧ (¬ (kObj x4) → (kC2 G S0 kM_X11_liesOn (d + 4) [kA 558, kI x1, kI 0, kI x2, kI x3] c (kRI (fun z27 c28 => (k32 z27) ∧ ((z27 = 0 → (P (some (kI 0)) c28)) ∧ (z27 ≠ 0 → (P (some (kI 1)) c28)))))))) : kW2 G S0 kM_X11_on (d + 5) 58 [some (kA 558), some (kI x1), some (kI x2), some (kI x3), some (kI x4)] [] c P := by
  refine kw_aload_n dX11_on_58 rfl ?_
  refine kw_iload_n dX11_on_59 rfl ?_
  refine kw_iload dX11_on_60 rfl ?_
  refine k2_callS1I m_X11_isObjectKind dX11_on_62 wl_X11_143 (Nat.le_of_ble_eq_true rfl) (s_X11_isObjectKind hL (k32i (by omega)) (fun h22 => ⟨_, rfl, ?_⟩) (fun h22 => ⟨_, rfl, ?_⟩))
  · have H := H.1 h22
    refine kw_iload_n dX11_on_65 rfl ?_
    refine kw_iload_n dX11_on_66 rfl ?_
    refine k2_callV4I (ci := 9) (N := 38) (T := TX11) rfl (lsh_558 hL) m_X11_liesOn dX11_on_67 wl_X11_352 (Nat.le_of_ble_eq_true rfl) (kC2_mono H (fun r c24 H => ?_))
    obtain ⟨z23, rfl, H⟩ := H
    refine ⟨z23, rfl, ?_⟩
    have o26 := H.1
    have H := H.2
    refine kw_if_eq 77 dX11_on_70 (by decide) o26 (fun h25 => ?_) (fun h25 => ?_)
    · have H := H.1 h25
      refine kw_iconst dX11_on_77 ?_
      refine k2_iret dX11_on_78 rfl H
    · have H := H.2 h25
      refine kw_iconst dX11_on_73 ?_
      refine kw_goto 78 dX11_on_74 (by decide) ?_
      refine k2_iret dX11_on_78 rfl H
  · have H := H.2 h22
    refine kw_iload_n dX11_on_65 rfl ?_
    refine kw_iload_n dX11_on_66 rfl ?_
    refine k2_callV4I (ci := 9) (N := 38) (T := TX11) rfl (lsh_558 hL) m_X11_liesOn dX11_on_67 wl_X11_352 (Nat.le_of_ble_eq_true rfl) (kC2_mono H (fun r c28 H => ?_))
    obtain ⟨z27, rfl, H⟩ := H
    refine ⟨z27, rfl, ?_⟩
    have o30 := H.1
    have H := H.2
    refine kw_if_eq 77 dX11_on_70 (by decide) o30 (fun h29 => ?_) (fun h29 => ?_)
    · have H := H.1 h29
      refine kw_iconst dX11_on_77 ?_
      refine k2_iret dX11_on_78 rfl H
    · have H := H.2 h29
      refine kw_iconst dX11_on_73 ?_
      refine kw_goto 78 dX11_on_74 (by decide) ?_
      refine k2_iret dX11_on_78 rfl H
set_option maxRecDepth 4000 in
theorem v_X11_row {G : KG} {S0 : KSh} (hL : kLay S0) {d : Nat} {P : Option AV → KMem → Prop} {c : KMem} {x1 x2 : Int} (r1 : -2147483648 ≤ x1 ∧ x1 < 2147483648) (r2 : -2147483648 ≤ x2 ∧ x2 < 2147483648) (H : (kStd c) ∧ (((kHas c x1) → (((-99 ≤ x2 ∧ x2 ≤ 99) → (kC2 G S0 kM_X11_kindOf (d + 4) [kA 558, kI x1] c (kRI (fun z6 c7 => (k32 z6) ∧ (((kBear z6) → (((kObj z6) → (kC2 G S0 kM_X11_laysVector (d + 4) [kA 558, kI x1, kI 24] c7 (kRN (fun c14 => kW2 G S0 kM_X11_row (d + 5) 48 [some (kA 558), some (kI x1), some (kI x2), some (kI z6), none, none] [] c14 P)))) ∧ (¬ (kObj z6) → (kW2 G S0 kM_X11_row (d + 5) 48 [some (kA 558), some (kI x1), some (kI x2), some (kI z6), none, none] [] c7 P)))) ∧ (¬ (kBear z6) → (P (some (kI (-3))) c7))))))) ∧ (¬ (-99 ≤ x2 ∧ x2 ≤ 99) → (P (some (kI (-1))) c)))) ∧ (¬ (kHas c x1) → (P (some (kI (-1))) c)))) : kC2 G S0 kM_X11_row (d + 5) [kA 558, kI x1, kI x2] c P := by
  refine k2_met (by decide) rfl (Nat.le_of_ble_eq_true rfl) (l0 := [some (kA 558), some (kI x1), some (kI x2), none, none, none]) rfl ?_
  refine kw_aload_n dX11_row_0 rfl ?_
  refine kw_iload_n dX11_row_1 rfl ?_
  have o1 := H.1
  have H := H.2
  refine k2_callV1I (ci := 9) (N := 38) (T := TX11) rfl (lsh_558 hL) m_X11_isLetter dX11_row_2 wl_X11_161 (Nat.le_of_ble_eq_true rfl) (s_X11_isLetter hL (k32i (by omega)) o1 (fun h2 => ⟨_, rfl, ?_⟩) (fun h2 => ⟨_, rfl, ?_⟩))
  · have H := H.1 h2
    refine kw_if_eq 15 dX11_row_5 (by decide) (k32i (by omega)) (fun h3 => absurd h3 (by decide)) (fun _ => ?_)
    refine kw_iload_n dX11_row_8 rfl ?_
    refine k2_callS1I m_X11_isWhere dX11_row_9 wl_X11_346 (Nat.le_of_ble_eq_true rfl) (s_X11_isWhere hL (k32i (by omega)) (fun h4 => ⟨_, rfl, ?_⟩) (fun h4 => ⟨_, rfl, ?_⟩))
    · have H := H.1 h4
      refine kw_if_ne 17 dX11_row_12 (by decide) (k32i (by omega)) (fun _ => ?_) (fun h5 => absurd h5 (by decide))
      refine kw_aload_n dX11_row_17 rfl ?_
      refine kw_iload_n dX11_row_18 rfl ?_
      refine k2_callV1I (ci := 9) (N := 38) (T := TX11) rfl (lsh_558 hL) m_X11_kindOf dX11_row_19 wl_X11_140 (Nat.le_of_ble_eq_true rfl) (kC2_mono H (fun r c7 H => ?_))
      obtain ⟨z6, rfl, H⟩ := H
      refine ⟨z6, rfl, ?_⟩
      refine kw_istore_n dX11_row_22 (Nat.le_of_ble_eq_true rfl) ?_
      refine kw_aload_n dX11_row_23 rfl ?_
      refine kw_iload_n dX11_row_24 rfl ?_
      have o8 := H.1
      have H := H.2
      refine k2_callV1I (ci := 9) (N := 38) (T := TX11) rfl (lsh_558 hL) m_X11_isOnKind dX11_row_25 wl_X11_349 (Nat.le_of_ble_eq_true rfl) (s_X11_isOnKind hL o8 (fun h9 => ⟨_, rfl, ?_⟩) (fun h9 => ⟨_, rfl, ?_⟩))
      · have H := H.1 h9
        refine kw_if_ne 34 dX11_row_28 (by decide) (k32i (by omega)) (fun _ => ?_) (fun h10 => absurd h10 (by decide))
        refine kw_iload_n dX11_row_34 rfl ?_
        refine k2_callS1I m_X11_isObjectKind dX11_row_35 wl_X11_143 (Nat.le_of_ble_eq_true rfl) (s_X11_isObjectKind hL o8 (fun h11 => ⟨_, rfl, ?_⟩) (fun h11 => ⟨_, rfl, ?_⟩))
        · have H := H.1 h11
          refine kw_if_eq 48 dX11_row_38 (by decide) (k32i (by omega)) (fun h12 => absurd h12 (by decide)) (fun _ => ?_)
          refine kw_aload_n dX11_row_41 rfl ?_
          refine kw_iload_n dX11_row_42 rfl ?_
          refine kw_bipush dX11_row_43 (by decide) ?_
          refine k2_callV2N (ci := 9) (N := 38) (T := TX11) rfl (lsh_558 hL) m_X11_laysVector dX11_row_45 wl_X11_334 (Nat.le_of_ble_eq_true rfl) (kC2_mono H (fun r c14 H => ?_))
          obtain ⟨rfl, H⟩ := H
          refine ⟨rfl, ?_⟩
          exact kw_forget (ls' := [some (kA 558), some (kI x1), some (kI x2), some (kI z6), none, none]) ⟨Or.inr rfl, ⟨Or.inr rfl, ⟨Or.inr rfl, ⟨Or.inr rfl, ⟨Or.inr rfl, ⟨Or.inr rfl, trivial⟩⟩⟩⟩⟩⟩ H
        · have H := H.2 h11
          refine kw_if_eq 48 dX11_row_38 (by decide) (k32i (by omega)) (fun _ => ?_) (fun h15 => absurd h15 (by decide))
          exact kw_forget (ls' := [some (kA 558), some (kI x1), some (kI x2), some (kI z6), none, none]) ⟨Or.inr rfl, ⟨Or.inr rfl, ⟨Or.inr rfl, ⟨Or.inr rfl, ⟨Or.inr rfl, ⟨Or.inr rfl, trivial⟩⟩⟩⟩⟩⟩ H
      · have H := H.2 h9
        refine kw_if_ne 34 dX11_row_28 (by decide) (k32i (by omega)) (fun h16 => absurd h16 (by decide)) (fun _ => ?_)
        refine kw_bipush dX11_row_31 (by decide) ?_
        refine k2_iret dX11_row_33 rfl H
    · have H := H.2 h4
      refine kw_if_ne 17 dX11_row_12 (by decide) (k32i (by omega)) (fun h17 => absurd h17 (by decide)) (fun _ => ?_)
      refine kw_iconst dX11_row_15 ?_
      refine k2_iret dX11_row_16 rfl H
  · have H := H.2 h2
    refine kw_if_eq 15 dX11_row_5 (by decide) (k32i (by omega)) (fun _ => ?_) (fun h18 => absurd h18 (by decide))
    refine kw_iconst dX11_row_15 ?_
    refine k2_iret dX11_row_16 rfl H
set_option maxRecDepth 4000 in
theorem v_X11_row_48 {G : KG} {S0 : KSh} (hL : kLay S0) {d : Nat} {P : Option AV → KMem → Prop} {c : KMem} {x1 x2 x3 : Int} (r1 : -2147483648 ≤ x1 ∧ x1 < 2147483648) (r2 : -2147483648 ≤ x2 ∧ x2 < 2147483648) (r3 : -2147483648 ≤ x3 ∧ x3 < 2147483648) (H : kW2 G S0 kM_X11_row (d + 5) 55 [some (kA 558), some (kI x1), some (kI x2), some (kI x3), some (kI 0), some (kI (-15))] [] c P) : kW2 G S0 kM_X11_row (d + 5) 48 [some (kA 558), some (kI x1), some (kI x2), some (kI x3), none, none] [] c P := by
  refine kw_iconst dX11_row_48 ?_
  refine kw_istore dX11_row_49 (Nat.le_of_ble_eq_true rfl) ?_
  refine kw_bipush dX11_row_51 (by decide) ?_
  refine kw_istore dX11_row_53 (Nat.le_of_ble_eq_true rfl) ?_
  exact kw_forget (ls' := [some (kA 558), some (kI x1), some (kI x2), some (kI x3), some (kI 0), some (kI (-15))]) ⟨Or.inr rfl, ⟨Or.inr rfl, ⟨Or.inr rfl, ⟨Or.inr rfl, ⟨Or.inr rfl, ⟨Or.inr rfl, trivial⟩⟩⟩⟩⟩⟩ H
set_option maxRecDepth 4000 in
theorem v_X11_row_55 {G : KG} {S0 : KSh} (hL : kLay S0) {d : Nat} {P : Option AV → KMem → Prop} {c : KMem} {x1 x2 x3 x4 x5 : Int} (r1 : -2147483648 ≤ x1 ∧ x1 < 2147483648) (r2 : -2147483648 ≤ x2 ∧ x2 < 2147483648) (r3 : -2147483648 ≤ x3 ∧ x3 < 2147483648) (r4 : -2147483648 ≤ x4 ∧ x4 < 2147483648) (r5 : -2147483648 ≤ x5 ∧ x5 < 2147483648) (hp : -15 ≤ x5 ∧ x5 ≤ 16) (H : (16 ≤ x5 → (P (some (kI x4)) c)) ∧ (x5 < 16 → (((kObj x3) → (kC2 G S0 kM_X11_liesOn (d + 4) [kA 558, kI x1, kI 1, kI x5, kI x2] c (kRI (fun z21 c22 => (k32 z21) ∧ ((z21 = 0 → (kW2 G S0 kM_X11_row (d + 5) 55 [some (kA 558), some (kI x1), some (kI x2), some (kI x3), some (kI x4), some (kI (x5 + 1))] [] c22 P)) ∧ (z21 ≠ 0 → (kW2 G S0 kM_X11_row (d + 5) 55 [some (kA 558), some (kI x1), some (kI x2), some (kI x3), some (kI (kor x4 (kshl 1 (x5 + 15)))), some (kI (x5 + 1))] [] c22 P))))))) ∧ (¬ (kObj x3) → (kC2 G S0 kM_X11_liesOn (d + 4) [kA 558, kI x1, kI 0, kI x5, kI x2] c (kRI (fun z25 c26 => (k32 z25) ∧ ((z25 = 0 → (kW2 G S0 kM_X11_row (d + 5) 55 [some (kA 558), some (kI x1), some (kI x2), some (kI x3), some (kI x4), some (kI (x5 + 1))] [] c26 P)) ∧ (z25 ≠ 0 → (kW2 G S0 kM_X11_row (d + 5) 55 [some (kA 558), some (kI x1), some (kI x2), some (kI x3), some (kI (kor x4 (kshl 1 (x5 + 15)))), some (kI (x5 + 1))] [] c26 P)))))))))) : kW2 G S0 kM_X11_row (d + 5) 55 [some (kA 558), some (kI x1), some (kI x2), some (kI x3), some (kI x4), some (kI x5)] [] c P := by
  refine kw_iload dX11_row_55 rfl ?_
  refine kw_bipush dX11_row_57 (by decide) ?_
  refine kw_icmp_ge 95 dX11_row_59 (by decide) (k32i (by omega)) (k32i (by omega)) (fun h19 => ?_) (fun h19 => ?_)
  · have H := H.1 h19
    refine kw_iload dX11_row_95 rfl ?_
    refine k2_iret dX11_row_97 rfl H
  · have H := H.2 h19
    refine kw_aload_n dX11_row_62 rfl ?_
    refine kw_iload_n dX11_row_63 rfl ?_
    refine kw_iload_n dX11_row_64 rfl ?_
    refine k2_callS1I m_X11_isObjectKind dX11_row_65 wl_X11_143 (Nat.le_of_ble_eq_true rfl) (s_X11_isObjectKind hL (k32i (by omega)) (fun h20 => ⟨_, rfl, ?_⟩) (fun h20 => ⟨_, rfl, ?_⟩))
    · have H := H.1 h20
      refine kw_iload dX11_row_68 rfl ?_
      refine kw_iload_n dX11_row_70 rfl ?_
      refine k2_callV4I (ci := 9) (N := 38) (T := TX11) rfl (lsh_558 hL) m_X11_liesOn dX11_row_71 wl_X11_352 (Nat.le_of_ble_eq_true rfl) (kC2_mono H (fun r c22 H => ?_))
      obtain ⟨z21, rfl, H⟩ := H
      refine ⟨z21, rfl, ?_⟩
      have o24 := H.1
      have H := H.2
      refine kw_if_eq 89 dX11_row_74 (by decide) o24 (fun h23 => ?_) (fun h23 => ?_)
      · have H := H.1 h23
        refine kw_iinc dX11_row_89 rfl ?_
        refine kw_goto 55 dX11_row_92 (by decide) ?_
        exact kw_forget (ls' := [some (kA 558), some (kI x1), some (kI x2), some (kI x3), some (kI x4), some (kI (x5 + 1))]) ⟨Or.inr rfl, ⟨Or.inr rfl, ⟨Or.inr rfl, ⟨Or.inr rfl, ⟨Or.inr rfl, ⟨Or.inr rfl, trivial⟩⟩⟩⟩⟩⟩ H
      · have H := H.2 h23
        refine kw_iload dX11_row_77 rfl ?_
        refine kw_iconst dX11_row_79 ?_
        refine kw_iload dX11_row_80 rfl ?_
        refine kw_bipush dX11_row_82 (by decide) ?_
        refine kw_iadd dX11_row_84 ?_
        refine kw_ishl dX11_row_85 ?_
        refine kw_ior dX11_row_86 ?_
        refine kw_istore dX11_row_87 (Nat.le_of_ble_eq_true rfl) ?_
        refine kw_iinc dX11_row_89 rfl ?_
        refine kw_goto 55 dX11_row_92 (by decide) ?_
        exact kw_forget (ls' := [some (kA 558), some (kI x1), some (kI x2), some (kI x3), some (kI (kor x4 (kshl 1 (x5 + 15)))), some (kI (x5 + 1))]) ⟨Or.inr rfl, ⟨Or.inr rfl, ⟨Or.inr rfl, ⟨Or.inr rfl, ⟨Or.inr rfl, ⟨Or.inr rfl, trivial⟩⟩⟩⟩⟩⟩ H
    · have H := H.2 h20
      refine kw_iload dX11_row_68 rfl ?_
      refine kw_iload_n dX11_row_70 rfl ?_
      refine k2_callV4I (ci := 9) (N := 38) (T := TX11) rfl (lsh_558 hL) m_X11_liesOn dX11_row_71 wl_X11_352 (Nat.le_of_ble_eq_true rfl) (kC2_mono H (fun r c26 H => ?_))
      obtain ⟨z25, rfl, H⟩ := H
      refine ⟨z25, rfl, ?_⟩
      have o28 := H.1
      have H := H.2
      refine kw_if_eq 89 dX11_row_74 (by decide) o28 (fun h27 => ?_) (fun h27 => ?_)
      · have H := H.1 h27
        refine kw_iinc dX11_row_89 rfl ?_
        refine kw_goto 55 dX11_row_92 (by decide) ?_
        exact kw_forget (ls' := [some (kA 558), some (kI x1), some (kI x2), some (kI x3), some (kI x4), some (kI (x5 + 1))]) ⟨Or.inr rfl, ⟨Or.inr rfl, ⟨Or.inr rfl, ⟨Or.inr rfl, ⟨Or.inr rfl, ⟨Or.inr rfl, trivial⟩⟩⟩⟩⟩⟩ H
      · have H := H.2 h27
        refine kw_iload dX11_row_77 rfl ?_
        refine kw_iconst dX11_row_79 ?_
        refine kw_iload dX11_row_80 rfl ?_
        refine kw_bipush dX11_row_82 (by decide) ?_
        refine kw_iadd dX11_row_84 ?_
        refine kw_ishl dX11_row_85 ?_
        refine kw_ior dX11_row_86 ?_
        refine kw_istore dX11_row_87 (Nat.le_of_ble_eq_true rfl) ?_
        refine kw_iinc dX11_row_89 rfl ?_
        refine kw_goto 55 dX11_row_92 (by decide) ?_
        exact kw_forget (ls' := [some (kA 558), some (kI x1), some (kI x2), some (kI x3), some (kI (kor x4 (kshl 1 (x5 + 15)))), some (kI (x5 + 1))]) ⟨Or.inr rfl, ⟨Or.inr rfl, ⟨Or.inr rfl, ⟨Or.inr rfl, ⟨Or.inr rfl, ⟨Or.inr rfl, trivial⟩⟩⟩⟩⟩⟩ H
set_option maxRecDepth 4000 in
theorem v_X11_isAt {G : KG} {S0 : KSh} (hL : kLay S0) {d : Nat} {P : Option AV → KMem → Prop} {c : KMem} {x1 x3 : Int}  (H : (k64 (((((2 * x1) * (c 559 ((16 * 24) + 1))) + ((2 * x3) * (c 559 ((16 * 24) + 2)))) + ((((x1 * x1) + (x3 * x3)) - 1) * (c 559 ((16 * 24) + 4)))) - ((((x1 * x1) + (x3 * x3)) + 1) * (c 559 ((16 * 24) + 8))))) ∧ (((((((2 * x1) * (c 559 ((16 * 24) + 1))) + ((2 * x3) * (c 559 ((16 * 24) + 2)))) + ((((x1 * x1) + (x3 * x3)) - 1) * (c 559 ((16 * 24) + 4)))) - ((((x1 * x1) + (x3 * x3)) + 1) * (c 559 ((16 * 24) + 8)))) ≠ 0 → (P (some (kI 0)) c)) ∧ ((((((2 * x1) * (c 559 ((16 * 24) + 1))) + ((2 * x3) * (c 559 ((16 * 24) + 2)))) + ((((x1 * x1) + (x3 * x3)) - 1) * (c 559 ((16 * 24) + 4)))) - ((((x1 * x1) + (x3 * x3)) + 1) * (c 559 ((16 * 24) + 8)))) = 0 → (P (some (kI 1)) c)))) : kC2 G S0 kM_X11_isAt (d + 1) [kA 558, kL x1, kL x3] c P := by
  refine k2_met (by decide) rfl (Nat.le_of_ble_eq_true rfl) (l0 := [some (kA 558), some (kL x1), none, some (kL x3), none, none, none]) rfl ?_
  refine kw_lload_n dX11_isAt_0 rfl ?_
  refine kw_lload_n dX11_isAt_1 rfl ?_
  refine kw_lmul dX11_isAt_2 ?_
  refine kw_lload_n dX11_isAt_3 rfl ?_
  refine kw_lload_n dX11_isAt_4 rfl ?_
  refine kw_lmul dX11_isAt_5 ?_
  refine kw_ladd dX11_isAt_6 ?_
  refine kw_lstore dX11_isAt_7 (Nat.le_of_ble_eq_true rfl) ?_
  refine kw_ldc2 dX11_isAt_9 wk_X11_109 ?_
  refine kw_lload_n dX11_isAt_12 rfl ?_
  refine kw_lmul dX11_isAt_13 ?_
  refine kw_aload_n dX11_isAt_14 rfl ?_
  refine kw_bipush dX11_isAt_15 (by decide) ?_
  refine kw_iconst dX11_isAt_17 ?_
  refine k2_callV2L (ci := 9) (N := 38) (T := TX11) rfl (lsh_558 hL) m_X11_at dX11_isAt_18 wl_X11_84 (Nat.le_of_ble_eq_true rfl) (s_X11_at hL (k32i (by omega)) (k32i (by omega)) (by omega) ⟨_, rfl, ?_⟩)
  refine kw_lmul dX11_isAt_21 ?_
  refine kw_ldc2 dX11_isAt_22 wk_X11_109 ?_
  refine kw_lload_n dX11_isAt_25 rfl ?_
  refine kw_lmul dX11_isAt_26 ?_
  refine kw_aload_n dX11_isAt_27 rfl ?_
  refine kw_bipush dX11_isAt_28 (by decide) ?_
  refine kw_iconst dX11_isAt_30 ?_
  refine k2_callV2L (ci := 9) (N := 38) (T := TX11) rfl (lsh_558 hL) m_X11_at dX11_isAt_31 wl_X11_84 (Nat.le_of_ble_eq_true rfl) (s_X11_at hL (k32i (by omega)) (k32i (by omega)) (by omega) ⟨_, rfl, ?_⟩)
  refine kw_lmul dX11_isAt_34 ?_
  refine kw_ladd dX11_isAt_35 ?_
  refine kw_lload dX11_isAt_36 rfl ?_
  refine kw_lconst1 dX11_isAt_38 ?_
  refine kw_lsub dX11_isAt_39 ?_
  refine kw_aload_n dX11_isAt_40 rfl ?_
  refine kw_bipush dX11_isAt_41 (by decide) ?_
  refine kw_iconst dX11_isAt_43 ?_
  refine k2_callV2L (ci := 9) (N := 38) (T := TX11) rfl (lsh_558 hL) m_X11_at dX11_isAt_44 wl_X11_84 (Nat.le_of_ble_eq_true rfl) (s_X11_at hL (k32i (by omega)) (k32i (by omega)) (by omega) ⟨_, rfl, ?_⟩)
  refine kw_lmul dX11_isAt_47 ?_
  refine kw_ladd dX11_isAt_48 ?_
  refine kw_lload dX11_isAt_49 rfl ?_
  refine kw_lconst1 dX11_isAt_51 ?_
  refine kw_ladd dX11_isAt_52 ?_
  refine kw_aload_n dX11_isAt_53 rfl ?_
  refine kw_bipush dX11_isAt_54 (by decide) ?_
  refine kw_bipush dX11_isAt_56 (by decide) ?_
  refine k2_callV2L (ci := 9) (N := 38) (T := TX11) rfl (lsh_558 hL) m_X11_at dX11_isAt_58 wl_X11_84 (Nat.le_of_ble_eq_true rfl) (s_X11_at hL (k32i (by omega)) (k32i (by omega)) (by omega) ⟨_, rfl, ?_⟩)
  refine kw_lmul dX11_isAt_61 ?_
  refine kw_lsub dX11_isAt_62 ?_
  refine kw_lconst0 dX11_isAt_63 ?_
  have o1 := H.1
  have H := H.2
  refine kw_lcmp_ne 72 dX11_isAt_64 dX11_isAt_65 (by decide) o1 (k64i (by omega)) (fun h2 => ?_) (fun h2 => ?_)
  · have H := H.1 h2
    refine kw_iconst dX11_isAt_72 ?_
    refine k2_zret dX11_isAt_73 rfl (Or.inl rfl) H
  · have H := H.2 h2
    refine kw_iconst dX11_isAt_68 ?_
    refine kw_goto 73 dX11_isAt_69 (by decide) ?_
    refine k2_zret dX11_isAt_73 rfl (Or.inr rfl) H
set_option maxRecDepth 4000 in
theorem v_X11_whole {G : KG} {S0 : KSh} (hL : kLay S0) {d : Nat} {P : Option AV → KMem → Prop} {c : KMem} {x1 : Int} (r1 : -2147483648 ≤ x1 ∧ x1 < 2147483648) (H : (kStd c) ∧ (((kHas c x1) → (kC2 G S0 kM_X11_isObject (d + 5) [kA 558, kI x1] c (kRI (fun z4 c5 => (k32 z4) ∧ ((z4 ≠ 0 → (kC2 G S0 kM_X11_laysVector (d + 5) [kA 558, kI x1, kI 24] c5 (kRN (fun c9 => kW2 G S0 kM_X11_whole (d + 6) 33 [some (kA 558), none, some (kI 0), some (kI (-99)), none] [] c9 P)))) ∧ (z4 = 0 → (P (some (kI (-3))) c5))))))) ∧ (¬ (kHas c x1) → (P (some (kI (-1))) c)))) : kC2 G S0 kM_X11_whole (d + 6) [kA 558, kI x1] c P := by
  refine k2_met (by decide) rfl (Nat.le_of_ble_eq_true rfl) (l0 := [some (kA 558), some (kI x1), none, none, none]) rfl ?_
  refine kw_aload_n dX11_whole_0 rfl ?_
  refine kw_iload_n dX11_whole_1 rfl ?_
  have o1 := H.1
  have H := H.2
  refine k2_callV1I (ci := 9) (N := 38) (T := TX11) rfl (lsh_558 hL) m_X11_isLetter dX11_whole_2 wl_X11_161 (Nat.le_of_ble_eq_true rfl) (s_X11_isLetter hL (k32i (by omega)) o1 (fun h2 => ⟨_, rfl, ?_⟩) (fun h2 => ⟨_, rfl, ?_⟩))
  · have H := H.1 h2
    refine kw_if_ne 10 dX11_whole_5 (by decide) (k32i (by omega)) (fun _ => ?_) (fun h3 => absurd h3 (by decide))
    refine kw_aload_n dX11_whole_10 rfl ?_
    refine kw_iload_n dX11_whole_11 rfl ?_
    refine k2_callV1I (ci := 9) (N := 38) (T := TX11) rfl (lsh_558 hL) m_X11_isObject dX11_whole_12 wl_X11_356 (Nat.le_of_ble_eq_true rfl) (kC2_mono H (fun r c5 H => ?_))
    obtain ⟨z4, rfl, H⟩ := H
    refine ⟨z4, rfl, ?_⟩
    have o7 := H.1
    have H := H.2
    refine kw_if_ne 21 dX11_whole_15 (by decide) o7 (fun h6 => ?_) (fun h6 => ?_)
    · have H := H.1 h6
      refine kw_aload_n dX11_whole_21 rfl ?_
      refine kw_iload_n dX11_whole_22 rfl ?_
      refine kw_bipush dX11_whole_23 (by decide) ?_
      refine k2_callV2N (ci := 9) (N := 38) (T := TX11) rfl (lsh_558 hL) m_X11_laysVector dX11_whole_25 wl_X11_334 (Nat.le_of_ble_eq_true rfl) (kC2_mono H (fun r c9 H => ?_))
      obtain ⟨rfl, H⟩ := H
      refine ⟨rfl, ?_⟩
      refine kw_iconst dX11_whole_28 ?_
      refine kw_istore_n dX11_whole_29 (Nat.le_of_ble_eq_true rfl) ?_
      refine kw_bipush dX11_whole_30 (by decide) ?_
      refine kw_istore_n dX11_whole_32 (Nat.le_of_ble_eq_true rfl) ?_
      exact kw_forget (ls' := [some (kA 558), none, some (kI 0), some (kI (-99)), none]) ⟨Or.inr rfl, ⟨Or.inl rfl, ⟨Or.inr rfl, ⟨Or.inr rfl, ⟨Or.inr rfl, trivial⟩⟩⟩⟩⟩ H
    · have H := H.2 h6
      refine kw_bipush dX11_whole_18 (by decide) ?_
      refine k2_iret dX11_whole_20 rfl H
  · have H := H.2 h2
    refine kw_if_ne 10 dX11_whole_5 (by decide) (k32i (by omega)) (fun h10 => absurd h10 (by decide)) (fun _ => ?_)
    refine kw_iconst dX11_whole_8 ?_
    refine k2_iret dX11_whole_9 rfl H
set_option maxRecDepth 4000 in
theorem v_X11_whole_33 {G : KG} {S0 : KSh} (hL : kLay S0) {d : Nat} {P : Option AV → KMem → Prop} {c : KMem} {x2 x3 : Int} (r2 : -2147483648 ≤ x2 ∧ x2 < 2147483648) (r3 : -2147483648 ≤ x3 ∧ x3 < 2147483648) (hp : -99 ≤ x3 ∧ x3 ≤ 100) (H : (100 ≤ x3 → (P (some (kI x2)) c)) ∧ (x3 < 100 → (kW2 G S0 kM_X11_whole (d + 6) 43 [some (kA 558), none, some (kI x2), some (kI x3), some (kI (-99))] [] c P))) : kW2 G S0 kM_X11_whole (d + 6) 33 [some (kA 558), none, some (kI x2), some (kI x3), none] [] c P := by
  refine kw_iload_n dX11_whole_33 rfl ?_
  refine kw_bipush dX11_whole_34 (by decide) ?_
  refine kw_icmp_ge 78 dX11_whole_36 (by decide) (k32i (by omega)) (k32i (by omega)) (fun h11 => ?_) (fun h11 => ?_)
  · have H := H.1 h11
    refine kw_iload_n dX11_whole_78 rfl ?_
    refine k2_iret dX11_whole_79 rfl H
  · have H := H.2 h11
    refine kw_bipush dX11_whole_39 (by decide) ?_
    refine kw_istore dX11_whole_41 (Nat.le_of_ble_eq_true rfl) ?_
    exact kw_forget (ls' := [some (kA 558), none, some (kI x2), some (kI x3), some (kI (-99))]) ⟨Or.inr rfl, ⟨Or.inr rfl, ⟨Or.inr rfl, ⟨Or.inr rfl, ⟨Or.inr rfl, trivial⟩⟩⟩⟩⟩ H
set_option maxRecDepth 4000 in
theorem v_X11_whole_43 {G : KG} {S0 : KSh} (hL : kLay S0) {d : Nat} {P : Option AV → KMem → Prop} {c : KMem} {x2 x3 x4 : Int} (r2 : -2147483648 ≤ x2 ∧ x2 < 2147483648) (r3 : -2147483648 ≤ x3 ∧ x3 < 2147483648) (r4 : -2147483648 ≤ x4 ∧ x4 < 2147483648) (hp : -99 ≤ x3 ∧ x3 < 100 ∧ -99 ≤ x4 ∧ x4 ≤ 100) (H : (100 ≤ x4 → (kW2 G S0 kM_X11_whole (d + 6) 33 [some (kA 558), none, some (kI x2), some (kI (x3 + 1)), none] [] c P)) ∧ (x4 < 100 → (kC2 G S0 kM_X11_isAt (d + 5) [kA 558, kL x3, kL x4] c (kRI (fun z13 c14 => (k32 z13) ∧ ((z13 = 0 → (kW2 G S0 kM_X11_whole (d + 6) 43 [some (kA 558), none, some (kI x2), some (kI x3), some (kI (x4 + 1))] [] c14 P)) ∧ (z13 ≠ 0 → (kW2 G S0 kM_X11_whole (d + 6) 43 [some (kA 558), none, some (kI (x2 + 1)), some (kI x3), some (kI (x4 + 1))] [] c14 P)))))))) : kW2 G S0 kM_X11_whole (d + 6) 43 [some (kA 558), none, some (kI x2), some (kI x3), some (kI x4)] [] c P := by
  refine kw_iload dX11_whole_43 rfl ?_
  refine kw_bipush dX11_whole_45 (by decide) ?_
  refine kw_icmp_ge 72 dX11_whole_47 (by decide) (k32i (by omega)) (k32i (by omega)) (fun h12 => ?_) (fun h12 => ?_)
  · have H := H.1 h12
    refine kw_iinc dX11_whole_72 rfl ?_
    refine kw_goto 33 dX11_whole_75 (by decide) ?_
    exact kw_forget (ls' := [some (kA 558), none, some (kI x2), some (kI (x3 + 1)), none]) ⟨Or.inr rfl, ⟨Or.inr rfl, ⟨Or.inr rfl, ⟨Or.inr rfl, ⟨Or.inl rfl, trivial⟩⟩⟩⟩⟩ H
  · have H := H.2 h12
    refine kw_aload_n dX11_whole_50 rfl ?_
    refine kw_iload_n dX11_whole_51 rfl ?_
    refine kw_i2l dX11_whole_52 (k32i (by omega)) ?_
    refine kw_iload dX11_whole_53 rfl ?_
    refine kw_i2l dX11_whole_55 (k32i (by omega)) ?_
    refine k2_callV2I (ci := 9) (N := 38) (T := TX11) rfl (lsh_558 hL) m_X11_isAt dX11_whole_56 wl_X11_359 (Nat.le_of_ble_eq_true rfl) (kC2_mono H (fun r c14 H => ?_))
    obtain ⟨z13, rfl, H⟩ := H
    refine ⟨z13, rfl, ?_⟩
    have o16 := H.1
    have H := H.2
    refine kw_if_eq 66 dX11_whole_59 (by decide) o16 (fun h15 => ?_) (fun h15 => ?_)
    · have H := H.1 h15
      refine kw_iinc dX11_whole_66 rfl ?_
      refine kw_goto 43 dX11_whole_69 (by decide) ?_
      exact kw_forget (ls' := [some (kA 558), none, some (kI x2), some (kI x3), some (kI (x4 + 1))]) ⟨Or.inr rfl, ⟨Or.inr rfl, ⟨Or.inr rfl, ⟨Or.inr rfl, ⟨Or.inr rfl, trivial⟩⟩⟩⟩⟩ H
    · have H := H.2 h15
      refine kw_iload_n dX11_whole_62 rfl ?_
      refine kw_iconst dX11_whole_63 ?_
      refine kw_iadd dX11_whole_64 ?_
      refine kw_istore_n dX11_whole_65 (Nat.le_of_ble_eq_true rfl) ?_
      refine kw_iinc dX11_whole_66 rfl ?_
      refine kw_goto 43 dX11_whole_69 (by decide) ?_
      exact kw_forget (ls' := [some (kA 558), none, some (kI (x2 + 1)), some (kI x3), some (kI (x4 + 1))]) ⟨Or.inr rfl, ⟨Or.inr rfl, ⟨Or.inr rfl, ⟨Or.inr rfl, ⟨Or.inr rfl, trivial⟩⟩⟩⟩⟩ H
section MQ4
variable {G : KG} {S0 : KSh} {d : Nat} {P : Option AV → KMem → Prop} {c c0 : KMem} {Φ : Int → KF} {H : Int → Bool} {F : Int → KF} {f g : KF} {M : Int} {x0 x1 x2 x3 x4 : Int}
theorem t_liesOn1 (hL : kLay S0) (hg : kSgn c0) (hs : kPh Φ c0 c) (hu : -99 ≤ x3 ∧ x3 ≤ 99) (hv : -99 ≤ x4 ∧ x4 ≤ 99) (ho : kObj (kind f)) (hf : kB kLB f) (h1 : ∀ c' a b, kPh (kU (kU Φ 25 a) 31 b) c0 c' → kOn f x3 x4 = true → P (some (kI 1)) c') (h0 : ∀ c' a b, kPh (kU (kU Φ 25 a) 31 b) c0 c' → ¬ kOn f x3 x4 = true → P (some (kI 0)) c') (r1 : k32 x1) (eA : Φ 24 = vecP f) (e3 : Φ 30 = farP) : kC2 G S0 kM_X11_liesOn (d + 3) [kA 558, kI x1, kI 1, kI x3, kI x4] c P := by
  have eo : kOn f x3 x4 = (mulP 2 (plcP x3 x4) (vecP f) 0 == 0) := by unfold kOn; rw [if_pos (kObjB_iff.mpr ho)]
  have bp : kB kLB (plcP x3 x4) := plcP_bd hu hv
  refine v_X11_liesOn hL r1 (by omega) (k32i (by omega)) (k32i (by omega)) ?_
  refine t_laysPlace hL hs (fun c1 hs => ⟨rfl, fun q => absurd q (by decide), fun _ => ?_⟩)
  refine t_innerOf hL hg hs (fun c2 b hs => ⟨_, rfl, ?_⟩)
  have hb := mulP_bdL (kd := 2) bp (vecP_bd hf) 0 (by omega) (by omega)
  rw [eo] at h1 h0
  refine ⟨k64i (by omega), fun q => h0 _ _ _ hs (by simp only [beq_iff_eq]; exact q), fun q => h1 _ _ _ hs (by simp only [beq_iff_eq]; exact q)⟩
theorem t_liesOn0 (hL : kLay S0) (hg : kSgn c0) (hs : kPh Φ c0 c) (hu : -99 ≤ x3 ∧ x3 ≤ 99) (hv : -99 ≤ x4 ∧ x4 ≤ 99) (ho : ¬ kObj (kind f)) (hf : kB kLB f) (h1 : ∀ c' a b, kPh (kU (kU Φ 25 a) 31 b) c0 c' → kOn f x3 x4 = true → P (some (kI 1)) c') (h0 : ∀ c' a b, kPh (kU (kU Φ 25 a) 31 b) c0 c' → ¬ kOn f x3 x4 = true → P (some (kI 0)) c') (hp : 0 ≤ x1 ∧ x1 < 12) (eA : Φ x1 = f) : kC2 G S0 kM_X11_liesOn (d + 3) [kA 558, kI x1, kI 0, kI x3, kI x4] c P := by
  have eo : kOn f x3 x4 = kZb (mulP 1 (plcP x3 x4) f) := by unfold kOn; rw [if_neg (fun q => ho (kObjB_iff.mp q))]
  have bp : kB kLB (plcP x3 x4) := plcP_bd hu hv
  refine v_X11_liesOn hL (by omega) (by omega) (k32i (by omega)) (k32i (by omega)) ?_
  refine t_laysPlace hL hs (fun c1 hs => ⟨rfl, fun _ => ?_, fun q => absurd rfl q⟩)
  refine t_joins hL hg hs (fun c2 hs => ⟨rfl, ?_⟩)
  rw [eo] at h1 h0
  refine t_isNothing hL hs (fun z => ⟨1, rfl, ko1 (h1 _ _ _ hs z)⟩) (fun z => ⟨0, rfl, ko0 (h0 _ _ _ hs z)⟩)
theorem s_X11_on (hL : kLay S0) (r1 : k32 x1) (r2 : k32 x2) (r3 : k32 x3) (hs : RSt H F c) (h : ∀ c', kRP c c' → P (some (kI (vOn H F x1 x2 x3))) c') : kC2 G S0 kM_X11_on (d + 5) [kA 558, kI x1, kI x2, kI x3] c P := by
  obtain ⟨Φ, s0, hg, hst, hy, hn, e3, hl⟩ := hs.op
  have hP := kPi h
  unfold vOn at hP
  refine v_X11_on hL r1 r2 r3 ⟨hst, fun z1 => ?_, fun z1 => hP _ _ kRP.rf (by rw [if_neg (fun q => hn _ z1 q.1)])⟩
  have y1 := hy _ z1
  obtain ⟨a1, b1, e1, f1⟩ := hl _ y1
  have hk := kind_rg (F x1)
  refine ⟨fun z2 => ⟨fun z3 => ?_, fun z3 => hP _ _ kRP.rf (by rw [if_neg (fun q => z3 q.2.2)])⟩, fun z2 => hP _ _ kRP.rf (by rw [if_neg (fun q => z2 q.2.1)])⟩
  rw [if_pos ⟨y1, z2, z3⟩] at hP
  refine t_kindOf hL hg s0 (fun c1 a b hs => ⟨_, rfl, ?_⟩)
  refine ⟨k32i (by omega), fun z => ?_, fun z => ?_⟩
  · rw [if_pos (kBearB_iff.mpr z)] at hP
    refine ⟨fun ho => ?_, fun ho => ?_⟩
    · refine t_laysVector hL hg hs ho (fun c2 hs => ⟨rfl, ?_⟩)
      refine v_X11_on_58 hL r1 r2 r3 (by omega) ⟨fun _ => ?_, fun q => absurd ho q⟩
      refine t_liesOn1 hL hg hs z2 z3 ho f1 (fun c3 a b hs q => ⟨1, rfl, kr1 ?_⟩) (fun c3 a b hs q => ⟨0, rfl, kr0 ?_⟩) r1 kUs (by repeat (first | with_reducible exact kUs | with_reducible assumption | (with_reducible apply kUn; omega) | exact rfl))
      · rw [if_pos q] at hP; exact hP _ _ (s0.rp hs kFr.rf (by intro s p q; repeat (first | exact rfl | refine kUn (by omega) ?_ | exact hk s p q))) rfl
      · rw [if_neg q] at hP; exact hP _ _ (s0.rp hs kFr.rf (by intro s p q; repeat (first | exact rfl | refine kUn (by omega) ?_ | exact hk s p q))) rfl
    · refine v_X11_on_58 hL r1 r2 r3 (by omega) ⟨fun q => absurd q ho, fun _ => ?_⟩
      refine t_liesOn0 hL hg hs z2 z3 ho f1 (fun c3 a b hs q => ⟨1, rfl, kr1 ?_⟩) (fun c3 a b hs q => ⟨0, rfl, kr0 ?_⟩) ⟨a1, b1⟩ (by repeat (first | with_reducible exact kUs | with_reducible assumption | (with_reducible apply kUn; omega) | exact rfl))
      · rw [if_pos q] at hP; exact hP _ _ (s0.rp hs kFr.rf (by intro s p q; repeat (first | exact rfl | refine kUn (by omega) ?_ | exact hk s p q))) rfl
      · rw [if_neg q] at hP; exact hP _ _ (s0.rp hs kFr.rf (by intro s p q; repeat (first | exact rfl | refine kUn (by omega) ?_ | exact hk s p q))) rfl
  · rw [if_neg (fun q => z (kBearB_iff.mp q))] at hP
    exact hP _ _ (s0.rp hs kFr.rf (by intro s p q; repeat (first | exact rfl | refine kUn (by omega) ?_ | exact hk s p q))) rfl
theorem s_X11_row (hL : kLay S0) (r1 : k32 x1) (r2 : k32 x2) (hs : RSt H F c) (h : ∀ c', kRP c c' → P (some (kI (vRow H F x1 x2))) c') : kC2 G S0 kM_X11_row (d + 5) [kA 558, kI x1, kI x2] c P := by
  obtain ⟨Φ, s0, hg, hst, hy, hn, e3, hl⟩ := hs.op
  have hP := kPi h
  unfold vRow at hP
  refine v_X11_row hL r1 r2 ⟨hst, fun z1 => ?_, fun z1 => hP _ _ kRP.rf (by rw [if_neg (fun q => hn _ z1 q.1)])⟩
  have y1 := hy _ z1
  obtain ⟨a1, b1, e1, f1⟩ := hl _ y1
  have hk := kind_rg (F x1)
  refine ⟨fun z2 => ?_, fun z2 => hP _ _ kRP.rf (by rw [if_neg (fun q => z2 q.2)])⟩
  rw [if_pos ⟨y1, z2⟩] at hP
  refine t_kindOf hL hg s0 (fun c1 a b hs => ⟨_, rfl, ?_⟩)
  refine ⟨k32i (by omega), fun z => ?_, fun z => ?_⟩
  · rw [if_pos (kBearB_iff.mpr z)] at hP
    have loop : ∀ n k : Nat, k + n = 31 → ∀ (Φ' : Int → KF) (c' : KMem), kPh Φ' c c' → (∀ s : Int, 0 ≤ s → s < 12 ∨ s = 30 → Φ' s = Φ s) → (kObj (kind (F x1)) → Φ' 24 = vecP (F x1)) → kW2 G S0 kM_X11_row (d + 5) 55 [some (kA 558), some (kI x1), some (kI x2), some (kI (kind (F x1))), some (kI (kBits (fun k => kOn (F x1) ((k : Int) - 15) x2) k)), some (kI ((k : Int) - 15))] [] c' P := by
      intro n
      induction n with
      | zero =>
        intro k hk Φ' c' hs hk2 hA
        obtain rfl : k = 31 := by omega
        have hb := kBits_lt (fun k => kOn (F x1) ((k : Int) - 15) x2) 31
        exact v_X11_row_55 hL r1 r2 (by omega) (by omega) (by omega) (by omega) ⟨fun _ => hP _ _ (s0.rp hs kFr.rf hk2) rfl, fun q => by omega⟩
      | succ n ih =>
        intro k hk9 Φ' c' hs hk hA
        have hb := kBits_lt (fun k => kOn (F x1) ((k : Int) - 15) x2) k
        have hb2 : 2 ^ k ≤ 2 ^ 30 := Nat.pow_le_pow_right (by omega) (by omega)
        have e4 : Φ' x1 = F x1 := (hk x1 (by omega) (by omega)).trans e1
        have e5 : Φ' 30 = farP := (hk 30 (by omega) (by omega)).trans e3
        have ed : kBits (fun k => kOn (F x1) ((k : Int) - 15) x2) (k + 1) = if kOn (F x1) ((k : Int) - 15) x2 = true then kBits (fun k => kOn (F x1) ((k : Int) - 15) x2) k ||| 2 ^ k else kBits (fun k => kOn (F x1) ((k : Int) - 15) x2) k := rfl
        have ei : (k : Int) - 15 + 1 = ((k + 1 : Nat) : Int) - 15 := by omega
        have ej : (k : Int) - 15 + 15 = (k : Int) := by omega
        have step1 : ∀ (c' : KMem) (Φ' : Int → KF), kPh Φ' c c' → (∀ s : Int, 0 ≤ s → s < 12 ∨ s = 30 → Φ' s = Φ s) → (kObj (kind (F x1)) → Φ' 24 = vecP (F x1)) → kOn (F x1) ((k : Int) - 15) x2 = true → kW2 G S0 kM_X11_row (d + 5) 55 [some (kA 558), some (kI x1), some (kI x2), some (kI (kind (F x1))), some (kI (kor (kBits (fun k => kOn (F x1) ((k : Int) - 15) x2) k) (kshl 1 ((k : Int) - 15 + 15)))), some (kI ((k : Int) - 15 + 1))] [] c' P := by
          intro c' Φ' hs hk hA q
          rw [ej, ei, kshl1 k (by omega), kor_nat _ _ (by omega) (by omega)]
          have := ih (k + 1) (by omega) Φ' c' hs hk hA
          rw [ed, if_pos q] at this
          exact this
        have step0 : ∀ (c' : KMem) (Φ' : Int → KF), kPh Φ' c c' → (∀ s : Int, 0 ≤ s → s < 12 ∨ s = 30 → Φ' s = Φ s) → (kObj (kind (F x1)) → Φ' 24 = vecP (F x1)) → ¬ kOn (F x1) ((k : Int) - 15) x2 = true → kW2 G S0 kM_X11_row (d + 5) 55 [some (kA 558), some (kI x1), some (kI x2), some (kI (kind (F x1))), some (kI (kBits (fun k => kOn (F x1) ((k : Int) - 15) x2) k)), some (kI ((k : Int) - 15 + 1))] [] c' P := by
          intro c' Φ' hs hk hA q
          rw [ei]
          have := ih (k + 1) (by omega) Φ' c' hs hk hA
          rw [ed, if_neg q] at this
          exact this
        refine v_X11_row_55 hL r1 r2 (by omega) (by omega) (by omega) (by omega) ⟨fun q => by omega, fun _ => ⟨fun ho => ?_, fun ho => ?_⟩⟩
        · refine t_liesOn1 hL hg hs (by omega) z2 ho f1 (fun c3 a b hs q => ⟨1, rfl, kr1 ?_⟩) (fun c3 a b hs q => ⟨0, rfl, kr0 ?_⟩) r1 (hA ho) e5
          · exact step1 _ _ hs (by intro s p q; repeat (first | exact rfl | refine kUn (by omega) ?_ | exact hk s p q)) (fun ho => kUn (by omega) (kUn (by omega) (hA ho))) q
          · exact step0 _ _ hs (by intro s p q; repeat (first | exact rfl | refine kUn (by omega) ?_ | exact hk s p q)) (fun ho => kUn (by omega) (kUn (by omega) (hA ho))) q
        · refine t_liesOn0 hL hg hs (by omega) z2 ho f1 (fun c3 a b hs q => ⟨1, rfl, kr1 ?_⟩) (fun c3 a b hs q => ⟨0, rfl, kr0 ?_⟩) ⟨a1, b1⟩ e4
          · exact step1 _ _ hs (by intro s p q; repeat (first | exact rfl | refine kUn (by omega) ?_ | exact hk s p q)) (fun ho => kUn (by omega) (kUn (by omega) (hA ho))) q
          · exact step0 _ _ hs (by intro s p q; repeat (first | exact rfl | refine kUn (by omega) ?_ | exact hk s p q)) (fun ho => kUn (by omega) (kUn (by omega) (hA ho))) q
    refine ⟨fun ho => ?_, fun ho => ?_⟩
    · refine t_laysVector hL hg hs ho (fun c2 hs => ⟨rfl, ?_⟩)
      exact v_X11_row_48 hL r1 r2 (by omega) (loop 31 0 (by omega) _ _ hs (by intro s p q; repeat (first | exact rfl | refine kUn (by omega) ?_ | exact hk s p q)) (fun _ => kUs))
    · exact v_X11_row_48 hL r1 r2 (by omega) (loop 31 0 (by omega) _ _ hs (by intro s p q; repeat (first | exact rfl | refine kUn (by omega) ?_ | exact hk s p q)) (fun q => absurd q ho))
  · rw [if_neg (fun q => z (kBearB_iff.mp q))] at hP
    exact hP _ _ (s0.rp hs kFr.rf (by intro s p q; repeat (first | exact rfl | refine kUn (by omega) ?_ | exact hk s p q))) rfl
theorem t_isAt (hL : kLay S0) (hs : kPh Φ c0 c) (hu : -99 ≤ x1 ∧ x1 ≤ 99) (hv : -99 ≤ x3 ∧ x3 ≤ 99) (h1 : kpl f x1 x3 = 0 → P (some (kI 1)) c) (h0 : ¬ kpl f x1 x3 = 0 → P (some (kI 0)) c) (e : Φ 24 = f) (hb : kB kLB f) : kC2 G S0 kM_X11_isAt (d + 1) [kA 558, kL x1, kL x3] c P := by
  have E := hs.e (s := 24) (by omega) e
  have E1 : c 559 (16 * 24 + 1) = f 1 := E 1 (by omega) (by omega)
  have E2 : c 559 (16 * 24 + 2) = f 2 := E 2 (by omega) (by omega)
  have E4 : c 559 (16 * 24 + 4) = f 4 := E 4 (by omega) (by omega)
  have E8 : c 559 (16 * 24 + 8) = f 8 := E 8 (by omega) (by omega)
  have m1 := kmul_bd (a := x1) (b := x1) (M := 99) (N := 99) hu hu
  have m2 := kmul_bd (a := x3) (b := x3) (M := 99) (N := 99) hv hv
  have ee : (99 : Int) * 99 = 9801 := by decide
  rw [ee] at m1 m2
  have n1 := kmul_bd (a := 2 * x1) (b := f 1) (M := 30000) (N := 100000000) (by omega) (hb 1 (by omega) (by omega))
  have n2 := kmul_bd (a := 2 * x3) (b := f 2) (M := 30000) (N := 100000000) (by omega) (hb 2 (by omega) (by omega))
  have n4 := kmul_bd (a := x1 * x1 + x3 * x3 - 1) (b := f 4) (M := 30000) (N := 100000000) (by omega) (hb 4 (by omega) (by omega))
  have n8 := kmul_bd (a := x1 * x1 + x3 * x3 + 1) (b := f 8) (M := 30000) (N := 100000000) (by omega) (hb 8 (by omega) (by omega))
  have e3 : (30000 : Int) * 100000000 = 3000000000000 := by decide
  rw [e3] at n1 n2 n4 n8
  refine v_X11_isAt hL ?_
  rw [E1, E2, E4, E8]
  unfold kpl at h1 h0
  exact ⟨k64i (by omega), h0, h1⟩
theorem s_X11_whole (hL : kLay S0) (r1 : k32 x1) (hs : RSt H F c) (h : ∀ c', kRP c c' → P (some (kI (vWhole H F x1))) c') : kC2 G S0 kM_X11_whole (d + 6) [kA 558, kI x1] c P := by
  obtain ⟨Φ, s0, hg, hst, hy, hn, e3, hl⟩ := hs.op
  have hP := kPi h
  unfold vWhole at hP
  refine v_X11_whole hL r1 ⟨hst, fun z1 => ?_, fun z1 => hP _ _ kRP.rf (by rw [if_neg (fun q => hn _ z1 q)])⟩
  have y1 := hy _ z1
  obtain ⟨a1, b1, e1, f1⟩ := hl _ y1
  rw [if_pos y1] at hP
  refine t_isObject hL hg s0 (fun c1 a b hs z => ⟨1, rfl, kq1 ?_⟩) (fun c1 a b hs z => ⟨0, rfl, kq0 ?_⟩)
  · rw [if_pos (kObjB_iff.mpr z)] at hP
    refine t_laysVector hL hg hs z (fun c2 hs => ⟨rfl, ?_⟩)
    have hf := vecP_bd f1
    have hrp : kRP c c2 := s0.rp hs kFr.rf (by intro s p q; repeat (first | exact rfl | refine kUn (by omega) ?_ | exact hk s p q))
    have inner : ∀ (i : Nat), i < 199 → ∀ (n j : Nat), j + n = 199 → ∀ z : Int, 0 ≤ z ∧ z ≤ 199 * i + j → (∀ z2 : Int, z2 = z + ((kCn (fun j => kpl (vecP (F x1)) ((i : Int) - 99) ((j : Int) - 99) == 0) 199 : Int) - (kCn (fun j => kpl (vecP (F x1)) ((i : Int) - 99) ((j : Int) - 99) == 0) j : Int)) → kW2 G S0 kM_X11_whole (d + 6) 33 [some (kA 558), none, some (kI z2), some (kI ((i : Int) - 99 + 1)), none] [] c2 P) → kW2 G S0 kM_X11_whole (d + 6) 43 [some (kA 558), none, some (kI z), some (kI ((i : Int) - 99)), some (kI ((j : Int) - 99))] [] c2 P := by
      intro i hi n
      induction n with
      | zero =>
        intro j hj z hz K
        obtain rfl : j = 199 := by omega
        exact v_X11_whole_43 hL (by omega) (by omega) (by omega) (by omega) ⟨fun _ => K _ (by omega), fun q => by omega⟩
      | succ n ih =>
        intro j hj z hz K
        have ed : kCn (fun j => kpl (vecP (F x1)) ((i : Int) - 99) ((j : Int) - 99) == 0) (j + 1) = if (kpl (vecP (F x1)) ((i : Int) - 99) ((j : Int) - 99) == 0) = true then kCn (fun j => kpl (vecP (F x1)) ((i : Int) - 99) ((j : Int) - 99) == 0) j + 1 else kCn (fun j => kpl (vecP (F x1)) ((i : Int) - 99) ((j : Int) - 99) == 0) j := rfl
        have ei : (j : Int) - 99 + 1 = ((j + 1 : Nat) : Int) - 99 := by omega
        refine v_X11_whole_43 hL (by omega) (by omega) (by omega) (by omega) ⟨fun q => by omega, fun _ => ?_⟩
        refine t_isAt hL hs (by omega) (by omega) (fun q => ⟨1, rfl, kr1 ?_⟩) (fun q => ⟨0, rfl, kr0 ?_⟩) kUs hf
        · rw [ei]
          rw [if_pos (by simp only [beq_iff_eq]; exact q)] at ed
          exact ih (j + 1) (by omega) (z + 1) (by omega) (fun z2 hz2 => K z2 (by omega))
        · rw [ei]
          rw [if_neg (by simp only [beq_iff_eq]; exact q)] at ed
          exact ih (j + 1) (by omega) z (by omega) (fun z2 hz2 => K z2 (by omega))
    have outer : ∀ (n i : Nat), i + n = 199 → kW2 G S0 kM_X11_whole (d + 6) 33 [some (kA 558), none, some (kI (kCm (fun i j => kpl (vecP (F x1)) ((i : Int) - 99) ((j : Int) - 99) == 0) 199 i : Int)), some (kI ((i : Int) - 99)), none] [] c2 P := by
      intro n
      induction n with
      | zero =>
        intro i hi
        obtain rfl : i = 199 := by omega
        have hb := kCm_le (fun i j => kpl (vecP (F x1)) ((i : Int) - 99) ((j : Int) - 99) == 0) 199 199
        exact v_X11_whole_33 hL (by omega) (by omega) (by omega) ⟨fun _ => hP _ _ hrp rfl, fun q => by omega⟩
      | succ n ih =>
        intro i hi
        have hb := kCm_le (fun i j => kpl (vecP (F x1)) ((i : Int) - 99) ((j : Int) - 99) == 0) 199 i
        have ed : kCm (fun i j => kpl (vecP (F x1)) ((i : Int) - 99) ((j : Int) - 99) == 0) 199 (i + 1) = kCm (fun i j => kpl (vecP (F x1)) ((i : Int) - 99) ((j : Int) - 99) == 0) 199 i + kCn (fun j => kpl (vecP (F x1)) ((i : Int) - 99) ((j : Int) - 99) == 0) 199 := rfl
        have hz : kCn (fun j => kpl (vecP (F x1)) ((i : Int) - 99) ((j : Int) - 99) == 0) 0 = 0 := rfl
        refine v_X11_whole_33 hL (by omega) (by omega) (by omega) ⟨fun q => by omega, fun _ => ?_⟩
        refine inner i (by omega) 199 0 (by omega) _ (by omega) (fun z2 hz2 => ?_)
        have := ih (i + 1) (by omega)
        rw [ed] at this
        have e2 : z2 = ((kCm (fun i j => kpl (vecP (F x1)) ((i : Int) - 99) ((j : Int) - 99) == 0) 199 i + kCn (fun j => kpl (vecP (F x1)) ((i : Int) - 99) ((j : Int) - 99) == 0) 199 : Nat) : Int) := by omega
        have e4 : (i : Int) - 99 + 1 = ((i + 1 : Nat) : Int) - 99 := by omega
        rw [e2, e4]
        exact this
    exact outer 199 0 (by omega)
  · rw [if_neg (fun q => z (kObjB_iff.mp q))] at hP
    exact hP _ _ (s0.rp hs kFr.rf (by intro s p q; repeat (first | exact rfl | refine kUn (by omega) ?_ | exact hk s p q))) rfl
end MQ4
