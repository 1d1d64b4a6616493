set_option maxRecDepth 4000 in
theorem v_X3_isMotion {G : KG} {S0 : KSh} (hL : kLay S0) {d : Nat} {P : Option AV → KMem → Prop} {c : KMem} {x1 : Int} (hx1 : S0.2.1 x1 = (2, 16)) (H : kC2 G S0 kM_X8_kindOf (d + 4) [kA x1] c (kRI (fun z1 c2 => (k32 z1) ∧ ((z1 = 1 → (kW2 G S0 kM_X3_isMotion (d + 5) 40 [some (kA 214), some (kA x1), none] [] c2 P)) ∧ (z1 ≠ 1 → ((z1 = 3 → (kW2 G S0 kM_X3_isMotion (d + 5) 40 [some (kA 214), some (kA x1), none] [] c2 P)) ∧ (z1 ≠ 3 → ((z1 = 4 → (kW2 G S0 kM_X3_isMotion (d + 5) 40 [some (kA 214), some (kA x1), none] [] c2 P)) ∧ (z1 ≠ 4 → ((z1 = 6 → (kW2 G S0 kM_X3_isMotion (d + 5) 40 [some (kA 214), some (kA x1), none] [] c2 P)) ∧ (z1 ≠ 6 → ((z1 = 40 → (kW2 G S0 kM_X3_isMotion (d + 5) 40 [some (kA 214), some (kA x1), none] [] c2 P)) ∧ (z1 ≠ 40 → ((z1 = 41 → (kW2 G S0 kM_X3_isMotion (d + 5) 40 [some (kA 214), some (kA x1), none] [] c2 P)) ∧ (z1 ≠ 41 → (P (some (kI 0)) c2)))))))))))))))) : kC2 G S0 kM_X3_isMotion (d + 5) [kA 214, kA x1] c P := by
  refine k2_met (by decide) rfl (Nat.le_of_ble_eq_true rfl) (l0 := [some (kA 214), some (kA x1), none]) rfl ?_
  refine kw_aload_n dX3_isMotion_0 rfl ?_
  refine k2_callS1I m_X8_kindOf dX3_isMotion_1 wl_X3_46 (Nat.le_of_ble_eq_true rfl) (kC2_mono H (fun r c2 H => ?_))
  obtain ⟨z1, rfl, H⟩ := H
  refine ⟨z1, rfl, ?_⟩
  refine kw_istore_n dX3_isMotion_4 (Nat.le_of_ble_eq_true rfl) ?_
  refine kw_iload_n dX3_isMotion_5 rfl ?_
  refine kw_iconst dX3_isMotion_6 ?_
  have o4 := H.1
  have H := H.2
  refine kw_icmp_eq 40 dX3_isMotion_7 (by decide) o4 (k32i (by omega)) (fun h3 => ?_) (fun h3 => ?_)
  · have H := H.1 h3
    exact kw_forget (ls' := [some (kA 214), some (kA x1), none]) ⟨Or.inr rfl, ⟨Or.inr rfl, ⟨Or.inl rfl, trivial⟩⟩⟩ H
  · have H := H.2 h3
    refine kw_iload_n dX3_isMotion_10 rfl ?_
    refine kw_iconst dX3_isMotion_11 ?_
    refine kw_icmp_eq 40 dX3_isMotion_12 (by decide) o4 (k32i (by omega)) (fun h5 => ?_) (fun h5 => ?_)
    · have H := H.1 h5
      exact kw_forget (ls' := [some (kA 214), some (kA x1), none]) ⟨Or.inr rfl, ⟨Or.inr rfl, ⟨Or.inl rfl, trivial⟩⟩⟩ H
    · have H := H.2 h5
      refine kw_iload_n dX3_isMotion_15 rfl ?_
      refine kw_iconst dX3_isMotion_16 ?_
      refine kw_icmp_eq 40 dX3_isMotion_17 (by decide) o4 (k32i (by omega)) (fun h6 => ?_) (fun h6 => ?_)
      · have H := H.1 h6
        exact kw_forget (ls' := [some (kA 214), some (kA x1), none]) ⟨Or.inr rfl, ⟨Or.inr rfl, ⟨Or.inl rfl, trivial⟩⟩⟩ H
      · have H := H.2 h6
        refine kw_iload_n dX3_isMotion_20 rfl ?_
        refine kw_bipush dX3_isMotion_21 (by decide) ?_
        refine kw_icmp_eq 40 dX3_isMotion_23 (by decide) o4 (k32i (by omega)) (fun h7 => ?_) (fun h7 => ?_)
        · have H := H.1 h7
          exact kw_forget (ls' := [some (kA 214), some (kA x1), none]) ⟨Or.inr rfl, ⟨Or.inr rfl, ⟨Or.inl rfl, trivial⟩⟩⟩ H
        · have H := H.2 h7
          refine kw_iload_n dX3_isMotion_26 rfl ?_
          refine kw_bipush dX3_isMotion_27 (by decide) ?_
          refine kw_icmp_eq 40 dX3_isMotion_29 (by decide) o4 (k32i (by omega)) (fun h8 => ?_) (fun h8 => ?_)
          · have H := H.1 h8
            exact kw_forget (ls' := [some (kA 214), some (kA x1), none]) ⟨Or.inr rfl, ⟨Or.inr rfl, ⟨Or.inl rfl, trivial⟩⟩⟩ H
          · have H := H.2 h8
            refine kw_iload_n dX3_isMotion_32 rfl ?_
            refine kw_bipush dX3_isMotion_33 (by decide) ?_
            refine kw_icmp_eq 40 dX3_isMotion_35 (by decide) o4 (k32i (by omega)) (fun h9 => ?_) (fun h9 => ?_)
            · have H := H.1 h9
              exact kw_forget (ls' := [some (kA 214), some (kA x1), none]) ⟨Or.inr rfl, ⟨Or.inr rfl, ⟨Or.inl rfl, trivial⟩⟩⟩ H
            · have H := H.2 h9
              refine kw_iconst dX3_isMotion_38 ?_
              refine k2_zret dX3_isMotion_39 rfl (Or.inl rfl) H
set_option maxRecDepth 4000 in
theorem v_X3_isMotion_40 {G : KG} {S0 : KSh} (hL : kLay S0) {d : Nat} {P : Option AV → KMem → Prop} {c : KMem} {x1 : Int} (hx1 : S0.2.1 x1 = (2, 16)) (H : kC2 G S0 kM_X0_copy (d + 4) [kA x1, kA 524] c (kRN (fun c11 => kC2 G S0 kM_X0_reverse (d + 4) [kA 524] c11 (kRN (fun c13 => kC2 G S0 kM_X0_multiply (d + 4) [kI 0, kA x1, kA 524, kA 526] c13 (kRN (fun c15 => kC2 G S0 kM_X8_gradesOf (d + 4) [kA 526] c15 (kRI (fun z16 c17 => (k32 z16) ∧ ((z16 ≠ 1 → (P (some (kI 0)) c17)) ∧ (z16 = 1 → (P (some (kI 1)) c17)))))))))))) : kW2 G S0 kM_X3_isMotion (d + 5) 40 [some (kA 214), some (kA x1), none] [] c P := by
  refine kw_aload_n dX3_isMotion_40 rfl ?_
  refine kw_aload_n dX3_isMotion_41 rfl ?_
  refine k2_getR fd_X3_3 dX3_isMotion_42 wf_X3_27 (lsh_214 hL) (lrf_214_3 hL) ?_
  refine k2_callS2N m_X0_copy dX3_isMotion_45 wl_X3_40 (Nat.le_of_ble_eq_true rfl) (kC2_mono H (fun r c11 H => ?_))
  obtain ⟨rfl, H⟩ := H
  refine ⟨rfl, ?_⟩
  refine kw_aload_n dX3_isMotion_48 rfl ?_
  refine k2_getR fd_X3_3 dX3_isMotion_49 wf_X3_27 (lsh_214 hL) (lrf_214_3 hL) ?_
  refine k2_callS1N m_X0_reverse dX3_isMotion_52 wl_X3_52 (Nat.le_of_ble_eq_true rfl) (kC2_mono H (fun r c13 H => ?_))
  obtain ⟨rfl, H⟩ := H
  refine ⟨rfl, ?_⟩
  refine kw_iconst dX3_isMotion_55 ?_
  refine kw_aload_n dX3_isMotion_56 rfl ?_
  refine kw_aload_n dX3_isMotion_57 rfl ?_
  refine k2_getR fd_X3_3 dX3_isMotion_58 wf_X3_27 (lsh_214 hL) (lrf_214_3 hL) ?_
  refine kw_aload_n dX3_isMotion_61 rfl ?_
  refine k2_getR fd_X3_5 dX3_isMotion_62 wf_X3_34 (lsh_214 hL) (lrf_214_5 hL) ?_
  refine k2_callS4N m_X0_multiply dX3_isMotion_65 wl_X3_56 (Nat.le_of_ble_eq_true rfl) (kC2_mono H (fun r c15 H => ?_))
  obtain ⟨rfl, H⟩ := H
  refine ⟨rfl, ?_⟩
  refine kw_aload_n dX3_isMotion_68 rfl ?_
  refine k2_getR fd_X3_5 dX3_isMotion_69 wf_X3_34 (lsh_214 hL) (lrf_214_5 hL) ?_
  refine k2_callS1I m_X8_gradesOf dX3_isMotion_72 wl_X3_60 (Nat.le_of_ble_eq_true rfl) (kC2_mono H (fun r c17 H => ?_))
  obtain ⟨z16, rfl, H⟩ := H
  refine ⟨z16, rfl, ?_⟩
  refine kw_iconst dX3_isMotion_75 ?_
  have o19 := H.1
  have H := H.2
  refine kw_icmp_ne 83 dX3_isMotion_76 (by decide) o19 (k32i (by omega)) (fun h18 => ?_) (fun h18 => ?_)
  · have H := H.1 h18
    refine kw_iconst dX3_isMotion_83 ?_
    refine k2_zret dX3_isMotion_84 rfl (Or.inl rfl) H
  · have H := H.2 h18
    refine kw_iconst dX3_isMotion_79 ?_
    refine kw_goto 84 dX3_isMotion_80 (by decide) ?_
    refine k2_zret dX3_isMotion_84 rfl (Or.inr rfl) H
set_option maxRecDepth 4000 in
theorem v_X3_mirror {G : KG} {S0 : KSh} (hL : kLay S0) {d : Nat} {P : Option AV → KMem → Prop} {c : KMem} {x0 x1 x2 x3 x4 : Int} (hx0 : S0.2.1 x0 = (2, 16)) (hx1 : S0.2.1 x1 = (2, 16)) (hx2 : S0.2.1 x2 = (2, 16)) (hx3 : S0.2.1 x3 = (2, 16)) (hx4 : S0.2.1 x4 = (2, 16)) (H : kC2 G S0 kM_X0_multiply (d + 1) [kI 0, kA x0, kA x1, kA x2] c (kRN (fun c2 => kC2 G S0 kM_X0_isWithinBound (d + 1) [kA x2] c2 (kRI (fun z3 c4 => (k32 z3) ∧ ((z3 ≠ 0 → (kC2 G S0 kM_X0_copy (d + 1) [kA x0, kA x3] c4 (kRN (fun c8 => kC2 G S0 kM_X0_reverse (d + 1) [kA x3] c8 (kRN (fun c10 => kC2 G S0 kM_X0_multiply (d + 1) [kI 0, kA x2, kA x3, kA x4] c10 (kRN (fun c12 => kC2 G S0 kM_X0_isWithinBound (d + 1) [kA x4] c12 (kRI (fun z13 c14 => (z13 = 0 ∨ z13 = 1) ∧ (P (some (kI z13)) c14))))))))))) ∧ (z3 = 0 → (P (some (kI 0)) c4)))))))) : kC2 G S0 kM_X3_mirror (d + 2) [kA x0, kA x1, kA x2, kA x3, kA x4] c P := by
  refine k2_met (by decide) rfl (Nat.le_of_ble_eq_true rfl) (l0 := [some (kA x0), some (kA x1), some (kA x2), some (kA x3), some (kA x4)]) rfl ?_
  refine kw_iconst dX3_mirror_0 ?_
  refine kw_aload_n dX3_mirror_1 rfl ?_
  refine kw_aload_n dX3_mirror_2 rfl ?_
  refine kw_aload_n dX3_mirror_3 rfl ?_
  refine k2_callS4N m_X0_multiply dX3_mirror_4 wl_X3_56 (Nat.le_of_ble_eq_true rfl) (kC2_mono H (fun r c2 H => ?_))
  obtain ⟨rfl, H⟩ := H
  refine ⟨rfl, ?_⟩
  refine kw_aload_n dX3_mirror_7 rfl ?_
  refine k2_callS1I m_X0_isWithinBound dX3_mirror_8 wl_X3_63 (Nat.le_of_ble_eq_true rfl) (kC2_mono H (fun r c4 H => ?_))
  obtain ⟨z3, rfl, H⟩ := H
  refine ⟨z3, rfl, ?_⟩
  have o6 := H.1
  have H := H.2
  refine kw_if_ne 16 dX3_mirror_11 (by decide) o6 (fun h5 => ?_) (fun h5 => ?_)
  · have H := H.1 h5
    refine kw_aload_n dX3_mirror_16 rfl ?_
    refine kw_aload_n dX3_mirror_17 rfl ?_
    refine k2_callS2N m_X0_copy dX3_mirror_18 wl_X3_40 (Nat.le_of_ble_eq_true rfl) (kC2_mono H (fun r c8 H => ?_))
    obtain ⟨rfl, H⟩ := H
    refine ⟨rfl, ?_⟩
    refine kw_aload_n dX3_mirror_21 rfl ?_
    refine k2_callS1N m_X0_reverse dX3_mirror_22 wl_X3_52 (Nat.le_of_ble_eq_true rfl) (kC2_mono H (fun r c10 H => ?_))
    obtain ⟨rfl, H⟩ := H
    refine ⟨rfl, ?_⟩
    refine kw_iconst dX3_mirror_25 ?_
    refine kw_aload_n dX3_mirror_26 rfl ?_
    refine kw_aload_n dX3_mirror_27 rfl ?_
    refine kw_aload dX3_mirror_28 rfl ?_
    refine k2_callS4N m_X0_multiply dX3_mirror_30 wl_X3_56 (Nat.le_of_ble_eq_true rfl) (kC2_mono H (fun r c12 H => ?_))
    obtain ⟨rfl, H⟩ := H
    refine ⟨rfl, ?_⟩
    refine kw_aload dX3_mirror_33 rfl ?_
    refine k2_callS1I m_X0_isWithinBound dX3_mirror_35 wl_X3_63 (Nat.le_of_ble_eq_true rfl) (kC2_mono H (fun r c14 H => ?_))
    obtain ⟨z13, rfl, H⟩ := H
    refine ⟨z13, rfl, ?_⟩
    have o15 := H.1
    have H := H.2
    refine k2_zret dX3_mirror_38 rfl o15 H
  · have H := H.2 h5
    refine kw_iconst dX3_mirror_14 ?_
    refine k2_zret dX3_mirror_15 rfl (Or.inl rfl) H
set_option maxRecDepth 4000 in
theorem v_X3_turn {G : KG} {S0 : KSh} (hL : kLay S0) {d : Nat} {P : Option AV → KMem → Prop} {c : KMem} {x1 x2 x3 : Int} (hx1 : S0.2.1 x1 = (2, 16)) (hx2 : S0.2.1 x2 = (2, 16)) (hx3 : S0.2.1 x3 = (2, 16)) (H : kC2 G S0 kM_X3_mirror (d + 2) [kA x2, kA x1, kA 524, kA 525, kA x3] c (kRI (fun z1 c2 => (k32 z1) ∧ ((z1 = 0 → ((z1 = 0 ∨ z1 = 1) ∧ (P (some (kI z1)) c2))) ∧ (z1 ≠ 0 → (kC2 G S0 kM_X0_normalise (d + 2) [kA x3] c2 (kRN (fun c7 => (z1 = 0 ∨ z1 = 1) ∧ (P (some (kI z1)) c7))))))))) : kC2 G S0 kM_X3_turn (d + 3) [kA 214, kA x1, kA x2, kA x3] c P := by
  refine k2_met (by decide) rfl (Nat.le_of_ble_eq_true rfl) (l0 := [some (kA 214), some (kA x1), some (kA x2), some (kA x3), none]) rfl ?_
  refine kw_aload_n dX3_turn_0 rfl ?_
  refine kw_aload_n dX3_turn_1 rfl ?_
  refine kw_aload_n dX3_turn_2 rfl ?_
  refine k2_getR fd_X3_3 dX3_turn_3 wf_X3_27 (lsh_214 hL) (lrf_214_3 hL) ?_
  refine kw_aload_n dX3_turn_6 rfl ?_
  refine k2_getR fd_X3_4 dX3_turn_7 wf_X3_31 (lsh_214 hL) (lrf_214_4 hL) ?_
  refine kw_aload_n dX3_turn_10 rfl ?_
  refine k2_callS5I m_X3_mirror dX3_turn_11 wl_X3_67 (Nat.le_of_ble_eq_true rfl) (kC2_mono H (fun r c2 H => ?_))
  obtain ⟨z1, rfl, H⟩ := H
  refine ⟨z1, rfl, ?_⟩
  refine kw_istore dX3_turn_14 (Nat.le_of_ble_eq_true rfl) ?_
  refine kw_iload dX3_turn_16 rfl ?_
  have o4 := H.1
  have H := H.2
  refine kw_if_eq 25 dX3_turn_18 (by decide) o4 (fun h3 => ?_) (fun h3 => ?_)
  · have H := H.1 h3
    refine kw_iload dX3_turn_25 rfl ?_
    have o5 := H.1
    have H := H.2
    refine k2_zret dX3_turn_27 rfl o5 H
  · have H := H.2 h3
    refine kw_aload_n dX3_turn_21 rfl ?_
    refine k2_callS1N m_X0_normalise dX3_turn_22 wl_X3_71 (Nat.le_of_ble_eq_true rfl) (kC2_mono H (fun r c7 H => ?_))
    obtain ⟨rfl, H⟩ := H
    refine ⟨rfl, ?_⟩
    refine kw_iload dX3_turn_25 rfl ?_
    have o8 := H.1
    have H := H.2
    refine k2_zret dX3_turn_27 rfl o8 H
set_option maxRecDepth 4000 in
theorem v_X3_bring {G : KG} {S0 : KSh} (hL : kLay S0) {d : Nat} {P : Option AV → KMem → Prop} {c : KMem} {x1 x2 x3 : Int} (hx1 : S0.2.1 x1 = (2, 16)) (hx2 : S0.2.1 x2 = (2, 16)) (hx3 : S0.2.1 x3 = (17, 5)) (H : kC2 G S0 kM_X3_mirror (d + 4) [kA x1, kA x2, kA 524, kA 525, kA 526] c (kRI (fun z1 c2 => (k32 z1) ∧ ((z1 ≠ 0 → (kC2 G S0 kM_X8_kindOf (d + 4) [kA 526] c2 (kRI (fun z5 c6 => (k32 z5) ∧ ((z5 = 2 → (kC2 G S0 kM_X9_take (d + 4) [kA x3, kA 526] c6 (kRN (fun c10 => P (some (kI 1)) c10)))) ∧ (z5 ≠ 2 → (P (some (kI 0)) c6))))))) ∧ (z1 = 0 → (P (some (kI 0)) c2)))))) : kC2 G S0 kM_X3_bring (d + 5) [kA 214, kA x1, kA x2, kA x3] c P := by
  refine k2_met (by decide) rfl (Nat.le_of_ble_eq_true rfl) (l0 := [some (kA 214), some (kA x1), some (kA x2), some (kA x3)]) rfl ?_
  refine kw_aload_n dX3_bring_0 rfl ?_
  refine kw_aload_n dX3_bring_1 rfl ?_
  refine kw_aload_n dX3_bring_2 rfl ?_
  refine k2_getR fd_X3_3 dX3_bring_3 wf_X3_27 (lsh_214 hL) (lrf_214_3 hL) ?_
  refine kw_aload_n dX3_bring_6 rfl ?_
  refine k2_getR fd_X3_4 dX3_bring_7 wf_X3_31 (lsh_214 hL) (lrf_214_4 hL) ?_
  refine kw_aload_n dX3_bring_10 rfl ?_
  refine k2_getR fd_X3_5 dX3_bring_11 wf_X3_34 (lsh_214 hL) (lrf_214_5 hL) ?_
  refine k2_callS5I m_X3_mirror dX3_bring_14 wl_X3_67 (Nat.le_of_ble_eq_true rfl) (kC2_mono H (fun r c2 H => ?_))
  obtain ⟨z1, rfl, H⟩ := H
  refine ⟨z1, rfl, ?_⟩
  have o4 := H.1
  have H := H.2
  refine kw_if_ne 22 dX3_bring_17 (by decide) o4 (fun h3 => ?_) (fun h3 => ?_)
  · have H := H.1 h3
    refine kw_aload_n dX3_bring_22 rfl ?_
    refine k2_getR fd_X3_5 dX3_bring_23 wf_X3_34 (lsh_214 hL) (lrf_214_5 hL) ?_
    refine k2_callS1I m_X8_kindOf dX3_bring_26 wl_X3_46 (Nat.le_of_ble_eq_true rfl) (kC2_mono H (fun r c6 H => ?_))
    obtain ⟨z5, rfl, H⟩ := H
    refine ⟨z5, rfl, ?_⟩
    refine kw_iconst dX3_bring_29 ?_
    have o8 := H.1
    have H := H.2
    refine kw_icmp_eq 35 dX3_bring_30 (by decide) o8 (k32i (by omega)) (fun h7 => ?_) (fun h7 => ?_)
    · have H := H.1 h7
      refine kw_aload_n dX3_bring_35 rfl ?_
      refine kw_aload_n dX3_bring_36 rfl ?_
      refine k2_getR fd_X3_5 dX3_bring_37 wf_X3_34 (lsh_214 hL) (lrf_214_5 hL) ?_
      refine k2_callV1N (ci := 7) (N := 5) (T := TX9) rfl hx3 m_X9_take dX3_bring_40 wl_X3_74 (Nat.le_of_ble_eq_true rfl) (kC2_mono H (fun r c10 H => ?_))
      obtain ⟨rfl, H⟩ := H
      refine ⟨rfl, ?_⟩
      refine kw_iconst dX3_bring_43 ?_
      refine k2_zret dX3_bring_44 rfl (Or.inr rfl) H
    · have H := H.2 h7
      refine kw_iconst dX3_bring_33 ?_
      refine k2_zret dX3_bring_34 rfl (Or.inl rfl) H
  · have H := H.2 h3
    refine kw_iconst dX3_bring_20 ?_
    refine k2_zret dX3_bring_21 rfl (Or.inl rfl) H
set_option maxRecDepth 4000 in
theorem v_X3_orderOf {G : KG} {S0 : KSh} (hL : kLay S0) {d : Nat} {P : Option AV → KMem → Prop} {c : KMem} {x1 : Int} (hx1 : S0.2.1 x1 = (2, 16)) (H : kC2 G S0 kM_X0_copy (d + 4) [kA x1, kA 526] c (kRN (fun c2 => kW2 G S0 kM_X3_orderOf (d + 5) 10 [some (kA 214), some (kA x1), some (kI 1)] [] c2 P))) : kC2 G S0 kM_X3_orderOf (d + 5) [kA 214, kA x1] c P := by
  refine k2_met (by decide) rfl (Nat.le_of_ble_eq_true rfl) (l0 := [some (kA 214), some (kA x1), none]) rfl ?_
  refine kw_aload_n dX3_orderOf_0 rfl ?_
  refine kw_aload_n dX3_orderOf_1 rfl ?_
  refine k2_getR fd_X3_5 dX3_orderOf_2 wf_X3_34 (lsh_214 hL) (lrf_214_5 hL) ?_
  refine k2_callS2N m_X0_copy dX3_orderOf_5 wl_X3_40 (Nat.le_of_ble_eq_true rfl) (kC2_mono H (fun r c2 H => ?_))
  obtain ⟨rfl, H⟩ := H
  refine ⟨rfl, ?_⟩
  refine kw_iconst dX3_orderOf_8 ?_
  refine kw_istore_n dX3_orderOf_9 (Nat.le_of_ble_eq_true rfl) ?_
  exact kw_forget (ls' := [some (kA 214), some (kA x1), some (kI 1)]) ⟨Or.inr rfl, ⟨Or.inr rfl, ⟨Or.inr rfl, trivial⟩⟩⟩ H
set_option maxRecDepth 4000 in
theorem v_X3_orderOf_10 {G : KG} {S0 : KSh} (hL : kLay S0) {d : Nat} {P : Option AV → KMem → Prop} {c : KMem} {x1 x2 : Int} (hx1 : S0.2.1 x1 = (2, 16)) (r2 : 0 ≤ x2 ∧ x2 < 2147483648) (H : (24 < x2 → (P (some (kI (-2))) c)) ∧ (x2 ≤ 24 → (kC2 G S0 kM_X0_normalise (d + 4) [kA 526] c (kRN (fun c5 => kC2 G S0 kM_X8_kindOf (d + 4) [kA 526] c5 (kRI (fun z6 c7 => (k32 z6) ∧ ((z6 ≠ 1 → (kC2 G S0 kM_X0_copy (d + 4) [kA 526, kA 524] c7 (kRN (fun c11 => kC2 G S0 kM_X0_multiply (d + 4) [kI 0, kA 524, kA x1, kA 526] c11 (kRN (fun c13 => kC2 G S0 kM_X0_isWithinBound (d + 4) [kA 526] c13 (kRI (fun z14 c15 => (k32 z14) ∧ ((z14 ≠ 0 → (kW2 G S0 kM_X3_orderOf (d + 5) 10 [some (kA 214), some (kA x1), some (kI (x2 + 1))] [] c15 P)) ∧ (z14 = 0 → (P (some (kI (-2))) c15))))))))))) ∧ (z6 = 1 → (P (some (kI x2)) c7)))))))))) : kW2 G S0 kM_X3_orderOf (d + 5) 10 [some (kA 214), some (kA x1), some (kI x2)] [] c P := by
  refine kw_iload_n dX3_orderOf_10 rfl ?_
  refine kw_bipush dX3_orderOf_11 (by decide) ?_
  refine kw_icmp_gt 79 dX3_orderOf_13 (by decide) (k32i (by omega)) (k32i (by omega)) (fun h3 => ?_) (fun h3 => ?_)
  · have H := H.1 h3
    refine kw_bipush dX3_orderOf_79 (by decide) ?_
    refine k2_iret dX3_orderOf_81 rfl H
  · have H := H.2 h3
    refine kw_aload_n dX3_orderOf_16 rfl ?_
    refine k2_getR fd_X3_5 dX3_orderOf_17 wf_X3_34 (lsh_214 hL) (lrf_214_5 hL) ?_
    refine k2_callS1N m_X0_normalise dX3_orderOf_20 wl_X3_71 (Nat.le_of_ble_eq_true rfl) (kC2_mono H (fun r c5 H => ?_))
    obtain ⟨rfl, H⟩ := H
    refine ⟨rfl, ?_⟩
    refine kw_aload_n dX3_orderOf_23 rfl ?_
    refine k2_getR fd_X3_5 dX3_orderOf_24 wf_X3_34 (lsh_214 hL) (lrf_214_5 hL) ?_
    refine k2_callS1I m_X8_kindOf dX3_orderOf_27 wl_X3_46 (Nat.le_of_ble_eq_true rfl) (kC2_mono H (fun r c7 H => ?_))
    obtain ⟨z6, rfl, H⟩ := H
    refine ⟨z6, rfl, ?_⟩
    refine kw_iconst dX3_orderOf_30 ?_
    have o9 := H.1
    have H := H.2
    refine kw_icmp_ne 36 dX3_orderOf_31 (by decide) o9 (k32i (by omega)) (fun h8 => ?_) (fun h8 => ?_)
    · have H := H.1 h8
      refine kw_aload_n dX3_orderOf_36 rfl ?_
      refine k2_getR fd_X3_5 dX3_orderOf_37 wf_X3_34 (lsh_214 hL) (lrf_214_5 hL) ?_
      refine kw_aload_n dX3_orderOf_40 rfl ?_
      refine k2_getR fd_X3_3 dX3_orderOf_41 wf_X3_27 (lsh_214 hL) (lrf_214_3 hL) ?_
      refine k2_callS2N m_X0_copy dX3_orderOf_44 wl_X3_40 (Nat.le_of_ble_eq_true rfl) (kC2_mono H (fun r c11 H => ?_))
      obtain ⟨rfl, H⟩ := H
      refine ⟨rfl, ?_⟩
      refine kw_iconst dX3_orderOf_47 ?_
      refine kw_aload_n dX3_orderOf_48 rfl ?_
      refine k2_getR fd_X3_3 dX3_orderOf_49 wf_X3_27 (lsh_214 hL) (lrf_214_3 hL) ?_
      refine kw_aload_n dX3_orderOf_52 rfl ?_
      refine kw_aload_n dX3_orderOf_53 rfl ?_
      refine k2_getR fd_X3_5 dX3_orderOf_54 wf_X3_34 (lsh_214 hL) (lrf_214_5 hL) ?_
      refine k2_callS4N m_X0_multiply dX3_orderOf_57 wl_X3_56 (Nat.le_of_ble_eq_true rfl) (kC2_mono H (fun r c13 H => ?_))
      obtain ⟨rfl, H⟩ := H
      refine ⟨rfl, ?_⟩
      refine kw_aload_n dX3_orderOf_60 rfl ?_
      refine k2_getR fd_X3_5 dX3_orderOf_61 wf_X3_34 (lsh_214 hL) (lrf_214_5 hL) ?_
      refine k2_callS1I m_X0_isWithinBound dX3_orderOf_64 wl_X3_63 (Nat.le_of_ble_eq_true rfl) (kC2_mono H (fun r c15 H => ?_))
      obtain ⟨z14, rfl, H⟩ := H
      refine ⟨z14, rfl, ?_⟩
      have o17 := H.1
      have H := H.2
      refine kw_if_ne 73 dX3_orderOf_67 (by decide) o17 (fun h16 => ?_) (fun h16 => ?_)
      · have H := H.1 h16
        refine kw_iinc dX3_orderOf_73 rfl ?_
        refine kw_goto 10 dX3_orderOf_76 (by decide) ?_
        exact kw_forget (ls' := [some (kA 214), some (kA x1), some (kI (x2 + 1))]) ⟨Or.inr rfl, ⟨Or.inr rfl, ⟨Or.inr rfl, trivial⟩⟩⟩ H
      · have H := H.2 h16
        refine kw_bipush dX3_orderOf_70 (by decide) ?_
        refine k2_iret dX3_orderOf_72 rfl H
    · have H := H.2 h8
      refine kw_iload_n dX3_orderOf_34 rfl ?_
      refine k2_iret dX3_orderOf_35 rfl H
set_option maxRecDepth 4000 in
theorem v_X4_takeOutcome {G : KG} {S0 : KSh} (hL : kLay S0) {d : Nat} {P : Option AV → KMem → Prop} {c : KMem} {x1 : Int} (hx1 : S0.2.1 x1 = (17, 5)) (H : kC2 G S0 kM_X0_isWithinBound (d + 4) [kA 532] c (kRI (fun z1 c2 => (k32 z1) ∧ ((z1 = 0 → (P (some (kI 0)) c2)) ∧ (z1 ≠ 0 → (kC2 G S0 kM_X8_kindOf (d + 4) [kA 532] c2 (kRI (fun z5 c6 => (k32 z5) ∧ ((z5 = 2 → (kC2 G S0 kM_X9_take (d + 4) [kA x1, kA 532] c6 (kRN (fun c10 => P (some (kI 1)) c10)))) ∧ (z5 ≠ 2 → (P (some (kI 0)) c6))))))))))) : kC2 G S0 kM_X4_takeOutcome (d + 5) [kA 528, kA x1] c P := by
  refine k2_met (by decide) rfl (Nat.le_of_ble_eq_true rfl) (l0 := [some (kA 528), some (kA x1)]) rfl ?_
  refine kw_aload_n dX4_takeOutcome_0 rfl ?_
  refine k2_getR fd_X4_3 dX4_takeOutcome_1 wf_X4_21 (lsh_528 hL) (lrf_528_3 hL) ?_
  refine k2_callS1I m_X0_isWithinBound dX4_takeOutcome_4 wl_X4_30 (Nat.le_of_ble_eq_true rfl) (kC2_mono H (fun r c2 H => ?_))
  obtain ⟨z1, rfl, H⟩ := H
  refine ⟨z1, rfl, ?_⟩
  have o4 := H.1
  have H := H.2
  refine kw_if_eq 21 dX4_takeOutcome_7 (by decide) o4 (fun h3 => ?_) (fun h3 => ?_)
  · have H := H.1 h3
    refine kw_iconst dX4_takeOutcome_21 ?_
    refine k2_zret dX4_takeOutcome_22 rfl (Or.inl rfl) H
  · have H := H.2 h3
    refine kw_aload_n dX4_takeOutcome_10 rfl ?_
    refine k2_getR fd_X4_3 dX4_takeOutcome_11 wf_X4_21 (lsh_528 hL) (lrf_528_3 hL) ?_
    refine k2_callS1I m_X8_kindOf dX4_takeOutcome_14 wl_X4_42 (Nat.le_of_ble_eq_true rfl) (kC2_mono H (fun r c6 H => ?_))
    obtain ⟨z5, rfl, H⟩ := H
    refine ⟨z5, rfl, ?_⟩
    refine kw_iconst dX4_takeOutcome_17 ?_
    have o8 := H.1
    have H := H.2
    refine kw_icmp_eq 23 dX4_takeOutcome_18 (by decide) o8 (k32i (by omega)) (fun h7 => ?_) (fun h7 => ?_)
    · have H := H.1 h7
      refine kw_aload_n dX4_takeOutcome_23 rfl ?_
      refine kw_aload_n dX4_takeOutcome_24 rfl ?_
      refine k2_getR fd_X4_3 dX4_takeOutcome_25 wf_X4_21 (lsh_528 hL) (lrf_528_3 hL) ?_
      refine k2_callV1N (ci := 7) (N := 5) (T := TX9) rfl hx1 m_X9_take dX4_takeOutcome_28 wl_X4_48 (Nat.le_of_ble_eq_true rfl) (kC2_mono H (fun r c10 H => ?_))
      obtain ⟨rfl, H⟩ := H
      refine ⟨rfl, ?_⟩
      refine kw_iconst dX4_takeOutcome_31 ?_
      refine k2_zret dX4_takeOutcome_32 rfl (Or.inr rfl) H
    · have H := H.2 h7
      refine kw_iconst dX4_takeOutcome_21 ?_
      refine k2_zret dX4_takeOutcome_22 rfl (Or.inl rfl) H
set_option maxRecDepth 4000 in
theorem v_X4_findMiddle {G : KG} {S0 : KSh} (hL : kLay S0) {d : Nat} {P : Option AV → KMem → Prop} {c : KMem} {x1 x2 : Int} (hx1 : S0.2.1 x1 = (2, 16)) (hx2 : S0.2.1 x2 = (17, 5)) (H : kC2 G S0 kM_X0_multiply (d + 5) [kI 0, kA x1, kA 529, kA 530] c (kRN (fun c2 => kC2 G S0 kM_X0_isWithinBound (d + 5) [kA 530] c2 (kRI (fun z3 c4 => (k32 z3) ∧ ((z3 ≠ 0 → (kC2 G S0 kM_X0_multiply (d + 5) [kI 0, kA 530, kA x1, kA 532] c4 (kRN (fun c8 => kC2 G S0 kM_X4_takeOutcome (d + 5) [kA 528, kA x2] c8 (kRI (fun z9 c10 => (z9 = 0 ∨ z9 = 1) ∧ (P (some (kI z9)) c10))))))) ∧ (z3 = 0 → (P (some (kI 0)) c4)))))))) : kC2 G S0 kM_X4_findMiddle (d + 6) [kA 528, kA x1, kA x2] c P := by
  refine k2_met (by decide) rfl (Nat.le_of_ble_eq_true rfl) (l0 := [some (kA 528), some (kA x1), some (kA x2)]) rfl ?_
  refine kw_iconst dX4_findMiddle_0 ?_
  refine kw_aload_n dX4_findMiddle_1 rfl ?_
  refine kw_aload_n dX4_findMiddle_2 rfl ?_
  refine k2_getR fd_X4_0 dX4_findMiddle_3 wf_X4_9 (lsh_528 hL) (lrf_528_0 hL) ?_
  refine kw_aload_n dX4_findMiddle_6 rfl ?_
  refine k2_getR fd_X4_1 dX4_findMiddle_7 wf_X4_15 (lsh_528 hL) (lrf_528_1 hL) ?_
  refine k2_callS4N m_X0_multiply dX4_findMiddle_10 wl_X4_26 (Nat.le_of_ble_eq_true rfl) (kC2_mono H (fun r c2 H => ?_))
  obtain ⟨rfl, H⟩ := H
  refine ⟨rfl, ?_⟩
  refine kw_aload_n dX4_findMiddle_13 rfl ?_
  refine k2_getR fd_X4_1 dX4_findMiddle_14 wf_X4_15 (lsh_528 hL) (lrf_528_1 hL) ?_
  refine k2_callS1I m_X0_isWithinBound dX4_findMiddle_17 wl_X4_30 (Nat.le_of_ble_eq_true rfl) (kC2_mono H (fun r c4 H => ?_))
  obtain ⟨z3, rfl, H⟩ := H
  refine ⟨z3, rfl, ?_⟩
  have o6 := H.1
  have H := H.2
  refine kw_if_ne 25 dX4_findMiddle_20 (by decide) o6 (fun h5 => ?_) (fun h5 => ?_)
  · have H := H.1 h5
    refine kw_iconst dX4_findMiddle_25 ?_
    refine kw_aload_n dX4_findMiddle_26 rfl ?_
    refine k2_getR fd_X4_1 dX4_findMiddle_27 wf_X4_15 (lsh_528 hL) (lrf_528_1 hL) ?_
    refine kw_aload_n dX4_findMiddle_30 rfl ?_
    refine kw_aload_n dX4_findMiddle_31 rfl ?_
    refine k2_getR fd_X4_3 dX4_findMiddle_32 wf_X4_21 (lsh_528 hL) (lrf_528_3 hL) ?_
    refine k2_callS4N m_X0_multiply dX4_findMiddle_35 wl_X4_26 (Nat.le_of_ble_eq_true rfl) (kC2_mono H (fun r c8 H => ?_))
    obtain ⟨rfl, H⟩ := H
    refine ⟨rfl, ?_⟩
    refine kw_aload_n dX4_findMiddle_38 rfl ?_
    refine kw_aload_n dX4_findMiddle_39 rfl ?_
    refine k2_callV1I (ci := 3) (N := 4) (T := TX4) rfl (lsh_528 hL) m_X4_takeOutcome dX4_findMiddle_40 wl_X4_34 (Nat.le_of_ble_eq_true rfl) (kC2_mono H (fun r c10 H => ?_))
    obtain ⟨z9, rfl, H⟩ := H
    refine ⟨z9, rfl, ?_⟩
    have o11 := H.1
    have H := H.2
    refine k2_zret dX4_findMiddle_43 rfl o11 H
  · have H := H.2 h5
    refine kw_iconst dX4_findMiddle_23 ?_
    refine k2_zret dX4_findMiddle_24 rfl (Or.inl rfl) H
set_option maxRecDepth 4000 in
theorem v_X4_findEnd {G : KG} {S0 : KSh} (hL : kLay S0) {d : Nat} {P : Option AV → KMem → Prop} {c : KMem} {x1 x2 x4 : Int} (hx1 : S0.2.1 x1 = (2, 16)) (hx4 : S0.2.1 x4 = (17, 5)) (H : kC2 G S0 kM_X0_multiply (d + 5) [kI 2, kA 529, kA x1, kA 530] c (kRN (fun c2 => kC2 G S0 kM_X0_copy (d + 5) [kA x1, kA 531] c2 (kRN (fun c4 => kC2 G S0 kM_X0_isWithinBound (d + 5) [kA 530] (kup c4 531 0 ((c4 531 0) + x2)) (kRI (fun z5 c6 => (k32 z5) ∧ ((z5 = 0 → (P (some (kI 0)) c6)) ∧ (z5 ≠ 0 → (kC2 G S0 kM_X0_isWithinBound (d + 5) [kA 531] c6 (kRI (fun z9 c10 => (k32 z9) ∧ ((z9 ≠ 0 → (kC2 G S0 kM_X0_multiply (d + 5) [kI 0, kA 531, kA 530, kA 532] c10 (kRN (fun c14 => kC2 G S0 kM_X4_takeOutcome (d + 5) [kA 528, kA x4] c14 (kRI (fun z15 c16 => (z15 = 0 ∨ z15 = 1) ∧ (P (some (kI z15)) c16))))))) ∧ (z9 = 0 → (P (some (kI 0)) c10))))))))))))))) : kC2 G S0 kM_X4_findEnd (d + 6) [kA 528, kA x1, kL x2, kA x4] c P := by
  refine k2_met (by decide) rfl (Nat.le_of_ble_eq_true rfl) (l0 := [some (kA 528), some (kA x1), some (kL x2), none, some (kA x4)]) rfl ?_
  refine kw_iconst dX4_findEnd_0 ?_
  refine kw_aload_n dX4_findEnd_1 rfl ?_
  refine k2_getR fd_X4_0 dX4_findEnd_2 wf_X4_9 (lsh_528 hL) (lrf_528_0 hL) ?_
  refine kw_aload_n dX4_findEnd_5 rfl ?_
  refine kw_aload_n dX4_findEnd_6 rfl ?_
  refine k2_getR fd_X4_1 dX4_findEnd_7 wf_X4_15 (lsh_528 hL) (lrf_528_1 hL) ?_
  refine k2_callS4N m_X0_multiply dX4_findEnd_10 wl_X4_26 (Nat.le_of_ble_eq_true rfl) (kC2_mono H (fun r c2 H => ?_))
  obtain ⟨rfl, H⟩ := H
  refine ⟨rfl, ?_⟩
  refine kw_aload_n dX4_findEnd_13 rfl ?_
  refine kw_aload_n dX4_findEnd_14 rfl ?_
  refine k2_getR fd_X4_2 dX4_findEnd_15 wf_X4_18 (lsh_528 hL) (lrf_528_2 hL) ?_
  refine k2_callS2N m_X0_copy dX4_findEnd_18 wl_X4_38 (Nat.le_of_ble_eq_true rfl) (kC2_mono H (fun r c4 H => ?_))
  obtain ⟨rfl, H⟩ := H
  refine ⟨rfl, ?_⟩
  refine kw_aload_n dX4_findEnd_21 rfl ?_
  refine k2_getR fd_X4_2 dX4_findEnd_22 wf_X4_18 (lsh_528 hL) (lrf_528_2 hL) ?_
  refine kw_iconst dX4_findEnd_25 ?_
  refine kw_dup2 dX4_findEnd_26 rfl rfl ?_
  refine k2_lald dX4_findEnd_27 (lsh_531 hL) (by omega) (by omega) ?_
  refine kw_lload_n dX4_findEnd_28 rfl ?_
  refine kw_ladd dX4_findEnd_29 ?_
  refine k2_last dX4_findEnd_30 (lsh_531 hL) (by omega) (by omega) ?_
  refine kw_aload_n dX4_findEnd_31 rfl ?_
  refine k2_getR fd_X4_1 dX4_findEnd_32 wf_X4_15 (lsh_528 hL) (lrf_528_1 hL) ?_
  refine k2_callS1I m_X0_isWithinBound dX4_findEnd_35 wl_X4_30 (Nat.le_of_ble_eq_true rfl) (kC2_mono H (fun r c6 H => ?_))
  obtain ⟨z5, rfl, H⟩ := H
  refine ⟨z5, rfl, ?_⟩
  have o8 := H.1
  have H := H.2
  refine kw_if_eq 51 dX4_findEnd_38 (by decide) o8 (fun h7 => ?_) (fun h7 => ?_)
  · have H := H.1 h7
    refine kw_iconst dX4_findEnd_51 ?_
    refine k2_zret dX4_findEnd_52 rfl (Or.inl rfl) H
  · have H := H.2 h7
    refine kw_aload_n dX4_findEnd_41 rfl ?_
    refine k2_getR fd_X4_2 dX4_findEnd_42 wf_X4_18 (lsh_528 hL) (lrf_528_2 hL) ?_
    refine k2_callS1I m_X0_isWithinBound dX4_findEnd_45 wl_X4_30 (Nat.le_of_ble_eq_true rfl) (kC2_mono H (fun r c10 H => ?_))
    obtain ⟨z9, rfl, H⟩ := H
    refine ⟨z9, rfl, ?_⟩
    have o12 := H.1
    have H := H.2
    refine kw_if_ne 53 dX4_findEnd_48 (by decide) o12 (fun h11 => ?_) (fun h11 => ?_)
    · have H := H.1 h11
      refine kw_iconst dX4_findEnd_53 ?_
      refine kw_aload_n dX4_findEnd_54 rfl ?_
      refine k2_getR fd_X4_2 dX4_findEnd_55 wf_X4_18 (lsh_528 hL) (lrf_528_2 hL) ?_
      refine kw_aload_n dX4_findEnd_58 rfl ?_
      refine k2_getR fd_X4_1 dX4_findEnd_59 wf_X4_15 (lsh_528 hL) (lrf_528_1 hL) ?_
      refine kw_aload_n dX4_findEnd_62 rfl ?_
      refine k2_getR fd_X4_3 dX4_findEnd_63 wf_X4_21 (lsh_528 hL) (lrf_528_3 hL) ?_
      refine k2_callS4N m_X0_multiply dX4_findEnd_66 wl_X4_26 (Nat.le_of_ble_eq_true rfl) (kC2_mono H (fun r c14 H => ?_))
      obtain ⟨rfl, H⟩ := H
      refine ⟨rfl, ?_⟩
      refine kw_aload_n dX4_findEnd_69 rfl ?_
      refine kw_aload dX4_findEnd_70 rfl ?_
      refine k2_callV1I (ci := 3) (N := 4) (T := TX4) rfl (lsh_528 hL) m_X4_takeOutcome dX4_findEnd_72 wl_X4_34 (Nat.le_of_ble_eq_true rfl) (kC2_mono H (fun r c16 H => ?_))
      obtain ⟨z15, rfl, H⟩ := H
      refine ⟨z15, rfl, ?_⟩
      have o17 := H.1
      have H := H.2
      refine k2_zret dX4_findEnd_75 rfl o17 H
    · have H := H.2 h11
      refine kw_iconst dX4_findEnd_51 ?_
      refine k2_zret dX4_findEnd_52 rfl (Or.inl rfl) H
set_option maxRecDepth 4000 in
theorem v_X4_half {G : KG} {S0 : KSh} (hL : kLay S0) {d : Nat} {P : Option AV → KMem → Prop} {c : KMem} {x1 x2 : Int} (hx1 : S0.2.1 x1 = (2, 16)) (r2 : -2147483648 ≤ x2 ∧ x2 < 2147483648) (H : kC2 G S0 kM_X0_multiply (d + 2) [kI 2, kA 529, kA x1, kA 530] c (kRN (fun c2 => kC2 G S0 kM_X0_square (d + 2) [kA x1] c2 (kRL (fun z3 c4 => kC2 G S0 kM_X0_square (d + 2) [kA 530] c4 (kRL (fun z5 c6 => (k64 z5) ∧ ((z5 = 0 → (P (some (kL (-3000000000000000000))) c6)) ∧ (z5 ≠ 0 → ((k64 z3) ∧ (((100000000 < z3 ∨ z3 < -100000000) → (P (some (kL (-3000000000000000000))) c6)) ∧ (¬ (100000000 < z3 ∨ z3 < -100000000) → (((100000000 < z5 ∨ z5 < -100000000) → (P (some (kL (-3000000000000000000))) c6)) ∧ (¬ (100000000 < z5 ∨ z5 < -100000000) → (kC2 G S0 kM_X0_lowest (d + 2) [kL z3, kL z5, kI x2] c6 (kRL (fun z16 c17 => P (some (kL z16)) c17))))))))))))))))) : kC2 G S0 kM_X4_half (d + 3) [kA 528, kA x1, kI x2] c P := by
  refine k2_met (by decide) rfl (Nat.le_of_ble_eq_true rfl) (l0 := [some (kA 528), some (kA x1), some (kI x2), none, none, none, none]) rfl ?_
  refine kw_iconst dX4_half_0 ?_
  refine kw_aload_n dX4_half_1 rfl ?_
  refine k2_getR fd_X4_0 dX4_half_2 wf_X4_9 (lsh_528 hL) (lrf_528_0 hL) ?_
  refine kw_aload_n dX4_half_5 rfl ?_
  refine kw_aload_n dX4_half_6 rfl ?_
  refine k2_getR fd_X4_1 dX4_half_7 wf_X4_15 (lsh_528 hL) (lrf_528_1 hL) ?_
  refine k2_callS4N m_X0_multiply dX4_half_10 wl_X4_26 (Nat.le_of_ble_eq_true rfl) (kC2_mono H (fun r c2 H => ?_))
  obtain ⟨rfl, H⟩ := H
  refine ⟨rfl, ?_⟩
  refine kw_aload_n dX4_half_13 rfl ?_
  refine k2_callS1L m_X0_square dX4_half_14 wl_X4_54 (Nat.le_of_ble_eq_true rfl) (kC2_mono H (fun r c4 H => ?_))
  obtain ⟨z3, rfl, H⟩ := H
  refine ⟨z3, rfl, ?_⟩
  refine kw_lstore_n dX4_half_17 (Nat.le_of_ble_eq_true rfl) ?_
  refine kw_aload_n dX4_half_18 rfl ?_
  refine k2_getR fd_X4_1 dX4_half_19 wf_X4_15 (lsh_528 hL) (lrf_528_1 hL) ?_
  refine k2_callS1L m_X0_square dX4_half_22 wl_X4_54 (Nat.le_of_ble_eq_true rfl) (kC2_mono H (fun r c6 H => ?_))
  obtain ⟨z5, rfl, H⟩ := H
  refine ⟨z5, rfl, ?_⟩
  refine kw_lstore dX4_half_25 (Nat.le_of_ble_eq_true rfl) ?_
  refine kw_lload dX4_half_27 rfl ?_
  refine kw_lconst0 dX4_half_29 ?_
  have o7 := H.1
  have H := H.2
  refine kw_lcmp_eq 49 dX4_half_30 dX4_half_31 (by decide) o7 (k64i (by omega)) (fun h8 => ?_) (fun h8 => ?_)
  · have H := H.1 h8
    refine kw_ldc2 dX4_half_49 wk_X4_62 ?_
    refine k2_lret dX4_half_52 rfl H
  · have H := H.2 h8
    refine kw_lload_n dX4_half_34 rfl ?_
    have o9 := H.1
    have H := H.2
    refine k2_callSN1I m_X10_isBeyond dX4_half_35 wl_X4_58 (Nat.le_of_ble_eq_true rfl) (s_X10_isBeyond hL o9 (fun h10 => ⟨_, rfl, ?_⟩) (fun h10 => ⟨_, rfl, ?_⟩))
    · have H := H.1 h10
      refine kw_if_ne 49 dX4_half_38 (by decide) (k32i (by omega)) (fun _ => ?_) (fun h11 => absurd h11 (by decide))
      refine kw_ldc2 dX4_half_49 wk_X4_62 ?_
      refine k2_lret dX4_half_52 rfl H
    · have H := H.2 h10
      refine kw_if_ne 49 dX4_half_38 (by decide) (k32i (by omega)) (fun h12 => absurd h12 (by decide)) (fun _ => ?_)
      refine kw_lload dX4_half_41 rfl ?_
      refine k2_callSN1I m_X10_isBeyond dX4_half_43 wl_X4_58 (Nat.le_of_ble_eq_true rfl) (s_X10_isBeyond hL o7 (fun h13 => ⟨_, rfl, ?_⟩) (fun h13 => ⟨_, rfl, ?_⟩))
      · have H := H.1 h13
        refine kw_if_eq 53 dX4_half_46 (by decide) (k32i (by omega)) (fun h14 => absurd h14 (by decide)) (fun _ => ?_)
        refine kw_ldc2 dX4_half_49 wk_X4_62 ?_
        refine k2_lret dX4_half_52 rfl H
      · have H := H.2 h13
        refine kw_if_eq 53 dX4_half_46 (by decide) (k32i (by omega)) (fun _ => ?_) (fun h15 => absurd h15 (by decide))
        refine kw_lload_n dX4_half_53 rfl ?_
        refine kw_lload dX4_half_54 rfl ?_
        refine kw_iload_n dX4_half_56 rfl ?_
        refine k2_callS3L m_X0_lowest dX4_half_57 wl_X4_64 (Nat.le_of_ble_eq_true rfl) (kC2_mono H (fun r c17 H => ?_))
        obtain ⟨z16, rfl, H⟩ := H
        refine ⟨z16, rfl, ?_⟩
        refine k2_lret dX4_half_60 rfl H
set_option maxRecDepth 4000 in
theorem v_X2_areLike {G : KG} {S0 : KSh} (hL : kLay S0) {d : Nat} {P : Option AV → KMem → Prop} {c : KMem} {x1 x2 : Int} (hx1 : S0.2.1 x1 = (2, 16)) (hx2 : S0.2.1 x2 = (2, 16)) (H : kC2 G S0 kM_X0_isZero (d + 1) [kA x1] c (kRI (fun z1 c2 => (k32 z1) ∧ ((z1 ≠ 0 → (P (some (kI 0)) c2)) ∧ (z1 = 0 → (kC2 G S0 kM_X0_isZero (d + 1) [kA x2] c2 (kRI (fun z5 c6 => (k32 z5) ∧ ((z5 = 0 → (kC2 G S0 kM_X0_copy (d + 1) [kA x1, kA 551] c6 (kRN (fun c10 => kC2 G S0 kM_X0_copy (d + 1) [kA x2, kA 552] c10 (kRN (fun c12 => kC2 G S0 kM_X0_normalise (d + 1) [kA 551] c12 (kRN (fun c14 => kC2 G S0 kM_X0_normalise (d + 1) [kA 552] c14 (kRN (fun c16 => kC2 G S0 kM_X0_isSame (d + 1) [kA 551, kA 552] c16 (kRI (fun z17 c18 => (z17 = 0 ∨ z17 = 1) ∧ (P (some (kI z17)) c18))))))))))))) ∧ (z5 ≠ 0 → (P (some (kI 0)) c6))))))))))) : kC2 G S0 kM_X2_areLike (d + 2) [kA 533, kA x1, kA x2] c P := by
  refine k2_met (by decide) rfl (Nat.le_of_ble_eq_true rfl) (l0 := [some (kA 533), some (kA x1), some (kA x2)]) rfl ?_
  refine kw_aload_n dX2_areLike_0 rfl ?_
  refine k2_callS1I m_X0_isZero dX2_areLike_1 wl_X2_95 (Nat.le_of_ble_eq_true rfl) (kC2_mono H (fun r c2 H => ?_))
  obtain ⟨z1, rfl, H⟩ := H
  refine ⟨z1, rfl, ?_⟩
  have o4 := H.1
  have H := H.2
  refine kw_if_ne 14 dX2_areLike_4 (by decide) o4 (fun h3 => ?_) (fun h3 => ?_)
  · have H := H.1 h3
    refine kw_iconst dX2_areLike_14 ?_
    refine k2_zret dX2_areLike_15 rfl (Or.inl rfl) H
  · have H := H.2 h3
    refine kw_aload_n dX2_areLike_7 rfl ?_
    refine k2_callS1I m_X0_isZero dX2_areLike_8 wl_X2_95 (Nat.le_of_ble_eq_true rfl) (kC2_mono H (fun r c6 H => ?_))
    obtain ⟨z5, rfl, H⟩ := H
    refine ⟨z5, rfl, ?_⟩
    have o8 := H.1
    have H := H.2
    refine kw_if_eq 16 dX2_areLike_11 (by decide) o8 (fun h7 => ?_) (fun h7 => ?_)
    · have H := H.1 h7
      refine kw_aload_n dX2_areLike_16 rfl ?_
      refine kw_aload_n dX2_areLike_17 rfl ?_
      refine k2_getR fd_X2_5 dX2_areLike_18 wf_X2_30 (lsh_533 hL) (lrf_533_5 hL) ?_
      refine k2_callS2N m_X0_copy dX2_areLike_21 wl_X2_98 (Nat.le_of_ble_eq_true rfl) (kC2_mono H (fun r c10 H => ?_))
      obtain ⟨rfl, H⟩ := H
      refine ⟨rfl, ?_⟩
      refine kw_aload_n dX2_areLike_24 rfl ?_
      refine kw_aload_n dX2_areLike_25 rfl ?_
      refine k2_getR fd_X2_6 dX2_areLike_26 wf_X2_33 (lsh_533 hL) (lrf_533_6 hL) ?_
      refine k2_callS2N m_X0_copy dX2_areLike_29 wl_X2_98 (Nat.le_of_ble_eq_true rfl) (kC2_mono H (fun r c12 H => ?_))
      obtain ⟨rfl, H⟩ := H
      refine ⟨rfl, ?_⟩
      refine kw_aload_n dX2_areLike_32 rfl ?_
      refine k2_getR fd_X2_5 dX2_areLike_33 wf_X2_30 (lsh_533 hL) (lrf_533_5 hL) ?_
      refine k2_callS1N m_X0_normalise dX2_areLike_36 wl_X2_102 (Nat.le_of_ble_eq_true rfl) (kC2_mono H (fun r c14 H => ?_))
      obtain ⟨rfl, H⟩ := H
      refine ⟨rfl, ?_⟩
      refine kw_aload_n dX2_areLike_39 rfl ?_
      refine k2_getR fd_X2_6 dX2_areLike_40 wf_X2_33 (lsh_533 hL) (lrf_533_6 hL) ?_
      refine k2_callS1N m_X0_normalise dX2_areLike_43 wl_X2_102 (Nat.le_of_ble_eq_true rfl) (kC2_mono H (fun r c16 H => ?_))
      obtain ⟨rfl, H⟩ := H
      refine ⟨rfl, ?_⟩
      refine kw_aload_n dX2_areLike_46 rfl ?_
      refine k2_getR fd_X2_5 dX2_areLike_47 wf_X2_30 (lsh_533 hL) (lrf_533_5 hL) ?_
      refine kw_aload_n dX2_areLike_50 rfl ?_
      refine k2_getR fd_X2_6 dX2_areLike_51 wf_X2_33 (lsh_533 hL) (lrf_533_6 hL) ?_
      refine k2_callS2I m_X0_isSame dX2_areLike_54 wl_X2_106 (Nat.le_of_ble_eq_true rfl) (kC2_mono H (fun r c18 H => ?_))
      obtain ⟨z17, rfl, H⟩ := H
      refine ⟨z17, rfl, ?_⟩
      have o19 := H.1
      have H := H.2
      refine k2_zret dX2_areLike_57 rfl o19 H
    · have H := H.2 h7
      refine kw_iconst dX2_areLike_14 ?_
      refine k2_zret dX2_areLike_15 rfl (Or.inl rfl) H
set_option maxRecDepth 4000 in
theorem v_X10_belongs {G : KG} {S0 : KSh} (hL : kLay S0) {d : Nat} {P : Option AV → KMem → Prop} {c : KMem} {x1 x2 : Int} (r1 : -2147483648 ≤ x1 ∧ x1 < 2147483648) (r2 : -2147483648 ≤ x2 ∧ x2 < 2147483648) (H : (x2 ≠ 0 → ((x2 ≠ 1 → ((x2 ≠ 2 → ((x2 ≠ 3 → ((0 ≤ x1 ∧ x1 < 12) ∧ (kC2 G S0 kM_X3_isMotion (d + 5) [kA 214, kA (3 + 2 + x1)] c (kRI (fun z6 c7 => (z6 = 0 ∨ z6 = 1) ∧ (P (some (kI z6)) c7)))))) ∧ (x2 = 3 → (kC2 G S0 kM_X10_kindAt (d + 5) [kA 0, kI x1] c (kRI (fun z9 c10 => (k32 z9) ∧ (((kMir z9) → (P (some (kI 1)) c10)) ∧ (¬ (kMir z9) → (P (some (kI 0)) c10))))))))) ∧ (x2 = 2 → (kC2 G S0 kM_X10_kindAt (d + 5) [kA 0, kI x1] c (kRI (fun z13 c14 => (k32 z13) ∧ (((kObj z13) → (P (some (kI 1)) c14)) ∧ (¬ (kObj z13) → (P (some (kI 0)) c14))))))))) ∧ (x2 = 1 → (kC2 G S0 kM_X10_kindAt (d + 5) [kA 0, kI x1] c (kRI (fun z17 c18 => (k32 z17) ∧ ((z17 ≠ 2 → (P (some (kI 0)) c18)) ∧ (z17 = 2 → (P (some (kI 1)) c18))))))))) ∧ (x2 = 0 → (P (some (kI 1)) c))) : kC2 G S0 kM_X10_belongs (d + 6) [kA 0, kI x1, kI x2] c P := by
  refine k2_met (by decide) rfl (Nat.le_of_ble_eq_true rfl) (l0 := [some (kA 0), some (kI x1), some (kI x2)]) rfl ?_
  refine kw_iload_n dX10_belongs_0 rfl ?_
  refine kw_if_ne 6 dX10_belongs_1 (by decide) (k32i (by omega)) (fun h1 => ?_) (fun h1 => ?_)
  · have H := H.1 h1
    refine kw_iload_n dX10_belongs_6 rfl ?_
    refine kw_iconst dX10_belongs_7 ?_
    refine kw_icmp_ne 26 dX10_belongs_8 (by decide) (k32i (by omega)) (k32i (by omega)) (fun h2 => ?_) (fun h2 => ?_)
    · have H := H.1 h2
      refine kw_iload_n dX10_belongs_26 rfl ?_
      refine kw_iconst dX10_belongs_27 ?_
      refine kw_icmp_ne 40 dX10_belongs_28 (by decide) (k32i (by omega)) (k32i (by omega)) (fun h3 => ?_) (fun h3 => ?_)
      · have H := H.1 h3
        refine kw_iload_n dX10_belongs_40 rfl ?_
        refine kw_iconst dX10_belongs_41 ?_
        refine kw_icmp_ne 54 dX10_belongs_42 (by decide) (k32i (by omega)) (k32i (by omega)) (fun h4 => ?_) (fun h4 => ?_)
        · have H := H.1 h4
          refine kw_aload_n dX10_belongs_54 rfl ?_
          refine k2_getR fd_X10_12 dX10_belongs_55 wf_X10_63 (lsh_0 hL) (lrf_0_12 hL) ?_
          refine kw_aload_n dX10_belongs_58 rfl ?_
          refine k2_getR fd_X10_5 dX10_belongs_59 wf_X10_29 (lsh_0 hL) (lrf_0_5 hL) ?_
          refine kw_iload_n dX10_belongs_62 rfl ?_
          have o5 := H.1
          have H := H.2
          refine k2_callV1A (ci := 0) (N := 2) (T := TX1) rfl (llt_3 hL).1 m_X1_form dX10_belongs_63 wl_X10_142 (Nat.le_of_ble_eq_true rfl) (s_X1_form hL (llt_3 hL) (by omega) o5 ⟨_, rfl, ?_⟩)
          refine k2_callV1I (ci := 2) (N := 7) (T := TX3) rfl (lsh_214 hL) m_X3_isMotion dX10_belongs_66 wl_X10_195 (Nat.le_of_ble_eq_true rfl) (kC2_mono H (fun r c7 H => ?_))
          obtain ⟨z6, rfl, H⟩ := H
          refine ⟨z6, rfl, ?_⟩
          have o8 := H.1
          have H := H.2
          refine k2_zret dX10_belongs_69 rfl o8 H
        · have H := H.2 h4
          refine kw_aload_n dX10_belongs_45 rfl ?_
          refine kw_iload_n dX10_belongs_46 rfl ?_
          refine k2_callV1I (ci := 8) (N := 20) (T := TX10) rfl (lsh_0 hL) m_X10_kindAt dX10_belongs_47 wl_X10_180 (Nat.le_of_ble_eq_true rfl) (kC2_mono H (fun r c10 H => ?_))
          obtain ⟨z9, rfl, H⟩ := H
          refine ⟨z9, rfl, ?_⟩
          have o11 := H.1
          have H := H.2
          refine k2_callS1I m_X8_isMirror dX10_belongs_50 wl_X10_192 (Nat.le_of_ble_eq_true rfl) (s_X8_isMirror hL o11 (fun h12 => ⟨_, rfl, ?_⟩) (fun h12 => ⟨_, rfl, ?_⟩))
          · have H := H.1 h12
            refine k2_zret dX10_belongs_53 rfl (Or.inr rfl) H
          · have H := H.2 h12
            refine k2_zret dX10_belongs_53 rfl (Or.inl rfl) H
      · have H := H.2 h3
        refine kw_aload_n dX10_belongs_31 rfl ?_
        refine kw_iload_n dX10_belongs_32 rfl ?_
        refine k2_callV1I (ci := 8) (N := 20) (T := TX10) rfl (lsh_0 hL) m_X10_kindAt dX10_belongs_33 wl_X10_180 (Nat.le_of_ble_eq_true rfl) (kC2_mono H (fun r c14 H => ?_))
        obtain ⟨z13, rfl, H⟩ := H
        refine ⟨z13, rfl, ?_⟩
        have o15 := H.1
        have H := H.2
        refine k2_callS1I m_X8_isObject dX10_belongs_36 wl_X10_189 (Nat.le_of_ble_eq_true rfl) (s_X8_isObject hL o15 (fun h16 => ⟨_, rfl, ?_⟩) (fun h16 => ⟨_, rfl, ?_⟩))
        · have H := H.1 h16
          refine k2_zret dX10_belongs_39 rfl (Or.inr rfl) H
        · have H := H.2 h16
          refine k2_zret dX10_belongs_39 rfl (Or.inl rfl) H
    · have H := H.2 h2
      refine kw_aload_n dX10_belongs_11 rfl ?_
      refine kw_iload_n dX10_belongs_12 rfl ?_
      refine k2_callV1I (ci := 8) (N := 20) (T := TX10) rfl (lsh_0 hL) m_X10_kindAt dX10_belongs_13 wl_X10_180 (Nat.le_of_ble_eq_true rfl) (kC2_mono H (fun r c18 H => ?_))
      obtain ⟨z17, rfl, H⟩ := H
      refine ⟨z17, rfl, ?_⟩
      refine kw_iconst dX10_belongs_16 ?_
      have o20 := H.1
      have H := H.2
      refine kw_icmp_ne 24 dX10_belongs_17 (by decide) o20 (k32i (by omega)) (fun h19 => ?_) (fun h19 => ?_)
      · have H := H.1 h19
        refine kw_iconst dX10_belongs_24 ?_
        refine k2_zret dX10_belongs_25 rfl (Or.inl rfl) H
      · have H := H.2 h19
        refine kw_iconst dX10_belongs_20 ?_
        refine kw_goto 25 dX10_belongs_21 (by decide) ?_
        refine k2_zret dX10_belongs_25 rfl (Or.inr rfl) H
  · have H := H.2 h1
    refine kw_iconst dX10_belongs_4 ?_
    refine k2_zret dX10_belongs_5 rfl (Or.inr rfl) H
set_option maxRecDepth 4000 in
theorem v_X10_letters {G : KG} {S0 : KSh} (hL : kLay S0) {d : Nat} {P : Option AV → KMem → Prop} {c : KMem} {x1 : Int} (r1 : -2147483648 ≤ x1 ∧ x1 < 2147483648) (H : (x1 < 0 → (P (some (kI (-1))) c)) ∧ (0 ≤ x1 → ((x1 ≤ 4 → (kW2 G S0 kM_X10_letters (d + 7) 15 [some (kA 0), some (kI x1), some (kI 0), some (kI 0)] [] c P)) ∧ (4 < x1 → (P (some (kI (-1))) c))))) : kC2 G S0 kM_X10_letters (d + 7) [kA 0, kI x1] c P := by
  refine k2_met (by decide) rfl (Nat.le_of_ble_eq_true rfl) (l0 := [some (kA 0), some (kI x1), none, none]) rfl ?_
  refine kw_iload_n dX10_letters_0 rfl ?_
  refine kw_if_lt 9 dX10_letters_1 (by decide) (k32i (by omega)) (fun h1 => ?_) (fun h1 => ?_)
  · have H := H.1 h1
    refine kw_iconst dX10_letters_9 ?_
    refine k2_iret dX10_letters_10 rfl H
  · have H := H.2 h1
    refine kw_iload_n dX10_letters_4 rfl ?_
    refine kw_iconst dX10_letters_5 ?_
    refine kw_icmp_le 11 dX10_letters_6 (by decide) (k32i (by omega)) (k32i (by omega)) (fun h2 => ?_) (fun h2 => ?_)
    · have H := H.1 h2
      refine kw_iconst dX10_letters_11 ?_
      refine kw_istore_n dX10_letters_12 (Nat.le_of_ble_eq_true rfl) ?_
      refine kw_iconst dX10_letters_13 ?_
      refine kw_istore_n dX10_letters_14 (Nat.le_of_ble_eq_true rfl) ?_
      exact kw_forget (ls' := [some (kA 0), some (kI x1), some (kI 0), some (kI 0)]) ⟨Or.inr rfl, ⟨Or.inr rfl, ⟨Or.inr rfl, ⟨Or.inr rfl, trivial⟩⟩⟩⟩ H
    · have H := H.2 h2
      refine kw_iconst dX10_letters_9 ?_
      refine k2_iret dX10_letters_10 rfl H
set_option maxRecDepth 4000 in
theorem v_X10_letters_15 {G : KG} {S0 : KSh} (hL : kLay S0) {d : Nat} {P : Option AV → KMem → Prop} {c : KMem} {x1 x2 x3 : Int} (r1 : -2147483648 ≤ x1 ∧ x1 < 2147483648) (r2 : -2147483648 ≤ x2 ∧ x2 < 2147483648) (r3 : 0 ≤ x3 ∧ x3 < 2147483648) (H : (12 ≤ x3 → (P (some (kI x2)) c)) ∧ (x3 < 12 → ((kStT c 3) ∧ (((kHs c 3 x3) → (kC2 G S0 kM_X10_belongs (d + 6) [kA 0, kI x3, kI x1] c (kRI (fun z7 c8 => (k32 z7) ∧ ((z7 = 0 → (kW2 G S0 kM_X10_letters (d + 7) 47 [some (kA 0), some (kI x1), some (kI x2), some (kI x3)] [] c8 P)) ∧ (z7 ≠ 0 → (kW2 G S0 kM_X10_letters (d + 7) 47 [some (kA 0), some (kI x1), some (kI (kor x2 (kshl 1 x3))), some (kI x3)] [] c8 P))))))) ∧ (¬ (kHs c 3 x3) → (kW2 G S0 kM_X10_letters (d + 7) 47 [some (kA 0), some (kI x1), some (kI x2), some (kI x3)] [] c P)))))) : kW2 G S0 kM_X10_letters (d + 7) 15 [some (kA 0), some (kI x1), some (kI x2), some (kI x3)] [] c P := by
  refine kw_iload_n dX10_letters_15 rfl ?_
  refine kw_bipush dX10_letters_16 (by decide) ?_
  refine kw_icmp_ge 53 dX10_letters_18 (by decide) (k32i (by omega)) (k32i (by omega)) (fun h3 => ?_) (fun h3 => ?_)
  · have H := H.1 h3
    refine kw_iload_n dX10_letters_53 rfl ?_
    refine k2_iret dX10_letters_54 rfl H
  · have H := H.2 h3
    refine kw_aload_n dX10_letters_21 rfl ?_
    refine k2_getR fd_X10_5 dX10_letters_22 wf_X10_29 (lsh_0 hL) (lrf_0_5 hL) ?_
    refine kw_iload_n dX10_letters_25 rfl ?_
    have o4 := H.1
    have H := H.2
    refine k2_callV1I (ci := 0) (N := 2) (T := TX1) rfl (llt_3 hL).1 m_X1_has dX10_letters_26 wl_X10_138 (Nat.le_of_ble_eq_true rfl) (s_X1_has hL (llt_3 hL) o4 (k32i (by omega)) (fun h5 => ⟨_, rfl, ?_⟩) (fun h5 => ⟨_, rfl, ?_⟩))
    · have H := H.1 h5
      refine kw_if_eq 47 dX10_letters_29 (by decide) (k32i (by omega)) (fun h6 => absurd h6 (by decide)) (fun _ => ?_)
      refine kw_aload_n dX10_letters_32 rfl ?_
      refine kw_iload_n dX10_letters_33 rfl ?_
      refine kw_iload_n dX10_letters_34 rfl ?_
      refine k2_callV2I (ci := 8) (N := 20) (T := TX10) rfl (lsh_0 hL) m_X10_belongs dX10_letters_35 wl_X10_185 (Nat.le_of_ble_eq_true rfl) (kC2_mono H (fun r c8 H => ?_))
      obtain ⟨z7, rfl, H⟩ := H
      refine ⟨z7, rfl, ?_⟩
      have o10 := H.1
      have H := H.2
      refine kw_if_eq 47 dX10_letters_38 (by decide) o10 (fun h9 => ?_) (fun h9 => ?_)
      · have H := H.1 h9
        exact kw_forget (ls' := [some (kA 0), some (kI x1), some (kI x2), some (kI x3)]) ⟨Or.inr rfl, ⟨Or.inr rfl, ⟨Or.inr rfl, ⟨Or.inr rfl, trivial⟩⟩⟩⟩ H
      · have H := H.2 h9
        refine kw_iload_n dX10_letters_41 rfl ?_
        refine kw_iconst dX10_letters_42 ?_
        refine kw_iload_n dX10_letters_43 rfl ?_
        refine kw_ishl dX10_letters_44 ?_
        refine kw_ior dX10_letters_45 ?_
        refine kw_istore_n dX10_letters_46 (Nat.le_of_ble_eq_true rfl) ?_
        exact kw_forget (ls' := [some (kA 0), some (kI x1), some (kI (kor x2 (kshl 1 x3))), some (kI x3)]) ⟨Or.inr rfl, ⟨Or.inr rfl, ⟨Or.inr rfl, ⟨Or.inr rfl, trivial⟩⟩⟩⟩ H
    · have H := H.2 h5
      refine kw_if_eq 47 dX10_letters_29 (by decide) (k32i (by omega)) (fun _ => ?_) (fun h11 => absurd h11 (by decide))
      exact kw_forget (ls' := [some (kA 0), some (kI x1), some (kI x2), some (kI x3)]) ⟨Or.inr rfl, ⟨Or.inr rfl, ⟨Or.inr rfl, ⟨Or.inr rfl, trivial⟩⟩⟩⟩ H
set_option maxRecDepth 4000 in
theorem v_X10_letters_47 {G : KG} {S0 : KSh} (hL : kLay S0) {d : Nat} {P : Option AV → KMem → Prop} {c : KMem} {x1 x2 x3 : Int} (r1 : -2147483648 ≤ x1 ∧ x1 < 2147483648) (r2 : -2147483648 ≤ x2 ∧ x2 < 2147483648) (r3 : 0 ≤ x3 ∧ x3 < 2147483648) (H : kW2 G S0 kM_X10_letters (d + 7) 15 [some (kA 0), some (kI x1), some (kI x2), some (kI (x3 + 1))] [] c P) : kW2 G S0 kM_X10_letters (d + 7) 47 [some (kA 0), some (kI x1), some (kI x2), some (kI x3)] [] c P := by
  refine kw_iinc dX10_letters_47 rfl ?_
  refine kw_goto 15 dX10_letters_50 (by decide) ?_
  exact kw_forget (ls' := [some (kA 0), some (kI x1), some (kI x2), some (kI (x3 + 1))]) ⟨Or.inr rfl, ⟨Or.inr rfl, ⟨Or.inr rfl, ⟨Or.inr rfl, trivial⟩⟩⟩⟩ H
set_option maxRecDepth 4000 in
theorem v_X10_formIs {G : KG} {S0 : KSh} (hL : kLay S0) {d : Nat} {P : Option AV → KMem → Prop} {c : KMem} {x1 x2 : Int} (r1 : -2147483648 ≤ x1 ∧ x1 < 2147483648) (r2 : -2147483648 ≤ x2 ∧ x2 < 2147483648) (H : (kStT c 3) ∧ (((kHs c 3 x1) → ((x2 < 0 → (P (some (kI (-1))) c)) ∧ (0 ≤ x2 → ((x2 ≤ 4 → ((0 ≤ x1 ∧ x1 < 12) ∧ ((x2 ≠ 0 → ((x2 ≠ 1 → ((x2 ≠ 4 → (kC2 G S0 kM_X3_isMotion (d + 5) [kA 214, kA (3 + 2 + x1)] c (kRI (fun z10 c11 => (x2 ≠ 2 → ((k32 z10) ∧ ((z10 = 0 → (P (some (kI (-3))) c11)) ∧ (z10 ≠ 0 → (kC2 G S0 kM_X3_orderOf (d + 5) [kA 214, kA (3 + 2 + x1)] c11 (kRI (fun z15 c16 => P (some (kI z15)) c16))))))) ∧ (x2 = 2 → ((k32 z10) ∧ ((z10 = 0 → (P (some (kI 0)) c11)) ∧ (z10 ≠ 0 → (P (some (kI 1)) c11))))))))) ∧ (x2 = 4 → (kC2 G S0 kM_X0_partsNotZero (d + 5) [kA (3 + 2 + x1)] c (kRI (fun z19 c20 => P (some (kI z19)) c20)))))) ∧ (x2 = 1 → (kC2 G S0 kM_X8_gradesOf (d + 5) [kA (3 + 2 + x1)] c (kRI (fun z21 c22 => P (some (kI z21)) c22)))))) ∧ (x2 = 0 → (kC2 G S0 kM_X8_kindOf (d + 5) [kA (3 + 2 + x1)] c (kRI (fun z23 c24 => P (some (kI z23)) c24))))))) ∧ (4 < x2 → (P (some (kI (-1))) c)))))) ∧ (¬ (kHs c 3 x1) → (P (some (kI (-1))) c)))) : kC2 G S0 kM_X10_formIs (d + 6) [kA 0, kI x1, kI x2] c P := by
  refine k2_met (by decide) rfl (Nat.le_of_ble_eq_true rfl) (l0 := [some (kA 0), some (kI x1), some (kI x2), none, none]) rfl ?_
  refine kw_aload_n dX10_formIs_0 rfl ?_
  refine k2_getR fd_X10_5 dX10_formIs_1 wf_X10_29 (lsh_0 hL) (lrf_0_5 hL) ?_
  refine kw_iload_n dX10_formIs_4 rfl ?_
  have o1 := H.1
  have H := H.2
  refine k2_callV1I (ci := 0) (N := 2) (T := TX1) rfl (llt_3 hL).1 m_X1_has dX10_formIs_5 wl_X10_138 (Nat.le_of_ble_eq_true rfl) (s_X1_has hL (llt_3 hL) o1 (k32i (by omega)) (fun h2 => ⟨_, rfl, ?_⟩) (fun h2 => ⟨_, rfl, ?_⟩))
  · have H := H.1 h2
    refine kw_if_eq 20 dX10_formIs_8 (by decide) (k32i (by omega)) (fun h3 => absurd h3 (by decide)) (fun _ => ?_)
    refine kw_iload_n dX10_formIs_11 rfl ?_
    refine kw_if_lt 20 dX10_formIs_12 (by decide) (k32i (by omega)) (fun h4 => ?_) (fun h4 => ?_)
    · have H := H.1 h4
      refine kw_iconst dX10_formIs_20 ?_
      refine k2_iret dX10_formIs_21 rfl H
    · have H := H.2 h4
      refine kw_iload_n dX10_formIs_15 rfl ?_
      refine kw_iconst dX10_formIs_16 ?_
      refine kw_icmp_le 22 dX10_formIs_17 (by decide) (k32i (by omega)) (k32i (by omega)) (fun h5 => ?_) (fun h5 => ?_)
      · have H := H.1 h5
        refine kw_aload_n dX10_formIs_22 rfl ?_
        refine k2_getR fd_X10_5 dX10_formIs_23 wf_X10_29 (lsh_0 hL) (lrf_0_5 hL) ?_
        refine kw_iload_n dX10_formIs_26 rfl ?_
        have o6 := H.1
        have H := H.2
        refine k2_callV1A (ci := 0) (N := 2) (T := TX1) rfl (llt_3 hL).1 m_X1_form dX10_formIs_27 wl_X10_142 (Nat.le_of_ble_eq_true rfl) (s_X1_form hL (llt_3 hL) (by omega) o6 ⟨_, rfl, ?_⟩)
        refine kw_astore_n dX10_formIs_30 (Nat.le_of_ble_eq_true rfl) ?_
        refine kw_iload_n dX10_formIs_31 rfl ?_
        refine kw_if_ne 40 dX10_formIs_32 (by decide) (k32i (by omega)) (fun h7 => ?_) (fun h7 => ?_)
        · have H := H.1 h7
          refine kw_iload_n dX10_formIs_40 rfl ?_
          refine kw_iconst dX10_formIs_41 ?_
          refine kw_icmp_ne 50 dX10_formIs_42 (by decide) (k32i (by omega)) (k32i (by omega)) (fun h8 => ?_) (fun h8 => ?_)
          · have H := H.1 h8
            refine kw_iload_n dX10_formIs_50 rfl ?_
            refine kw_iconst dX10_formIs_51 ?_
            refine kw_icmp_ne 60 dX10_formIs_52 (by decide) (k32i (by omega)) (k32i (by omega)) (fun h9 => ?_) (fun h9 => ?_)
            · have H := H.1 h9
              refine kw_aload_n dX10_formIs_60 rfl ?_
              refine k2_getR fd_X10_12 dX10_formIs_61 wf_X10_63 (lsh_0 hL) (lrf_0_12 hL) ?_
              refine kw_aload_n dX10_formIs_64 rfl ?_
              refine k2_callV1I (ci := 2) (N := 7) (T := TX3) rfl (lsh_214 hL) m_X3_isMotion dX10_formIs_65 wl_X10_195 (Nat.le_of_ble_eq_true rfl) (kC2_mono H (fun r c11 H => ?_))
              obtain ⟨z10, rfl, H⟩ := H
              refine ⟨z10, rfl, ?_⟩
              refine kw_istore dX10_formIs_68 (Nat.le_of_ble_eq_true rfl) ?_
              refine kw_iload_n dX10_formIs_70 rfl ?_
              refine kw_iconst dX10_formIs_71 ?_
              refine kw_icmp_ne 86 dX10_formIs_72 (by decide) (k32i (by omega)) (k32i (by omega)) (fun h12 => ?_) (fun h12 => ?_)
              · have H := H.1 h12
                refine kw_iload dX10_formIs_86 rfl ?_
                have o14 := H.1
                have H := H.2
                refine kw_if_eq 102 dX10_formIs_88 (by decide) o14 (fun h13 => ?_) (fun h13 => ?_)
                · have H := H.1 h13
                  refine kw_bipush dX10_formIs_102 (by decide) ?_
                  refine k2_iret dX10_formIs_104 rfl H
                · have H := H.2 h13
                  refine kw_aload_n dX10_formIs_91 rfl ?_
                  refine k2_getR fd_X10_12 dX10_formIs_92 wf_X10_63 (lsh_0 hL) (lrf_0_12 hL) ?_
                  refine kw_aload_n dX10_formIs_95 rfl ?_
                  refine k2_callV1I (ci := 2) (N := 7) (T := TX3) rfl (lsh_214 hL) m_X3_orderOf dX10_formIs_96 wl_X10_205 (Nat.le_of_ble_eq_true rfl) (kC2_mono H (fun r c16 H => ?_))
                  obtain ⟨z15, rfl, H⟩ := H
                  refine ⟨z15, rfl, ?_⟩
                  refine kw_goto 104 dX10_formIs_99 (by decide) ?_
                  refine k2_iret dX10_formIs_104 rfl H
              · have H := H.2 h12
                refine kw_iload dX10_formIs_75 rfl ?_
                have o18 := H.1
                have H := H.2
                refine kw_if_eq 84 dX10_formIs_77 (by decide) o18 (fun h17 => ?_) (fun h17 => ?_)
                · have H := H.1 h17
                  refine kw_iconst dX10_formIs_84 ?_
                  refine k2_iret dX10_formIs_85 rfl H
                · have H := H.2 h17
                  refine kw_iconst dX10_formIs_80 ?_
                  refine kw_goto 85 dX10_formIs_81 (by decide) ?_
                  refine k2_iret dX10_formIs_85 rfl H
            · have H := H.2 h9
              refine kw_aload_n dX10_formIs_55 rfl ?_
              refine k2_callS1I m_X0_partsNotZero dX10_formIs_56 wl_X10_202 (Nat.le_of_ble_eq_true rfl) (kC2_mono H (fun r c20 H => ?_))
              obtain ⟨z19, rfl, H⟩ := H
              refine ⟨z19, rfl, ?_⟩
              refine k2_iret dX10_formIs_59 rfl H
          · have H := H.2 h8
            refine kw_aload_n dX10_formIs_45 rfl ?_
            refine k2_callS1I m_X8_gradesOf dX10_formIs_46 wl_X10_199 (Nat.le_of_ble_eq_true rfl) (kC2_mono H (fun r c22 H => ?_))
            obtain ⟨z21, rfl, H⟩ := H
            refine ⟨z21, rfl, ?_⟩
            refine k2_iret dX10_formIs_49 rfl H
        · have H := H.2 h7
          refine kw_aload_n dX10_formIs_35 rfl ?_
          refine k2_callS1I m_X8_kindOf dX10_formIs_36 wl_X10_146 (Nat.le_of_ble_eq_true rfl) (kC2_mono H (fun r c24 H => ?_))
          obtain ⟨z23, rfl, H⟩ := H
          refine ⟨z23, rfl, ?_⟩
          refine k2_iret dX10_formIs_39 rfl H
      · have H := H.2 h5
        refine kw_iconst dX10_formIs_20 ?_
        refine k2_iret dX10_formIs_21 rfl H
  · have H := H.2 h2
    refine kw_if_eq 20 dX10_formIs_8 (by decide) (k32i (by omega)) (fun _ => ?_) (fun h25 => absurd h25 (by decide))
    refine kw_iconst dX10_formIs_20 ?_
    refine k2_iret dX10_formIs_21 rfl H
set_option maxRecDepth 4000 in
theorem v_X10_pair {G : KG} {S0 : KSh} (hL : kLay S0) {d : Nat} {P : Option AV → KMem → Prop} {c : KMem} {x1 x2 : Int} (r1 : -2147483648 ≤ x1 ∧ x1 < 2147483648) (r2 : -2147483648 ≤ x2 ∧ x2 < 2147483648) (H : (kStT c 3) ∧ (((kHs c 3 x1) → ((x2 < 0 → (P (some (kL (-2000000000000000000))) c)) ∧ (0 ≤ x2 → ((x2 ≤ 10 → ((0 ≤ x1 ∧ x1 < 12) ∧ (kC2 G S0 kM_X8_kindOf (d + 6) [kA (3 + 2 + x1)] c (kRI (fun z7 c8 => (k32 z7) ∧ (((20 ≤ z7 ∧ z7 ≤ 22) → ((3 ≤ x2 → ((5 ≤ x2 → ((z7 = 20 → (kC2 G S0 kM_X0_square (d + 6) [kA (3 + 2 + x1)] c8 (kRL (fun z15 c16 => kC2 G S0 kM_X0_rootOf (d + 6) [kL z15] c16 (kRL (fun z17 c18 => (k64 z17) ∧ ((0 ≤ z17 → ((8 ≤ x2 → (kC2 G S0 kM_X4_findEnd (d + 6) [kA 528, kA (3 + 2 + x1), kL (-z17), kA 553] c18 (kRI (fun z23 c24 => (k32 z23) ∧ ((z23 ≠ 0 → (kC2 G S0 kM_X9_number (d + 6) [kA 553, kI (x2 - 8)] c24 (kRL (fun z28 c29 => P (some (kL z28)) c29)))) ∧ (z23 = 0 → (P (some (kL (-3000000000000000000))) c24))))))) ∧ (x2 < 8 → (kC2 G S0 kM_X4_findEnd (d + 6) [kA 528, kA (3 + 2 + x1), kL z17, kA 553] c18 (kRI (fun z31 c32 => (k32 z31) ∧ ((z31 ≠ 0 → (kC2 G S0 kM_X9_number (d + 6) [kA 553, kI (x2 - 5)] c32 (kRL (fun z36 c37 => P (some (kL z36)) c37)))) ∧ (z31 = 0 → (P (some (kL (-3000000000000000000))) c32))))))))) ∧ (z17 < 0 → (P (some (kL (-1000000000000000000))) c18))))))))) ∧ (z7 ≠ 20 → (P (some (kL (-3000000000000000000))) c8)))) ∧ (x2 < 5 → (kC2 G S0 kM_X4_half (d + 6) [kA 528, kA (3 + 2 + x1), kI (x2 - 3)] c8 (kRL (fun z38 c39 => P (some (kL z38)) c39)))))) ∧ (x2 < 3 → (kC2 G S0 kM_X4_findMiddle (d + 6) [kA 528, kA (3 + 2 + x1), kA 553] c8 (kRI (fun z40 c41 => (k32 z40) ∧ ((z40 = 0 → (P (some (kL (-3000000000000000000))) c41)) ∧ (z40 ≠ 0 → (kC2 G S0 kM_X9_number (d + 6) [kA 553, kI x2] c41 (kRL (fun z44 c45 => P (some (kL z44)) c45))))))))))) ∧ (¬ (20 ≤ z7 ∧ z7 ≤ 22) → (P (some (kL (-3000000000000000000))) c8)))))))) ∧ (10 < x2 → (P (some (kL (-2000000000000000000))) c)))))) ∧ (¬ (kHs c 3 x1) → (P (some (kL (-2000000000000000000))) c)))) : kC2 G S0 kM_X10_pair (d + 7) [kA 0, kI x1, kI x2] c P := by
  refine k2_met (by decide) rfl (Nat.le_of_ble_eq_true rfl) (l0 := [some (kA 0), some (kI x1), some (kI x2), none, none, none, none, none]) rfl ?_
  refine kw_aload_n dX10_pair_0 rfl ?_
  refine k2_getR fd_X10_5 dX10_pair_1 wf_X10_29 (lsh_0 hL) (lrf_0_5 hL) ?_
  refine kw_iload_n dX10_pair_4 rfl ?_
  have o1 := H.1
  have H := H.2
  refine k2_callV1I (ci := 0) (N := 2) (T := TX1) rfl (llt_3 hL).1 m_X1_has dX10_pair_5 wl_X10_138 (Nat.le_of_ble_eq_true rfl) (s_X1_has hL (llt_3 hL) o1 (k32i (by omega)) (fun h2 => ⟨_, rfl, ?_⟩) (fun h2 => ⟨_, rfl, ?_⟩))
  · have H := H.1 h2
    refine kw_if_eq 21 dX10_pair_8 (by decide) (k32i (by omega)) (fun h3 => absurd h3 (by decide)) (fun _ => ?_)
    refine kw_iload_n dX10_pair_11 rfl ?_
    refine kw_if_lt 21 dX10_pair_12 (by decide) (k32i (by omega)) (fun h4 => ?_) (fun h4 => ?_)
    · have H := H.1 h4
      refine kw_ldc2 dX10_pair_21 wk_X10_208 ?_
      refine k2_lret dX10_pair_24 rfl H
    · have H := H.2 h4
      refine kw_iload_n dX10_pair_15 rfl ?_
      refine kw_bipush dX10_pair_16 (by decide) ?_
      refine kw_icmp_le 25 dX10_pair_18 (by decide) (k32i (by omega)) (k32i (by omega)) (fun h5 => ?_) (fun h5 => ?_)
      · have H := H.1 h5
        refine kw_aload_n dX10_pair_25 rfl ?_
        refine k2_getR fd_X10_5 dX10_pair_26 wf_X10_29 (lsh_0 hL) (lrf_0_5 hL) ?_
        refine kw_iload_n dX10_pair_29 rfl ?_
        have o6 := H.1
        have H := H.2
        refine k2_callV1A (ci := 0) (N := 2) (T := TX1) rfl (llt_3 hL).1 m_X1_form dX10_pair_30 wl_X10_142 (Nat.le_of_ble_eq_true rfl) (s_X1_form hL (llt_3 hL) (by omega) o6 ⟨_, rfl, ?_⟩)
        refine kw_astore_n dX10_pair_33 (Nat.le_of_ble_eq_true rfl) ?_
        refine kw_aload_n dX10_pair_34 rfl ?_
        refine k2_callS1I m_X8_kindOf dX10_pair_35 wl_X10_146 (Nat.le_of_ble_eq_true rfl) (kC2_mono H (fun r c8 H => ?_))
        obtain ⟨z7, rfl, H⟩ := H
        refine ⟨z7, rfl, ?_⟩
        refine kw_istore dX10_pair_38 (Nat.le_of_ble_eq_true rfl) ?_
        refine kw_iload dX10_pair_40 rfl ?_
        have o9 := H.1
        have H := H.2
        refine k2_callS1I m_X8_isPair dX10_pair_42 wl_X10_245 (Nat.le_of_ble_eq_true rfl) (s_X8_isPair hL o9 (fun h10 => ⟨_, rfl, ?_⟩) (fun h10 => ⟨_, rfl, ?_⟩))
        · have H := H.1 h10
          refine kw_if_ne 52 dX10_pair_45 (by decide) (k32i (by omega)) (fun _ => ?_) (fun h11 => absurd h11 (by decide))
          refine kw_iload_n dX10_pair_52 rfl ?_
          refine kw_iconst dX10_pair_53 ?_
          refine kw_icmp_ge 87 dX10_pair_54 (by decide) (k32i (by omega)) (k32i (by omega)) (fun h12 => ?_) (fun h12 => ?_)
          · have H := H.1 h12
            refine kw_iload_n dX10_pair_87 rfl ?_
            refine kw_iconst dX10_pair_88 ?_
            refine kw_icmp_ge 104 dX10_pair_89 (by decide) (k32i (by omega)) (k32i (by omega)) (fun h13 => ?_) (fun h13 => ?_)
            · have H := H.1 h13
              refine kw_iload dX10_pair_104 rfl ?_
              refine kw_bipush dX10_pair_106 (by decide) ?_
              refine kw_icmp_eq 115 dX10_pair_108 (by decide) o9 (k32i (by omega)) (fun h14 => ?_) (fun h14 => ?_)
              · have H := H.1 h14
                refine kw_aload_n dX10_pair_115 rfl ?_
                refine k2_callS1L m_X0_square dX10_pair_116 wl_X10_255 (Nat.le_of_ble_eq_true rfl) (kC2_mono H (fun r c16 H => ?_))
                obtain ⟨z15, rfl, H⟩ := H
                refine ⟨z15, rfl, ?_⟩
                refine k2_callS1L m_X0_rootOf dX10_pair_119 wl_X10_259 (Nat.le_of_ble_eq_true rfl) (kC2_mono H (fun r c18 H => ?_))
                obtain ⟨z17, rfl, H⟩ := H
                refine ⟨z17, rfl, ?_⟩
                refine kw_lstore dX10_pair_122 (Nat.le_of_ble_eq_true rfl) ?_
                refine kw_lload dX10_pair_124 rfl ?_
                refine kw_lconst0 dX10_pair_126 ?_
                have o19 := H.1
                have H := H.2
                refine kw_lcmp_ge 135 dX10_pair_127 dX10_pair_128 (by decide) o19 (k64i (by omega)) (fun h20 => ?_) (fun h20 => ?_)
                · have H := H.1 h20
                  refine kw_iload_n dX10_pair_135 rfl ?_
                  refine kw_bipush dX10_pair_136 (by decide) ?_
                  refine kw_icmp_ge 145 dX10_pair_138 (by decide) (k32i (by omega)) (k32i (by omega)) (fun h21 => ?_) (fun h21 => ?_)
                  · have H := H.1 h21
                    refine kw_iconst dX10_pair_145 ?_
                    refine kw_istore dX10_pair_146 (Nat.le_of_ble_eq_true rfl) ?_
                    refine kw_aload_n dX10_pair_148 rfl ?_
                    refine k2_getR fd_X10_13 dX10_pair_149 wf_X10_70 (lsh_0 hL) (lrf_0_13 hL) ?_
                    refine kw_aload_n dX10_pair_152 rfl ?_
                    refine kw_iload dX10_pair_153 rfl ?_
                    refine kw_if_eq 163 dX10_pair_155 (by decide) (k32i (by omega)) (fun _ => ?_) (fun h22 => absurd h22 (by decide))
                    refine kw_lload dX10_pair_163 rfl ?_
                    refine kw_lneg dX10_pair_165 ?_
                    refine kw_aload_n dX10_pair_166 rfl ?_
                    refine k2_getR fd_X10_15 dX10_pair_167 wf_X10_84 (lsh_0 hL) (lrf_0_15 hL) ?_
                    refine k2_callV3I (ci := 3) (N := 4) (T := TX4) rfl (lsh_528 hL) m_X4_findEnd dX10_pair_170 wl_X10_265 (Nat.le_of_ble_eq_true rfl) (kC2_mono H (fun r c24 H => ?_))
                    obtain ⟨z23, rfl, H⟩ := H
                    refine ⟨z23, rfl, ?_⟩
                    have o26 := H.1
                    have H := H.2
                    refine kw_if_ne 180 dX10_pair_173 (by decide) o26 (fun h25 => ?_) (fun h25 => ?_)
                    · have H := H.1 h25
                      refine kw_aload_n dX10_pair_180 rfl ?_
                      refine k2_getR fd_X10_15 dX10_pair_181 wf_X10_84 (lsh_0 hL) (lrf_0_15 hL) ?_
                      refine kw_iload dX10_pair_184 rfl ?_
                      refine kw_if_eq 195 dX10_pair_186 (by decide) (k32i (by omega)) (fun _ => ?_) (fun h27 => absurd h27 (by decide))
                      refine kw_iload_n dX10_pair_195 rfl ?_
                      refine kw_bipush dX10_pair_196 (by decide) ?_
                      refine kw_isub dX10_pair_198 ?_
                      refine k2_callV1L (ci := 7) (N := 5) (T := TX9) rfl (lsh_553 hL) m_X9_number dX10_pair_199 wl_X10_223 (Nat.le_of_ble_eq_true rfl) (kC2_mono H (fun r c29 H => ?_))
                      obtain ⟨z28, rfl, H⟩ := H
                      refine ⟨z28, rfl, ?_⟩
                      refine k2_lret dX10_pair_202 rfl H
                    · have H := H.2 h25
                      refine kw_ldc2 dX10_pair_176 wk_X10_213 ?_
                      refine k2_lret dX10_pair_179 rfl H
                  · have H := H.2 h21
                    refine kw_iconst dX10_pair_141 ?_
                    refine kw_goto 146 dX10_pair_142 (by decide) ?_
                    refine kw_istore dX10_pair_146 (Nat.le_of_ble_eq_true rfl) ?_
                    refine kw_aload_n dX10_pair_148 rfl ?_
                    refine k2_getR fd_X10_13 dX10_pair_149 wf_X10_70 (lsh_0 hL) (lrf_0_13 hL) ?_
                    refine kw_aload_n dX10_pair_152 rfl ?_
                    refine kw_iload dX10_pair_153 rfl ?_
                    refine kw_if_eq 163 dX10_pair_155 (by decide) (k32i (by omega)) (fun h30 => absurd h30 (by decide)) (fun _ => ?_)
                    refine kw_lload dX10_pair_158 rfl ?_
                    refine kw_goto 166 dX10_pair_160 (by decide) ?_
                    refine kw_aload_n dX10_pair_166 rfl ?_
                    refine k2_getR fd_X10_15 dX10_pair_167 wf_X10_84 (lsh_0 hL) (lrf_0_15 hL) ?_
                    refine k2_callV3I (ci := 3) (N := 4) (T := TX4) rfl (lsh_528 hL) m_X4_findEnd dX10_pair_170 wl_X10_265 (Nat.le_of_ble_eq_true rfl) (kC2_mono H (fun r c32 H => ?_))
                    obtain ⟨z31, rfl, H⟩ := H
                    refine ⟨z31, rfl, ?_⟩
                    have o34 := H.1
                    have H := H.2
                    refine kw_if_ne 180 dX10_pair_173 (by decide) o34 (fun h33 => ?_) (fun h33 => ?_)
                    · have H := H.1 h33
                      refine kw_aload_n dX10_pair_180 rfl ?_
                      refine k2_getR fd_X10_15 dX10_pair_181 wf_X10_84 (lsh_0 hL) (lrf_0_15 hL) ?_
                      refine kw_iload dX10_pair_184 rfl ?_
                      refine kw_if_eq 195 dX10_pair_186 (by decide) (k32i (by omega)) (fun h35 => absurd h35 (by decide)) (fun _ => ?_)
                      refine kw_iload_n dX10_pair_189 rfl ?_
                      refine kw_iconst dX10_pair_190 ?_
                      refine kw_isub dX10_pair_191 ?_
                      refine kw_goto 199 dX10_pair_192 (by decide) ?_
                      refine k2_callV1L (ci := 7) (N := 5) (T := TX9) rfl (lsh_553 hL) m_X9_number dX10_pair_199 wl_X10_223 (Nat.le_of_ble_eq_true rfl) (kC2_mono H (fun r c37 H => ?_))
                      obtain ⟨z36, rfl, H⟩ := H
                      refine ⟨z36, rfl, ?_⟩
                      refine k2_lret dX10_pair_202 rfl H
                    · have H := H.2 h33
                      refine kw_ldc2 dX10_pair_176 wk_X10_213 ?_
                      refine k2_lret dX10_pair_179 rfl H
                · have H := H.2 h20
                  refine kw_ldc2 dX10_pair_131 wk_X10_263 ?_
                  refine k2_lret dX10_pair_134 rfl H
              · have H := H.2 h14
                refine kw_ldc2 dX10_pair_111 wk_X10_213 ?_
                refine k2_lret dX10_pair_114 rfl H
            · have H := H.2 h13
              refine kw_aload_n dX10_pair_92 rfl ?_
              refine k2_getR fd_X10_13 dX10_pair_93 wf_X10_70 (lsh_0 hL) (lrf_0_13 hL) ?_
              refine kw_aload_n dX10_pair_96 rfl ?_
              refine kw_iload_n dX10_pair_97 rfl ?_
              refine kw_iconst dX10_pair_98 ?_
              refine kw_isub dX10_pair_99 ?_
              refine k2_callV2L (ci := 3) (N := 4) (T := TX4) rfl (lsh_528 hL) m_X4_half dX10_pair_100 wl_X10_252 (Nat.le_of_ble_eq_true rfl) (kC2_mono H (fun r c39 H => ?_))
              obtain ⟨z38, rfl, H⟩ := H
              refine ⟨z38, rfl, ?_⟩
              refine k2_lret dX10_pair_103 rfl H
          · have H := H.2 h12
            refine kw_aload_n dX10_pair_57 rfl ?_
            refine k2_getR fd_X10_13 dX10_pair_58 wf_X10_70 (lsh_0 hL) (lrf_0_13 hL) ?_
            refine kw_aload_n dX10_pair_61 rfl ?_
            refine kw_aload_n dX10_pair_62 rfl ?_
            refine k2_getR fd_X10_15 dX10_pair_63 wf_X10_84 (lsh_0 hL) (lrf_0_15 hL) ?_
            refine k2_callV2I (ci := 3) (N := 4) (T := TX4) rfl (lsh_528 hL) m_X4_findMiddle dX10_pair_66 wl_X10_248 (Nat.le_of_ble_eq_true rfl) (kC2_mono H (fun r c41 H => ?_))
            obtain ⟨z40, rfl, H⟩ := H
            refine ⟨z40, rfl, ?_⟩
            have o43 := H.1
            have H := H.2
            refine kw_if_eq 83 dX10_pair_69 (by decide) o43 (fun h42 => ?_) (fun h42 => ?_)
            · have H := H.1 h42
              refine kw_ldc2 dX10_pair_83 wk_X10_213 ?_
              refine k2_lret dX10_pair_86 rfl H
            · have H := H.2 h42
              refine kw_aload_n dX10_pair_72 rfl ?_
              refine k2_getR fd_X10_15 dX10_pair_73 wf_X10_84 (lsh_0 hL) (lrf_0_15 hL) ?_
              refine kw_iload_n dX10_pair_76 rfl ?_
              refine k2_callV1L (ci := 7) (N := 5) (T := TX9) rfl (lsh_553 hL) m_X9_number dX10_pair_77 wl_X10_223 (Nat.le_of_ble_eq_true rfl) (kC2_mono H (fun r c45 H => ?_))
              obtain ⟨z44, rfl, H⟩ := H
              refine ⟨z44, rfl, ?_⟩
              refine kw_goto 86 dX10_pair_80 (by decide) ?_
              refine k2_lret dX10_pair_86 rfl H
        · have H := H.2 h10
          refine kw_if_ne 52 dX10_pair_45 (by decide) (k32i (by omega)) (fun h46 => absurd h46 (by decide)) (fun _ => ?_)
          refine kw_ldc2 dX10_pair_48 wk_X10_213 ?_
          refine k2_lret dX10_pair_51 rfl H
      · have H := H.2 h5
        refine kw_ldc2 dX10_pair_21 wk_X10_208 ?_
        refine k2_lret dX10_pair_24 rfl H
  · have H := H.2 h2
    refine kw_if_eq 21 dX10_pair_8 (by decide) (k32i (by omega)) (fun _ => ?_) (fun h47 => absurd h47 (by decide))
    refine kw_ldc2 dX10_pair_21 wk_X10_208 ?_
    refine k2_lret dX10_pair_24 rfl H
set_option maxRecDepth 4000 in
theorem v_X10_like {G : KG} {S0 : KSh} (hL : kLay S0) {d : Nat} {P : Option AV → KMem → Prop} {c : KMem} {x1 x2 : Int} (r1 : -2147483648 ≤ x1 ∧ x1 < 2147483648) (r2 : -2147483648 ≤ x2 ∧ x2 < 2147483648) (H : (kStT c 3) ∧ (((kHs c 3 x1) → (((kHs c 3 x2) → ((0 ≤ x1 ∧ x1 < 12) ∧ (kC2 G S0 kM_X0_isZero (d + 2) [kA (3 + 2 + x1)] c (kRI (fun z7 c8 => (k32 z7) ∧ ((z7 ≠ 0 → (P (some (kI (-2))) c8)) ∧ (z7 = 0 → ((0 ≤ x2 ∧ x2 < 12) ∧ (kC2 G S0 kM_X0_isZero (d + 2) [kA (3 + 2 + x2)] c8 (kRI (fun z12 c13 => (k32 z12) ∧ ((z12 = 0 → (kC2 G S0 kM_X2_areLike (d + 2) [kA 533, kA (3 + 2 + x1), kA (3 + 2 + x2)] c13 (kRI (fun z16 c17 => (k32 z16) ∧ ((z16 = 0 → (P (some (kI 0)) c17)) ∧ (z16 ≠ 0 → (P (some (kI 1)) c17))))))) ∧ (z12 ≠ 0 → (P (some (kI (-2))) c13)))))))))))))) ∧ (¬ (kHs c 3 x2) → (P (some (kI (-1))) c)))) ∧ (¬ (kHs c 3 x1) → (P (some (kI (-1))) c)))) : kC2 G S0 kM_X10_like (d + 3) [kA 0, kI x1, kI x2] c P := by
  refine k2_met (by decide) rfl (Nat.le_of_ble_eq_true rfl) (l0 := [some (kA 0), some (kI x1), some (kI x2)]) rfl ?_
  refine kw_aload_n dX10_like_0 rfl ?_
  refine k2_getR fd_X10_5 dX10_like_1 wf_X10_29 (lsh_0 hL) (lrf_0_5 hL) ?_
  refine kw_iload_n dX10_like_4 rfl ?_
  have o1 := H.1
  have H := H.2
  refine k2_callV1I (ci := 0) (N := 2) (T := TX1) rfl (llt_3 hL).1 m_X1_has dX10_like_5 wl_X10_138 (Nat.le_of_ble_eq_true rfl) (s_X1_has hL (llt_3 hL) o1 (k32i (by omega)) (fun h2 => ⟨_, rfl, ?_⟩) (fun h2 => ⟨_, rfl, ?_⟩))
  · have H := H.1 h2
    refine kw_if_eq 22 dX10_like_8 (by decide) (k32i (by omega)) (fun h3 => absurd h3 (by decide)) (fun _ => ?_)
    refine kw_aload_n dX10_like_11 rfl ?_
    refine k2_getR fd_X10_5 dX10_like_12 wf_X10_29 (lsh_0 hL) (lrf_0_5 hL) ?_
    refine kw_iload_n dX10_like_15 rfl ?_
    refine k2_callV1I (ci := 0) (N := 2) (T := TX1) rfl (llt_3 hL).1 m_X1_has dX10_like_16 wl_X10_138 (Nat.le_of_ble_eq_true rfl) (s_X1_has hL (llt_3 hL) o1 (k32i (by omega)) (fun h4 => ⟨_, rfl, ?_⟩) (fun h4 => ⟨_, rfl, ?_⟩))
    · have H := H.1 h4
      refine kw_if_ne 24 dX10_like_19 (by decide) (k32i (by omega)) (fun _ => ?_) (fun h5 => absurd h5 (by decide))
      refine kw_aload_n dX10_like_24 rfl ?_
      refine k2_getR fd_X10_5 dX10_like_25 wf_X10_29 (lsh_0 hL) (lrf_0_5 hL) ?_
      refine kw_iload_n dX10_like_28 rfl ?_
      have o6 := H.1
      have H := H.2
      refine k2_callV1A (ci := 0) (N := 2) (T := TX1) rfl (llt_3 hL).1 m_X1_form dX10_like_29 wl_X10_142 (Nat.le_of_ble_eq_true rfl) (s_X1_form hL (llt_3 hL) (by omega) o6 ⟨_, rfl, ?_⟩)
      refine k2_callS1I m_X0_isZero dX10_like_32 wl_X10_329 (Nat.le_of_ble_eq_true rfl) (kC2_mono H (fun r c8 H => ?_))
      obtain ⟨z7, rfl, H⟩ := H
      refine ⟨z7, rfl, ?_⟩
      have o10 := H.1
      have H := H.2
      refine kw_if_ne 52 dX10_like_35 (by decide) o10 (fun h9 => ?_) (fun h9 => ?_)
      · have H := H.1 h9
        refine kw_bipush dX10_like_52 (by decide) ?_
        refine k2_iret dX10_like_54 rfl H
      · have H := H.2 h9
        refine kw_aload_n dX10_like_38 rfl ?_
        refine k2_getR fd_X10_5 dX10_like_39 wf_X10_29 (lsh_0 hL) (lrf_0_5 hL) ?_
        refine kw_iload_n dX10_like_42 rfl ?_
        have o11 := H.1
        have H := H.2
        refine k2_callV1A (ci := 0) (N := 2) (T := TX1) rfl (llt_3 hL).1 m_X1_form dX10_like_43 wl_X10_142 (Nat.le_of_ble_eq_true rfl) (s_X1_form hL (llt_3 hL) (by omega) o11 ⟨_, rfl, ?_⟩)
        refine k2_callS1I m_X0_isZero dX10_like_46 wl_X10_329 (Nat.le_of_ble_eq_true rfl) (kC2_mono H (fun r c13 H => ?_))
        obtain ⟨z12, rfl, H⟩ := H
        refine ⟨z12, rfl, ?_⟩
        have o15 := H.1
        have H := H.2
        refine kw_if_eq 55 dX10_like_49 (by decide) o15 (fun h14 => ?_) (fun h14 => ?_)
        · have H := H.1 h14
          refine kw_aload_n dX10_like_55 rfl ?_
          refine k2_getR fd_X10_14 dX10_like_56 wf_X10_77 (lsh_0 hL) (lrf_0_14 hL) ?_
          refine kw_aload_n dX10_like_59 rfl ?_
          refine k2_getR fd_X10_5 dX10_like_60 wf_X10_29 (lsh_0 hL) (lrf_0_5 hL) ?_
          refine kw_iload_n dX10_like_63 rfl ?_
          refine k2_callV1A (ci := 0) (N := 2) (T := TX1) rfl (llt_3 hL).1 m_X1_form dX10_like_64 wl_X10_142 (Nat.le_of_ble_eq_true rfl) (s_X1_form hL (llt_3 hL) (by omega) o6 ⟨_, rfl, ?_⟩)
          refine kw_aload_n dX10_like_67 rfl ?_
          refine k2_getR fd_X10_5 dX10_like_68 wf_X10_29 (lsh_0 hL) (lrf_0_5 hL) ?_
          refine kw_iload_n dX10_like_71 rfl ?_
          refine k2_callV1A (ci := 0) (N := 2) (T := TX1) rfl (llt_3 hL).1 m_X1_form dX10_like_72 wl_X10_142 (Nat.le_of_ble_eq_true rfl) (s_X1_form hL (llt_3 hL) (by omega) o11 ⟨_, rfl, ?_⟩)
          refine k2_callV2I (ci := 1) (N := 7) (T := TX2) rfl (lsh_533 hL) m_X2_areLike dX10_like_75 wl_X10_332 (Nat.le_of_ble_eq_true rfl) (kC2_mono H (fun r c17 H => ?_))
          obtain ⟨z16, rfl, H⟩ := H
          refine ⟨z16, rfl, ?_⟩
          have o19 := H.1
          have H := H.2
          refine kw_if_eq 85 dX10_like_78 (by decide) o19 (fun h18 => ?_) (fun h18 => ?_)
          · have H := H.1 h18
            refine kw_iconst dX10_like_85 ?_
            refine k2_iret dX10_like_86 rfl H
          · have H := H.2 h18
            refine kw_iconst dX10_like_81 ?_
            refine kw_goto 86 dX10_like_82 (by decide) ?_
            refine k2_iret dX10_like_86 rfl H
        · have H := H.2 h14
          refine kw_bipush dX10_like_52 (by decide) ?_
          refine k2_iret dX10_like_54 rfl H
    · have H := H.2 h4
      refine kw_if_ne 24 dX10_like_19 (by decide) (k32i (by omega)) (fun h20 => absurd h20 (by decide)) (fun _ => ?_)
      refine kw_iconst dX10_like_22 ?_
      refine k2_iret dX10_like_23 rfl H
  · have H := H.2 h2
    refine kw_if_eq 22 dX10_like_8 (by decide) (k32i (by omega)) (fun _ => ?_) (fun h21 => absurd h21 (by decide))
    refine kw_iconst dX10_like_22 ?_
    refine k2_iret dX10_like_23 rfl H
set_option maxRecDepth 4000 in
theorem v_X10_turned {G : KG} {S0 : KSh} (hL : kLay S0) {d : Nat} {P : Option AV → KMem → Prop} {c : KMem} {x1 x2 x3 : Int} (r1 : -2147483648 ≤ x1 ∧ x1 < 2147483648) (r2 : -2147483648 ≤ x2 ∧ x2 < 2147483648) (r3 : -2147483648 ≤ x3 ∧ x3 < 2147483648) (H : (kStT c 3) ∧ (((kHs c 3 x1) → (((kHs c 3 x2) → ((x3 < 0 → (P (some (kI (-1000000000))) c)) ∧ (0 ≤ x3 → ((x3 < 16 → (kC2 G S0 kM_X10_kindAt (d + 5) [kA 0, kI x2] c (kRI (fun z8 c9 => (k32 z8) ∧ (((kMir z8) → ((0 ≤ x2 ∧ x2 < 12) ∧ (kC2 G S0 kM_X8_vectorOf (d + 5) [kA (3 + 2 + x2), kA 555] c9 (kRN (fun c15 => (0 ≤ x1 ∧ x1 < 12) ∧ (kC2 G S0 kM_X3_turn (d + 5) [kA 214, kA (3 + 2 + x1), kA 555, kA 557] c15 (kRI (fun z17 c18 => (k32 z17) ∧ ((z17 ≠ 0 → (P (some (kI (c18 557 x3))) c18)) ∧ (z17 = 0 → (P (some (kI (-1000000000))) c18))))))))))) ∧ (¬ (kMir z8) → (P (some (kI (-1000000000))) c9))))))) ∧ (16 ≤ x3 → (P (some (kI (-1000000000))) c)))))) ∧ (¬ (kHs c 3 x2) → (P (some (kI (-1000000000))) c)))) ∧ (¬ (kHs c 3 x1) → (P (some (kI (-1000000000))) c)))) : kC2 G S0 kM_X10_turned (d + 6) [kA 0, kI x1, kI x2, kI x3] c P := by
  refine k2_met (by decide) rfl (Nat.le_of_ble_eq_true rfl) (l0 := [some (kA 0), some (kI x1), some (kI x2), some (kI x3)]) rfl ?_
  refine kw_aload_n dX10_turned_0 rfl ?_
  refine k2_getR fd_X10_5 dX10_turned_1 wf_X10_29 (lsh_0 hL) (lrf_0_5 hL) ?_
  refine kw_iload_n dX10_turned_4 rfl ?_
  have o1 := H.1
  have H := H.2
  refine k2_callV1I (ci := 0) (N := 2) (T := TX1) rfl (llt_3 hL).1 m_X1_has dX10_turned_5 wl_X10_138 (Nat.le_of_ble_eq_true rfl) (s_X1_has hL (llt_3 hL) o1 (k32i (by omega)) (fun h2 => ⟨_, rfl, ?_⟩) (fun h2 => ⟨_, rfl, ?_⟩))
  · have H := H.1 h2
    refine kw_if_eq 32 dX10_turned_8 (by decide) (k32i (by omega)) (fun h3 => absurd h3 (by decide)) (fun _ => ?_)
    refine kw_aload_n dX10_turned_11 rfl ?_
    refine k2_getR fd_X10_5 dX10_turned_12 wf_X10_29 (lsh_0 hL) (lrf_0_5 hL) ?_
    refine kw_iload_n dX10_turned_15 rfl ?_
    refine k2_callV1I (ci := 0) (N := 2) (T := TX1) rfl (llt_3 hL).1 m_X1_has dX10_turned_16 wl_X10_138 (Nat.le_of_ble_eq_true rfl) (s_X1_has hL (llt_3 hL) o1 (k32i (by omega)) (fun h4 => ⟨_, rfl, ?_⟩) (fun h4 => ⟨_, rfl, ?_⟩))
    · have H := H.1 h4
      refine kw_if_eq 32 dX10_turned_19 (by decide) (k32i (by omega)) (fun h5 => absurd h5 (by decide)) (fun _ => ?_)
      refine kw_iload_n dX10_turned_22 rfl ?_
      refine kw_if_lt 32 dX10_turned_23 (by decide) (k32i (by omega)) (fun h6 => ?_) (fun h6 => ?_)
      · have H := H.1 h6
        refine kw_ldc dX10_turned_32 wk_X10_184 ?_
        refine k2_iret dX10_turned_34 rfl H
      · have H := H.2 h6
        refine kw_iload_n dX10_turned_26 rfl ?_
        refine kw_bipush dX10_turned_27 (by decide) ?_
        refine kw_icmp_lt 35 dX10_turned_29 (by decide) (k32i (by omega)) (k32i (by omega)) (fun h7 => ?_) (fun h7 => ?_)
        · have H := H.1 h7
          refine kw_aload_n dX10_turned_35 rfl ?_
          refine kw_iload_n dX10_turned_36 rfl ?_
          refine k2_callV1I (ci := 8) (N := 20) (T := TX10) rfl (lsh_0 hL) m_X10_kindAt dX10_turned_37 wl_X10_180 (Nat.le_of_ble_eq_true rfl) (kC2_mono H (fun r c9 H => ?_))
          obtain ⟨z8, rfl, H⟩ := H
          refine ⟨z8, rfl, ?_⟩
          have o10 := H.1
          have H := H.2
          refine k2_callS1I m_X8_isMirror dX10_turned_40 wl_X10_192 (Nat.le_of_ble_eq_true rfl) (s_X8_isMirror hL o10 (fun h11 => ⟨_, rfl, ?_⟩) (fun h11 => ⟨_, rfl, ?_⟩))
          · have H := H.1 h11
            refine kw_if_ne 49 dX10_turned_43 (by decide) (k32i (by omega)) (fun _ => ?_) (fun h12 => absurd h12 (by decide))
            refine kw_aload_n dX10_turned_49 rfl ?_
            refine k2_getR fd_X10_5 dX10_turned_50 wf_X10_29 (lsh_0 hL) (lrf_0_5 hL) ?_
            refine kw_iload_n dX10_turned_53 rfl ?_
            have o13 := H.1
            have H := H.2
            refine k2_callV1A (ci := 0) (N := 2) (T := TX1) rfl (llt_3 hL).1 m_X1_form dX10_turned_54 wl_X10_142 (Nat.le_of_ble_eq_true rfl) (s_X1_form hL (llt_3 hL) (by omega) o13 ⟨_, rfl, ?_⟩)
            refine kw_aload_n dX10_turned_57 rfl ?_
            refine k2_getR fd_X10_17 dX10_turned_58 wf_X10_91 (lsh_0 hL) (lrf_0_17 hL) ?_
            refine k2_callS2N m_X8_vectorOf dX10_turned_61 wl_X10_215 (Nat.le_of_ble_eq_true rfl) (kC2_mono H (fun r c15 H => ?_))
            obtain ⟨rfl, H⟩ := H
            refine ⟨rfl, ?_⟩
            refine kw_aload_n dX10_turned_64 rfl ?_
            refine k2_getR fd_X10_12 dX10_turned_65 wf_X10_63 (lsh_0 hL) (lrf_0_12 hL) ?_
            refine kw_aload_n dX10_turned_68 rfl ?_
            refine k2_getR fd_X10_5 dX10_turned_69 wf_X10_29 (lsh_0 hL) (lrf_0_5 hL) ?_
            refine kw_iload_n dX10_turned_72 rfl ?_
            have o16 := H.1
            have H := H.2
            refine k2_callV1A (ci := 0) (N := 2) (T := TX1) rfl (llt_3 hL).1 m_X1_form dX10_turned_73 wl_X10_142 (Nat.le_of_ble_eq_true rfl) (s_X1_form hL (llt_3 hL) (by omega) o16 ⟨_, rfl, ?_⟩)
            refine kw_aload_n dX10_turned_76 rfl ?_
            refine k2_getR fd_X10_17 dX10_turned_77 wf_X10_91 (lsh_0 hL) (lrf_0_17 hL) ?_
            refine kw_aload_n dX10_turned_80 rfl ?_
            refine k2_getR fd_X10_19 dX10_turned_81 wf_X10_98 (lsh_0 hL) (lrf_0_19 hL) ?_
            refine k2_callV3I (ci := 2) (N := 7) (T := TX3) rfl (lsh_214 hL) m_X3_turn dX10_turned_84 wl_X10_373 (Nat.le_of_ble_eq_true rfl) (kC2_mono H (fun r c18 H => ?_))
            obtain ⟨z17, rfl, H⟩ := H
            refine ⟨z17, rfl, ?_⟩
            have o20 := H.1
            have H := H.2
            refine kw_if_ne 93 dX10_turned_87 (by decide) o20 (fun h19 => ?_) (fun h19 => ?_)
            · have H := H.1 h19
              refine kw_aload_n dX10_turned_93 rfl ?_
              refine k2_getR fd_X10_19 dX10_turned_94 wf_X10_98 (lsh_0 hL) (lrf_0_19 hL) ?_
              refine kw_iload_n dX10_turned_97 rfl ?_
              refine k2_lald dX10_turned_98 (lsh_557 hL) (by omega) (by omega) ?_
              refine kw_l2i dX10_turned_99 ?_
              refine k2_iret dX10_turned_100 rfl H
            · have H := H.2 h19
              refine kw_ldc dX10_turned_90 wk_X10_184 ?_
              refine k2_iret dX10_turned_92 rfl H
          · have H := H.2 h11
            refine kw_if_ne 49 dX10_turned_43 (by decide) (k32i (by omega)) (fun h21 => absurd h21 (by decide)) (fun _ => ?_)
            refine kw_ldc dX10_turned_46 wk_X10_184 ?_
            refine k2_iret dX10_turned_48 rfl H
        · have H := H.2 h7
          refine kw_ldc dX10_turned_32 wk_X10_184 ?_
          refine k2_iret dX10_turned_34 rfl H
    · have H := H.2 h4
      refine kw_if_eq 32 dX10_turned_19 (by decide) (k32i (by omega)) (fun _ => ?_) (fun h22 => absurd h22 (by decide))
      refine kw_ldc dX10_turned_32 wk_X10_184 ?_
      refine k2_iret dX10_turned_34 rfl H
  · have H := H.2 h2
    refine kw_if_eq 32 dX10_turned_8 (by decide) (k32i (by omega)) (fun _ => ?_) (fun h23 => absurd h23 (by decide))
    refine kw_ldc dX10_turned_32 wk_X10_184 ?_
    refine k2_iret dX10_turned_34 rfl H
set_option maxRecDepth 4000 in
theorem v_X10_brings {G : KG} {S0 : KSh} (hL : kLay S0) {d : Nat} {P : Option AV → KMem → Prop} {c : KMem} {x1 x2 x3 x4 : Int} (r1 : -2147483648 ≤ x1 ∧ x1 < 2147483648) (r2 : -2147483648 ≤ x2 ∧ x2 < 2147483648) (r3 : -2147483648 ≤ x3 ∧ x3 < 2147483648) (r4 : -2147483648 ≤ x4 ∧ x4 < 2147483648) (H : (kStT c 3) ∧ (((kHs c 3 x1) → (((99 < x2 ∨ x2 < -99) → (P (some (kL (-2000000000000000000))) c)) ∧ (¬ (99 < x2 ∨ x2 < -99) → (((99 < x3 ∨ x3 < -99) → (P (some (kL (-2000000000000000000))) c)) ∧ (¬ (99 < x3 ∨ x3 < -99) → ((x4 < 0 → (P (some (kL (-2000000000000000000))) c)) ∧ (0 ≤ x4 → ((x4 ≤ 2 → ((0 ≤ x1 ∧ x1 < 12) ∧ (kC2 G S0 kM_X3_isMotion (d + 5) [kA 214, kA (3 + 2 + x1)] c (kRI (fun z13 c14 => (k32 z13) ∧ ((z13 ≠ 0 → (kC2 G S0 kM_X0_place (d + 5) [kI x2, kI x3, kA 555] c14 (kRN (fun c18 => kC2 G S0 kM_X3_bring (d + 5) [kA 214, kA (3 + 2 + x1), kA 555, kA 553] c18 (kRI (fun z19 c20 => (k32 z19) ∧ ((z19 = 0 → (P (some (kL (-3000000000000000000))) c20)) ∧ (z19 ≠ 0 → (kC2 G S0 kM_X9_number (d + 5) [kA 553, kI x4] c20 (kRL (fun z23 c24 => P (some (kL z23)) c24))))))))))) ∧ (z13 = 0 → (P (some (kL (-3000000000000000000))) c14)))))))) ∧ (2 < x4 → (P (some (kL (-2000000000000000000))) c)))))))))) ∧ (¬ (kHs c 3 x1) → (P (some (kL (-2000000000000000000))) c)))) : kC2 G S0 kM_X10_brings (d + 6) [kA 0, kI x1, kI x2, kI x3, kI x4] c P := by
  refine k2_met (by decide) rfl (Nat.le_of_ble_eq_true rfl) (l0 := [some (kA 0), some (kI x1), some (kI x2), some (kI x3), some (kI x4), none]) rfl ?_
  refine kw_aload_n dX10_brings_0 rfl ?_
  refine k2_getR fd_X10_5 dX10_brings_1 wf_X10_29 (lsh_0 hL) (lrf_0_5 hL) ?_
  refine kw_iload_n dX10_brings_4 rfl ?_
  have o1 := H.1
  have H := H.2
  refine k2_callV1I (ci := 0) (N := 2) (T := TX1) rfl (llt_3 hL).1 m_X1_has dX10_brings_5 wl_X10_138 (Nat.le_of_ble_eq_true rfl) (s_X1_has hL (llt_3 hL) o1 (k32i (by omega)) (fun h2 => ⟨_, rfl, ?_⟩) (fun h2 => ⟨_, rfl, ?_⟩))
  · have H := H.1 h2
    refine kw_if_eq 36 dX10_brings_8 (by decide) (k32i (by omega)) (fun h3 => absurd h3 (by decide)) (fun _ => ?_)
    refine kw_iload_n dX10_brings_11 rfl ?_
    refine k2_callS1I m_X10_isFar dX10_brings_12 wl_X10_231 (Nat.le_of_ble_eq_true rfl) (s_X10_isFar hL (k32i (by omega)) (fun h4 => ⟨_, rfl, ?_⟩) (fun h4 => ⟨_, rfl, ?_⟩))
    · have H := H.1 h4
      refine kw_if_ne 36 dX10_brings_15 (by decide) (k32i (by omega)) (fun _ => ?_) (fun h5 => absurd h5 (by decide))
      refine kw_ldc2 dX10_brings_36 wk_X10_208 ?_
      refine k2_lret dX10_brings_39 rfl H
    · have H := H.2 h4
      refine kw_if_ne 36 dX10_brings_15 (by decide) (k32i (by omega)) (fun h6 => absurd h6 (by decide)) (fun _ => ?_)
      refine kw_iload_n dX10_brings_18 rfl ?_
      refine k2_callS1I m_X10_isFar dX10_brings_19 wl_X10_231 (Nat.le_of_ble_eq_true rfl) (s_X10_isFar hL (k32i (by omega)) (fun h7 => ⟨_, rfl, ?_⟩) (fun h7 => ⟨_, rfl, ?_⟩))
      · have H := H.1 h7
        refine kw_if_ne 36 dX10_brings_22 (by decide) (k32i (by omega)) (fun _ => ?_) (fun h8 => absurd h8 (by decide))
        refine kw_ldc2 dX10_brings_36 wk_X10_208 ?_
        refine k2_lret dX10_brings_39 rfl H
      · have H := H.2 h7
        refine kw_if_ne 36 dX10_brings_22 (by decide) (k32i (by omega)) (fun h9 => absurd h9 (by decide)) (fun _ => ?_)
        refine kw_iload dX10_brings_25 rfl ?_
        refine kw_if_lt 36 dX10_brings_27 (by decide) (k32i (by omega)) (fun h10 => ?_) (fun h10 => ?_)
        · have H := H.1 h10
          refine kw_ldc2 dX10_brings_36 wk_X10_208 ?_
          refine k2_lret dX10_brings_39 rfl H
        · have H := H.2 h10
          refine kw_iload dX10_brings_30 rfl ?_
          refine kw_iconst dX10_brings_32 ?_
          refine kw_icmp_le 40 dX10_brings_33 (by decide) (k32i (by omega)) (k32i (by omega)) (fun h11 => ?_) (fun h11 => ?_)
          · have H := H.1 h11
            refine kw_aload_n dX10_brings_40 rfl ?_
            refine k2_getR fd_X10_5 dX10_brings_41 wf_X10_29 (lsh_0 hL) (lrf_0_5 hL) ?_
            refine kw_iload_n dX10_brings_44 rfl ?_
            have o12 := H.1
            have H := H.2
            refine k2_callV1A (ci := 0) (N := 2) (T := TX1) rfl (llt_3 hL).1 m_X1_form dX10_brings_45 wl_X10_142 (Nat.le_of_ble_eq_true rfl) (s_X1_form hL (llt_3 hL) (by omega) o12 ⟨_, rfl, ?_⟩)
            refine kw_astore dX10_brings_48 (Nat.le_of_ble_eq_true rfl) ?_
            refine kw_aload_n dX10_brings_50 rfl ?_
            refine k2_getR fd_X10_12 dX10_brings_51 wf_X10_63 (lsh_0 hL) (lrf_0_12 hL) ?_
            refine kw_aload dX10_brings_54 rfl ?_
            refine k2_callV1I (ci := 2) (N := 7) (T := TX3) rfl (lsh_214 hL) m_X3_isMotion dX10_brings_56 wl_X10_195 (Nat.le_of_ble_eq_true rfl) (kC2_mono H (fun r c14 H => ?_))
            obtain ⟨z13, rfl, H⟩ := H
            refine ⟨z13, rfl, ?_⟩
            have o16 := H.1
            have H := H.2
            refine kw_if_ne 66 dX10_brings_59 (by decide) o16 (fun h15 => ?_) (fun h15 => ?_)
            · have H := H.1 h15
              refine kw_iload_n dX10_brings_66 rfl ?_
              refine kw_iload_n dX10_brings_67 rfl ?_
              refine kw_aload_n dX10_brings_68 rfl ?_
              refine k2_getR fd_X10_17 dX10_brings_69 wf_X10_91 (lsh_0 hL) (lrf_0_17 hL) ?_
              refine k2_callS3N m_X0_place dX10_brings_72 wl_X10_162 (Nat.le_of_ble_eq_true rfl) (kC2_mono H (fun r c18 H => ?_))
              obtain ⟨rfl, H⟩ := H
              refine ⟨rfl, ?_⟩
              refine kw_aload_n dX10_brings_75 rfl ?_
              refine k2_getR fd_X10_12 dX10_brings_76 wf_X10_63 (lsh_0 hL) (lrf_0_12 hL) ?_
              refine kw_aload dX10_brings_79 rfl ?_
              refine kw_aload_n dX10_brings_81 rfl ?_
              refine k2_getR fd_X10_17 dX10_brings_82 wf_X10_91 (lsh_0 hL) (lrf_0_17 hL) ?_
              refine kw_aload_n dX10_brings_85 rfl ?_
              refine k2_getR fd_X10_15 dX10_brings_86 wf_X10_84 (lsh_0 hL) (lrf_0_15 hL) ?_
              refine k2_callV3I (ci := 2) (N := 7) (T := TX3) rfl (lsh_214 hL) m_X3_bring dX10_brings_89 wl_X10_377 (Nat.le_of_ble_eq_true rfl) (kC2_mono H (fun r c20 H => ?_))
              obtain ⟨z19, rfl, H⟩ := H
              refine ⟨z19, rfl, ?_⟩
              have o22 := H.1
              have H := H.2
              refine kw_if_eq 107 dX10_brings_92 (by decide) o22 (fun h21 => ?_) (fun h21 => ?_)
              · have H := H.1 h21
                refine kw_ldc2 dX10_brings_107 wk_X10_213 ?_
                refine k2_lret dX10_brings_110 rfl H
              · have H := H.2 h21
                refine kw_aload_n dX10_brings_95 rfl ?_
                refine k2_getR fd_X10_15 dX10_brings_96 wf_X10_84 (lsh_0 hL) (lrf_0_15 hL) ?_
                refine kw_iload dX10_brings_99 rfl ?_
                refine k2_callV1L (ci := 7) (N := 5) (T := TX9) rfl (lsh_553 hL) m_X9_number dX10_brings_101 wl_X10_223 (Nat.le_of_ble_eq_true rfl) (kC2_mono H (fun r c24 H => ?_))
                obtain ⟨z23, rfl, H⟩ := H
                refine ⟨z23, rfl, ?_⟩
                refine kw_goto 110 dX10_brings_104 (by decide) ?_
                refine k2_lret dX10_brings_110 rfl H
            · have H := H.2 h15
              refine kw_ldc2 dX10_brings_62 wk_X10_213 ?_
              refine k2_lret dX10_brings_65 rfl H
          · have H := H.2 h11
            refine kw_ldc2 dX10_brings_36 wk_X10_208 ?_
            refine k2_lret dX10_brings_39 rfl H
  · have H := H.2 h2
    refine kw_if_eq 36 dX10_brings_8 (by decide) (k32i (by omega)) (fun _ => ?_) (fun h25 => absurd h25 (by decide))
    refine kw_ldc2 dX10_brings_36 wk_X10_208 ?_
    refine k2_lret dX10_brings_39 rfl H
