set_option maxRecDepth 4000 in
theorem v_X10_isFar {G : KG} {S0 : KSh} (hL : kLay S0) {d : Nat} {P : Option AV → KMem → Prop} {c : KMem} {x0 : Int} (r0 : -2147483648 ≤ x0 ∧ x0 < 2147483648) (H : (x0 < (-99) → (P (some (kI 1)) c)) ∧ ((-99) ≤ x0 → ((x0 ≤ 99 → (P (some (kI 0)) c)) ∧ (99 < x0 → (P (some (kI 1)) c))))) : kC2 G S0 kM_X10_isFar d [kI x0] c P := by
  refine k2_met (by decide) rfl (Nat.le_of_ble_eq_true rfl) (l0 := [some (kI x0)]) rfl ?_
  refine kw_iload_n dX10_isFar_0 rfl ?_
  refine kw_bipush dX10_isFar_1 (by decide) ?_
  refine kw_icmp_lt 12 dX10_isFar_3 (by decide) (k32i (by omega)) (k32i (by omega)) (fun h1 => ?_) (fun h1 => ?_)
  · have H := H.1 h1
    refine kw_iconst dX10_isFar_12 ?_
    refine kw_goto 17 dX10_isFar_13 (by decide) ?_
    refine k2_zret dX10_isFar_17 rfl (Or.inr rfl) H
  · have H := H.2 h1
    refine kw_iload_n dX10_isFar_6 rfl ?_
    refine kw_bipush dX10_isFar_7 (by decide) ?_
    refine kw_icmp_le 16 dX10_isFar_9 (by decide) (k32i (by omega)) (k32i (by omega)) (fun h2 => ?_) (fun h2 => ?_)
    · have H := H.1 h2
      refine kw_iconst dX10_isFar_16 ?_
      refine k2_zret dX10_isFar_17 rfl (Or.inl rfl) H
    · have H := H.2 h2
      refine kw_iconst dX10_isFar_12 ?_
      refine kw_goto 17 dX10_isFar_13 (by decide) ?_
      refine k2_zret dX10_isFar_17 rfl (Or.inr rfl) H
section CQ
variable {G : KG} {S0 : KSh} {d : Nat} {P : Option AV → KMem → Prop} {c : KMem} {x0 x1 x2 x3 x4 : Int}
theorem s_X10_isFar (hL : kLay S0) (r0 : k32 x0) (h1 : (99 < x0 ∨ x0 < -99) → P (some (kI 1)) c) (h0 : ¬ (99 < x0 ∨ x0 < -99) → P (some (kI 0)) c) : kC2 G S0 kM_X10_isFar d [kI x0] c P :=
  v_X10_isFar hL r0 ⟨fun a => h1 (by omega), fun a => ⟨fun b => h0 (by omega), fun b => h1 (by omega)⟩⟩
end CQ
set_option maxRecDepth 4000 in
theorem v_X10_kindAt {G : KG} {S0 : KSh} (hL : kLay S0) {d : Nat} {P : Option AV → KMem → Prop} {c : KMem} {x1 : Int} (r1 : -2147483648 ≤ x1 ∧ x1 < 2147483648) (H : (0 ≤ x1 ∧ x1 < 12) ∧ (kC2 G S0 kM_X8_kindOf (d + 4) [kA (3 + 2 + x1)] c (kRI (fun z2 c3 => P (some (kI z2)) c3)))) : kC2 G S0 kM_X10_kindAt (d + 5) [kA 0, kI x1] c P := by
  refine k2_met (by decide) rfl (Nat.le_of_ble_eq_true rfl) (l0 := [some (kA 0), some (kI x1)]) rfl ?_
  refine kw_aload_n dX10_kindAt_0 rfl ?_
  refine k2_getR fd_X10_5 dX10_kindAt_1 wf_X10_29 (lsh_0 hL) (lrf_0_5 hL) ?_
  refine kw_iload_n dX10_kindAt_4 rfl ?_
  have o1 := H.1
  have H := H.2
  refine k2_callV1A (ci := 0) (N := 2) (T := TX1) rfl (llt_3 hL).1 m_X1_form dX10_kindAt_5 wl_X10_142 (Nat.le_of_ble_eq_true rfl) (s_X1_form hL (llt_3 hL) (by omega) o1 ⟨_, rfl, ?_⟩)
  refine k2_callS1I m_X8_kindOf dX10_kindAt_8 wl_X10_146 (Nat.le_of_ble_eq_true rfl) (kC2_mono H (fun r c3 H => ?_))
  obtain ⟨z2, rfl, H⟩ := H
  refine ⟨z2, rfl, ?_⟩
  refine k2_iret dX10_kindAt_11 rfl H
set_option maxRecDepth 4000 in
theorem v_X10_part {G : KG} {S0 : KSh} (hL : kLay S0) {d : Nat} {P : Option AV → KMem → Prop} {c : KMem} {x1 x2 : Int} (r1 : -2147483648 ≤ x1 ∧ x1 < 2147483648) (r2 : -2147483648 ≤ x2 ∧ x2 < 2147483648) (H : (kStT c 3) ∧ (((kHs c 3 x1) → ((x2 < 0 → (P (some (kI (-1000000000))) c)) ∧ (0 ≤ x2 → ((x2 < 16 → ((0 ≤ x1 ∧ x1 < 12) ∧ (P (some (kI (c (3 + 2 + x1) x2))) c))) ∧ (16 ≤ x2 → (P (some (kI (-1000000000))) c)))))) ∧ (¬ (kHs c 3 x1) → (P (some (kI (-1000000000))) c)))) : kC2 G S0 kM_X10_part (d + 1) [kA 0, kI x1, kI x2] c P := by
  refine k2_met (by decide) rfl (Nat.le_of_ble_eq_true rfl) (l0 := [some (kA 0), some (kI x1), some (kI x2)]) rfl ?_
  refine kw_aload_n dX10_part_0 rfl ?_
  refine k2_getR fd_X10_5 dX10_part_1 wf_X10_29 (lsh_0 hL) (lrf_0_5 hL) ?_
  refine kw_iload_n dX10_part_4 rfl ?_
  have o1 := H.1
  have H := H.2
  refine k2_callV1I (ci := 0) (N := 2) (T := TX1) rfl (llt_3 hL).1 m_X1_has dX10_part_5 wl_X10_138 (Nat.le_of_ble_eq_true rfl) (s_X1_has hL (llt_3 hL) o1 (k32i (by omega)) (fun h2 => ⟨_, rfl, ?_⟩) (fun h2 => ⟨_, rfl, ?_⟩))
  · have H := H.1 h2
    refine kw_if_eq 21 dX10_part_8 (by decide) (k32i (by omega)) (fun h3 => absurd h3 (by decide)) (fun _ => ?_)
    refine kw_iload_n dX10_part_11 rfl ?_
    refine kw_if_lt 21 dX10_part_12 (by decide) (k32i (by omega)) (fun h4 => ?_) (fun h4 => ?_)
    · have H := H.1 h4
      refine kw_ldc dX10_part_21 wk_X10_184 ?_
      refine k2_iret dX10_part_23 rfl H
    · have H := H.2 h4
      refine kw_iload_n dX10_part_15 rfl ?_
      refine kw_bipush dX10_part_16 (by decide) ?_
      refine kw_icmp_lt 24 dX10_part_18 (by decide) (k32i (by omega)) (k32i (by omega)) (fun h5 => ?_) (fun h5 => ?_)
      · have H := H.1 h5
        refine kw_aload_n dX10_part_24 rfl ?_
        refine k2_getR fd_X10_5 dX10_part_25 wf_X10_29 (lsh_0 hL) (lrf_0_5 hL) ?_
        refine kw_iload_n dX10_part_28 rfl ?_
        have o6 := H.1
        have H := H.2
        refine k2_callV1A (ci := 0) (N := 2) (T := TX1) rfl (llt_3 hL).1 m_X1_form dX10_part_29 wl_X10_142 (Nat.le_of_ble_eq_true rfl) (s_X1_form hL (llt_3 hL) (by omega) o6 ⟨_, rfl, ?_⟩)
        refine kw_iload_n dX10_part_32 rfl ?_
        refine k2_lald dX10_part_33 (((llt_3 hL).2.2.2.2.2 _ o6.1 o6.2).2) (by omega) (by omega) ?_
        refine kw_l2i dX10_part_34 ?_
        refine k2_iret dX10_part_35 rfl H
      · have H := H.2 h5
        refine kw_ldc dX10_part_21 wk_X10_184 ?_
        refine k2_iret dX10_part_23 rfl H
  · have H := H.2 h2
    refine kw_if_eq 21 dX10_part_8 (by decide) (k32i (by omega)) (fun _ => ?_) (fun h7 => absurd h7 (by decide))
    refine kw_ldc dX10_part_21 wk_X10_184 ?_
    refine k2_iret dX10_part_23 rfl H
set_option maxRecDepth 4000 in
theorem v_X10_on {G : KG} {S0 : KSh} (hL : kLay S0) {d : Nat} {P : Option AV → KMem → Prop} {c : KMem} {x1 x2 x3 : Int} (r1 : -2147483648 ≤ x1 ∧ x1 < 2147483648) (r2 : -2147483648 ≤ x2 ∧ x2 < 2147483648) (r3 : -2147483648 ≤ x3 ∧ x3 < 2147483648) (H : (kStT c 3) ∧ (((kHs c 3 x1) → (((99 < x2 ∨ x2 < -99) → (P (some (kI (-1))) c)) ∧ (¬ (99 < x2 ∨ x2 < -99) → (((99 < x3 ∨ x3 < -99) → (P (some (kI (-1))) c)) ∧ (¬ (99 < x3 ∨ x3 < -99) → ((0 ≤ x1 ∧ x1 < 12) ∧ (kC2 G S0 kM_X8_kindOf (d + 4) [kA (3 + 2 + x1)] c (kRI (fun z11 c12 => (k32 z11) ∧ (((kBear z11) → (kC2 G S0 kM_X0_place (d + 4) [kI x2, kI x3, kA 557] c12 (kRN (fun c17 => kC2 G S0 kM_X8_bears (d + 4) [kA (3 + 2 + x1), kI z11, kA 557] c17 (kRI (fun z18 c19 => (k32 z18) ∧ ((z18 = 0 → (P (some (kI 0)) c19)) ∧ (z18 ≠ 0 → (P (some (kI 1)) c19))))))))) ∧ (¬ (kBear z11) → (P (some (kI (-3))) c12)))))))))))) ∧ (¬ (kHs c 3 x1) → (P (some (kI (-1))) c)))) : kC2 G S0 kM_X10_on (d + 5) [kA 0, kI x1, kI x2, kI x3] c P := by
  refine k2_met (by decide) rfl (Nat.le_of_ble_eq_true rfl) (l0 := [some (kA 0), some (kI x1), some (kI x2), some (kI x3), none, none]) rfl ?_
  refine kw_aload_n dX10_on_0 rfl ?_
  refine k2_getR fd_X10_5 dX10_on_1 wf_X10_29 (lsh_0 hL) (lrf_0_5 hL) ?_
  refine kw_iload_n dX10_on_4 rfl ?_
  have o1 := H.1
  have H := H.2
  refine k2_callV1I (ci := 0) (N := 2) (T := TX1) rfl (llt_3 hL).1 m_X1_has dX10_on_5 wl_X10_138 (Nat.le_of_ble_eq_true rfl) (s_X1_has hL (llt_3 hL) o1 (k32i (by omega)) (fun h2 => ⟨_, rfl, ?_⟩) (fun h2 => ⟨_, rfl, ?_⟩))
  · have H := H.1 h2
    refine kw_if_eq 25 dX10_on_8 (by decide) (k32i (by omega)) (fun h3 => absurd h3 (by decide)) (fun _ => ?_)
    refine kw_iload_n dX10_on_11 rfl ?_
    refine k2_callS1I m_X10_isFar dX10_on_12 wl_X10_231 (Nat.le_of_ble_eq_true rfl) (s_X10_isFar hL (k32i (by omega)) (fun h4 => ⟨_, rfl, ?_⟩) (fun h4 => ⟨_, rfl, ?_⟩))
    · have H := H.1 h4
      refine kw_if_ne 25 dX10_on_15 (by decide) (k32i (by omega)) (fun _ => ?_) (fun h5 => absurd h5 (by decide))
      refine kw_iconst dX10_on_25 ?_
      refine k2_iret dX10_on_26 rfl H
    · have H := H.2 h4
      refine kw_if_ne 25 dX10_on_15 (by decide) (k32i (by omega)) (fun h6 => absurd h6 (by decide)) (fun _ => ?_)
      refine kw_iload_n dX10_on_18 rfl ?_
      refine k2_callS1I m_X10_isFar dX10_on_19 wl_X10_231 (Nat.le_of_ble_eq_true rfl) (s_X10_isFar hL (k32i (by omega)) (fun h7 => ⟨_, rfl, ?_⟩) (fun h7 => ⟨_, rfl, ?_⟩))
      · have H := H.1 h7
        refine kw_if_eq 27 dX10_on_22 (by decide) (k32i (by omega)) (fun h8 => absurd h8 (by decide)) (fun _ => ?_)
        refine kw_iconst dX10_on_25 ?_
        refine k2_iret dX10_on_26 rfl H
      · have H := H.2 h7
        refine kw_if_eq 27 dX10_on_22 (by decide) (k32i (by omega)) (fun _ => ?_) (fun h9 => absurd h9 (by decide))
        refine kw_aload_n dX10_on_27 rfl ?_
        refine k2_getR fd_X10_5 dX10_on_28 wf_X10_29 (lsh_0 hL) (lrf_0_5 hL) ?_
        refine kw_iload_n dX10_on_31 rfl ?_
        have o10 := H.1
        have H := H.2
        refine k2_callV1A (ci := 0) (N := 2) (T := TX1) rfl (llt_3 hL).1 m_X1_form dX10_on_32 wl_X10_142 (Nat.le_of_ble_eq_true rfl) (s_X1_form hL (llt_3 hL) (by omega) o10 ⟨_, rfl, ?_⟩)
        refine kw_astore dX10_on_35 (Nat.le_of_ble_eq_true rfl) ?_
        refine kw_aload dX10_on_37 rfl ?_
        refine k2_callS1I m_X8_kindOf dX10_on_39 wl_X10_146 (Nat.le_of_ble_eq_true rfl) (kC2_mono H (fun r c12 H => ?_))
        obtain ⟨z11, rfl, H⟩ := H
        refine ⟨z11, rfl, ?_⟩
        refine kw_istore dX10_on_42 (Nat.le_of_ble_eq_true rfl) ?_
        refine kw_iload dX10_on_44 rfl ?_
        have o13 := H.1
        have H := H.2
        refine k2_callS1I m_X8_canBear dX10_on_46 wl_X10_234 (Nat.le_of_ble_eq_true rfl) (s_X8_canBear hL o13 (fun h14 => ⟨_, rfl, ?_⟩) (fun h14 => ⟨_, rfl, ?_⟩))
        · have H := H.1 h14
          refine kw_if_ne 55 dX10_on_49 (by decide) (k32i (by omega)) (fun _ => ?_) (fun h15 => absurd h15 (by decide))
          refine kw_iload_n dX10_on_55 rfl ?_
          refine kw_iload_n dX10_on_56 rfl ?_
          refine kw_aload_n dX10_on_57 rfl ?_
          refine k2_getR fd_X10_19 dX10_on_58 wf_X10_98 (lsh_0 hL) (lrf_0_19 hL) ?_
          refine k2_callS3N m_X0_place dX10_on_61 wl_X10_162 (Nat.le_of_ble_eq_true rfl) (kC2_mono H (fun r c17 H => ?_))
          obtain ⟨rfl, H⟩ := H
          refine ⟨rfl, ?_⟩
          refine kw_aload dX10_on_64 rfl ?_
          refine kw_iload dX10_on_66 rfl ?_
          refine kw_aload_n dX10_on_68 rfl ?_
          refine k2_getR fd_X10_19 dX10_on_69 wf_X10_98 (lsh_0 hL) (lrf_0_19 hL) ?_
          refine k2_callS3I m_X8_bears dX10_on_72 wl_X10_237 (Nat.le_of_ble_eq_true rfl) (kC2_mono H (fun r c19 H => ?_))
          obtain ⟨z18, rfl, H⟩ := H
          refine ⟨z18, rfl, ?_⟩
          have o21 := H.1
          have H := H.2
          refine kw_if_eq 82 dX10_on_75 (by decide) o21 (fun h20 => ?_) (fun h20 => ?_)
          · have H := H.1 h20
            refine kw_iconst dX10_on_82 ?_
            refine k2_iret dX10_on_83 rfl H
          · have H := H.2 h20
            refine kw_iconst dX10_on_78 ?_
            refine kw_goto 83 dX10_on_79 (by decide) ?_
            refine k2_iret dX10_on_83 rfl H
        · have H := H.2 h14
          refine kw_if_ne 55 dX10_on_49 (by decide) (k32i (by omega)) (fun h22 => absurd h22 (by decide)) (fun _ => ?_)
          refine kw_bipush dX10_on_52 (by decide) ?_
          refine k2_iret dX10_on_54 rfl H
  · have H := H.2 h2
    refine kw_if_eq 25 dX10_on_8 (by decide) (k32i (by omega)) (fun _ => ?_) (fun h23 => absurd h23 (by decide))
    refine kw_iconst dX10_on_25 ?_
    refine k2_iret dX10_on_26 rfl H
set_option maxRecDepth 4000 in
theorem v_X10_row {G : KG} {S0 : KSh} (hL : kLay S0) {d : Nat} {P : Option AV → KMem → Prop} {c : KMem} {x1 x2 : Int} (r1 : -2147483648 ≤ x1 ∧ x1 < 2147483648) (r2 : -2147483648 ≤ x2 ∧ x2 < 2147483648) (H : (kStT c 3) ∧ (((kHs c 3 x1) → (((99 < x2 ∨ x2 < -99) → (P (some (kI (-1))) c)) ∧ (¬ (99 < x2 ∨ x2 < -99) → ((0 ≤ x1 ∧ x1 < 12) ∧ (kC2 G S0 kM_X8_kindOf (d + 4) [kA (3 + 2 + x1)] c (kRI (fun z8 c9 => (k32 z8) ∧ (((kBear z8) → (kW2 G S0 kM_X10_row (d + 5) 53 [some (kA 0), none, some (kI x2), some (kA (3 + 2 + x1)), some (kI z8), some (kI 0), some (kI (-15))] [] c9 P)) ∧ (¬ (kBear z8) → (P (some (kI (-3))) c9)))))))))) ∧ (¬ (kHs c 3 x1) → (P (some (kI (-1))) c)))) : kC2 G S0 kM_X10_row (d + 5) [kA 0, kI x1, kI x2] c P := by
  refine k2_met (by decide) rfl (Nat.le_of_ble_eq_true rfl) (l0 := [some (kA 0), some (kI x1), some (kI x2), none, none, none, none]) rfl ?_
  refine kw_aload_n dX10_row_0 rfl ?_
  refine k2_getR fd_X10_5 dX10_row_1 wf_X10_29 (lsh_0 hL) (lrf_0_5 hL) ?_
  refine kw_iload_n dX10_row_4 rfl ?_
  have o1 := H.1
  have H := H.2
  refine k2_callV1I (ci := 0) (N := 2) (T := TX1) rfl (llt_3 hL).1 m_X1_has dX10_row_5 wl_X10_138 (Nat.le_of_ble_eq_true rfl) (s_X1_has hL (llt_3 hL) o1 (k32i (by omega)) (fun h2 => ⟨_, rfl, ?_⟩) (fun h2 => ⟨_, rfl, ?_⟩))
  · have H := H.1 h2
    refine kw_if_eq 18 dX10_row_8 (by decide) (k32i (by omega)) (fun h3 => absurd h3 (by decide)) (fun _ => ?_)
    refine kw_iload_n dX10_row_11 rfl ?_
    refine k2_callS1I m_X10_isFar dX10_row_12 wl_X10_231 (Nat.le_of_ble_eq_true rfl) (s_X10_isFar hL (k32i (by omega)) (fun h4 => ⟨_, rfl, ?_⟩) (fun h4 => ⟨_, rfl, ?_⟩))
    · have H := H.1 h4
      refine kw_if_eq 20 dX10_row_15 (by decide) (k32i (by omega)) (fun h5 => absurd h5 (by decide)) (fun _ => ?_)
      refine kw_iconst dX10_row_18 ?_
      refine k2_iret dX10_row_19 rfl H
    · have H := H.2 h4
      refine kw_if_eq 20 dX10_row_15 (by decide) (k32i (by omega)) (fun _ => ?_) (fun h6 => absurd h6 (by decide))
      refine kw_aload_n dX10_row_20 rfl ?_
      refine k2_getR fd_X10_5 dX10_row_21 wf_X10_29 (lsh_0 hL) (lrf_0_5 hL) ?_
      refine kw_iload_n dX10_row_24 rfl ?_
      have o7 := H.1
      have H := H.2
      refine k2_callV1A (ci := 0) (N := 2) (T := TX1) rfl (llt_3 hL).1 m_X1_form dX10_row_25 wl_X10_142 (Nat.le_of_ble_eq_true rfl) (s_X1_form hL (llt_3 hL) (by omega) o7 ⟨_, rfl, ?_⟩)
      refine kw_astore_n dX10_row_28 (Nat.le_of_ble_eq_true rfl) ?_
      refine kw_aload_n dX10_row_29 rfl ?_
      refine k2_callS1I m_X8_kindOf dX10_row_30 wl_X10_146 (Nat.le_of_ble_eq_true rfl) (kC2_mono H (fun r c9 H => ?_))
      obtain ⟨z8, rfl, H⟩ := H
      refine ⟨z8, rfl, ?_⟩
      refine kw_istore dX10_row_33 (Nat.le_of_ble_eq_true rfl) ?_
      refine kw_iload dX10_row_35 rfl ?_
      have o10 := H.1
      have H := H.2
      refine k2_callS1I m_X8_canBear dX10_row_37 wl_X10_234 (Nat.le_of_ble_eq_true rfl) (s_X8_canBear hL o10 (fun h11 => ⟨_, rfl, ?_⟩) (fun h11 => ⟨_, rfl, ?_⟩))
      · have H := H.1 h11
        refine kw_if_ne 46 dX10_row_40 (by decide) (k32i (by omega)) (fun _ => ?_) (fun h12 => absurd h12 (by decide))
        refine kw_iconst dX10_row_46 ?_
        refine kw_istore dX10_row_47 (Nat.le_of_ble_eq_true rfl) ?_
        refine kw_bipush dX10_row_49 (by decide) ?_
        refine kw_istore dX10_row_51 (Nat.le_of_ble_eq_true rfl) ?_
        exact kw_forget (ls' := [some (kA 0), none, some (kI x2), some (kA (3 + 2 + x1)), some (kI z8), some (kI 0), some (kI (-15))]) ⟨Or.inr rfl, ⟨Or.inl rfl, ⟨Or.inr rfl, ⟨Or.inr rfl, ⟨Or.inr rfl, ⟨Or.inr rfl, ⟨Or.inr rfl, trivial⟩⟩⟩⟩⟩⟩⟩ H
      · have H := H.2 h11
        refine kw_if_ne 46 dX10_row_40 (by decide) (k32i (by omega)) (fun h13 => absurd h13 (by decide)) (fun _ => ?_)
        refine kw_bipush dX10_row_43 (by decide) ?_
        refine k2_iret dX10_row_45 rfl H
  · have H := H.2 h2
    refine kw_if_eq 18 dX10_row_8 (by decide) (k32i (by omega)) (fun _ => ?_) (fun h14 => absurd h14 (by decide))
    refine kw_iconst dX10_row_18 ?_
    refine k2_iret dX10_row_19 rfl H
set_option maxRecDepth 4000 in
theorem v_X10_row_53 {G : KG} {S0 : KSh} (hL : kLay S0) {d : Nat} {P : Option AV → KMem → Prop} {c : KMem} {x2 x3 x4 x5 x6 : Int} (r2 : -2147483648 ≤ x2 ∧ x2 < 2147483648) (hx3 : S0.2.1 x3 = (2, 16)) (r4 : -2147483648 ≤ x4 ∧ x4 < 2147483648) (r5 : -2147483648 ≤ x5 ∧ x5 < 2147483648) (r6 : -2147483648 ≤ x6 ∧ x6 < 2147483648) (H : (15 < x6 → (P (some (kI x5)) c)) ∧ (x6 ≤ 15 → (kC2 G S0 kM_X0_place (d + 4) [kI x6, kI x2, kA 557] c (kRN (fun c17 => kC2 G S0 kM_X8_bears (d + 4) [kA x3, kI x4, kA 557] c17 (kRI (fun z18 c19 => (k32 z18) ∧ ((z18 = 0 → (kW2 G S0 kM_X10_row (d + 5) 53 [some (kA 0), none, some (kI x2), some (kA x3), some (kI x4), some (kI x5), some (kI (x6 + 1))] [] c19 P)) ∧ (z18 ≠ 0 → (kW2 G S0 kM_X10_row (d + 5) 53 [some (kA 0), none, some (kI x2), some (kA x3), some (kI x4), some (kI (kor x5 (kshl 1 (x6 + 15)))), some (kI (x6 + 1))] [] c19 P)))))))))) : kW2 G S0 kM_X10_row (d + 5) 53 [some (kA 0), none, some (kI x2), some (kA x3), some (kI x4), some (kI x5), some (kI x6)] [] c P := by
  refine kw_iload dX10_row_53 rfl ?_
  refine kw_bipush dX10_row_55 (by decide) ?_
  refine kw_icmp_gt 101 dX10_row_57 (by decide) (k32i (by omega)) (k32i (by omega)) (fun h15 => ?_) (fun h15 => ?_)
  · have H := H.1 h15
    refine kw_iload dX10_row_101 rfl ?_
    refine k2_iret dX10_row_103 rfl H
  · have H := H.2 h15
    refine kw_iload dX10_row_60 rfl ?_
    refine kw_iload_n dX10_row_62 rfl ?_
    refine kw_aload_n dX10_row_63 rfl ?_
    refine k2_getR fd_X10_19 dX10_row_64 wf_X10_98 (lsh_0 hL) (lrf_0_19 hL) ?_
    refine k2_callS3N m_X0_place dX10_row_67 wl_X10_162 (Nat.le_of_ble_eq_true rfl) (kC2_mono H (fun r c17 H => ?_))
    obtain ⟨rfl, H⟩ := H
    refine ⟨rfl, ?_⟩
    refine kw_aload_n dX10_row_70 rfl ?_
    refine kw_iload dX10_row_71 rfl ?_
    refine kw_aload_n dX10_row_73 rfl ?_
    refine k2_getR fd_X10_19 dX10_row_74 wf_X10_98 (lsh_0 hL) (lrf_0_19 hL) ?_
    refine k2_callS3I m_X8_bears dX10_row_77 wl_X10_237 (Nat.le_of_ble_eq_true rfl) (kC2_mono H (fun r c19 H => ?_))
    obtain ⟨z18, rfl, H⟩ := H
    refine ⟨z18, rfl, ?_⟩
    have o21 := H.1
    have H := H.2
    refine kw_if_eq 95 dX10_row_80 (by decide) o21 (fun h20 => ?_) (fun h20 => ?_)
    · have H := H.1 h20
      refine kw_iinc dX10_row_95 rfl ?_
      refine kw_goto 53 dX10_row_98 (by decide) ?_
      exact kw_forget (ls' := [some (kA 0), none, some (kI x2), some (kA x3), some (kI x4), some (kI x5), some (kI (x6 + 1))]) ⟨Or.inr rfl, ⟨Or.inr rfl, ⟨Or.inr rfl, ⟨Or.inr rfl, ⟨Or.inr rfl, ⟨Or.inr rfl, ⟨Or.inr rfl, trivial⟩⟩⟩⟩⟩⟩⟩ H
    · have H := H.2 h20
      refine kw_iload dX10_row_83 rfl ?_
      refine kw_iconst dX10_row_85 ?_
      refine kw_iload dX10_row_86 rfl ?_
      refine kw_bipush dX10_row_88 (by decide) ?_
      refine kw_iadd dX10_row_90 ?_
      refine kw_ishl dX10_row_91 ?_
      refine kw_ior dX10_row_92 ?_
      refine kw_istore dX10_row_93 (Nat.le_of_ble_eq_true rfl) ?_
      refine kw_iinc dX10_row_95 rfl ?_
      refine kw_goto 53 dX10_row_98 (by decide) ?_
      exact kw_forget (ls' := [some (kA 0), none, some (kI x2), some (kA x3), some (kI x4), some (kI (kor x5 (kshl 1 (x6 + 15)))), some (kI (x6 + 1))]) ⟨Or.inr rfl, ⟨Or.inr rfl, ⟨Or.inr rfl, ⟨Or.inr rfl, ⟨Or.inr rfl, ⟨Or.inr rfl, ⟨Or.inr rfl, trivial⟩⟩⟩⟩⟩⟩⟩ H
set_option maxRecDepth 4000 in
theorem v_X10_whole {G : KG} {S0 : KSh} (hL : kLay S0) {d : Nat} {P : Option AV → KMem → Prop} {c : KMem} {x1 : Int} (r1 : -2147483648 ≤ x1 ∧ x1 < 2147483648) (H : (kStT c 3) ∧ (((kHs c 3 x1) → (kC2 G S0 kM_X10_kindAt (d + 5) [kA 0, kI x1] c (kRI (fun z4 c5 => (k32 z4) ∧ (((kObj z4) → ((0 ≤ x1 ∧ x1 < 12) ∧ (kC2 G S0 kM_X8_vectorOf (d + 5) [kA (3 + 2 + x1), kA 555] c5 (kRN (fun c11 => kW2 G S0 kM_X10_whole (d + 6) 47 [some (kA 0), none, some (kI 0), some (kI (-99)), none] [] c11 P))))) ∧ (¬ (kObj z4) → (P (some (kI (-3))) c5))))))) ∧ (¬ (kHs c 3 x1) → (P (some (kI (-1))) c)))) : kC2 G S0 kM_X10_whole (d + 6) [kA 0, kI x1] c P := by
  refine k2_met (by decide) rfl (Nat.le_of_ble_eq_true rfl) (l0 := [some (kA 0), some (kI x1), none, none, none]) rfl ?_
  refine kw_aload_n dX10_whole_0 rfl ?_
  refine k2_getR fd_X10_5 dX10_whole_1 wf_X10_29 (lsh_0 hL) (lrf_0_5 hL) ?_
  refine kw_iload_n dX10_whole_4 rfl ?_
  have o1 := H.1
  have H := H.2
  refine k2_callV1I (ci := 0) (N := 2) (T := TX1) rfl (llt_3 hL).1 m_X1_has dX10_whole_5 wl_X10_138 (Nat.le_of_ble_eq_true rfl) (s_X1_has hL (llt_3 hL) o1 (k32i (by omega)) (fun h2 => ⟨_, rfl, ?_⟩) (fun h2 => ⟨_, rfl, ?_⟩))
  · have H := H.1 h2
    refine kw_if_ne 13 dX10_whole_8 (by decide) (k32i (by omega)) (fun _ => ?_) (fun h3 => absurd h3 (by decide))
    refine kw_aload_n dX10_whole_13 rfl ?_
    refine kw_iload_n dX10_whole_14 rfl ?_
    refine k2_callV1I (ci := 8) (N := 20) (T := TX10) rfl (lsh_0 hL) m_X10_kindAt dX10_whole_15 wl_X10_180 (Nat.le_of_ble_eq_true rfl) (kC2_mono H (fun r c5 H => ?_))
    obtain ⟨z4, rfl, H⟩ := H
    refine ⟨z4, rfl, ?_⟩
    have o6 := H.1
    have H := H.2
    refine k2_callS1I m_X8_isObject dX10_whole_18 wl_X10_189 (Nat.le_of_ble_eq_true rfl) (s_X8_isObject hL o6 (fun h7 => ⟨_, rfl, ?_⟩) (fun h7 => ⟨_, rfl, ?_⟩))
    · have H := H.1 h7
      refine kw_if_ne 27 dX10_whole_21 (by decide) (k32i (by omega)) (fun _ => ?_) (fun h8 => absurd h8 (by decide))
      refine kw_aload_n dX10_whole_27 rfl ?_
      refine k2_getR fd_X10_5 dX10_whole_28 wf_X10_29 (lsh_0 hL) (lrf_0_5 hL) ?_
      refine kw_iload_n dX10_whole_31 rfl ?_
      have o9 := H.1
      have H := H.2
      refine k2_callV1A (ci := 0) (N := 2) (T := TX1) rfl (llt_3 hL).1 m_X1_form dX10_whole_32 wl_X10_142 (Nat.le_of_ble_eq_true rfl) (s_X1_form hL (llt_3 hL) (by omega) o9 ⟨_, rfl, ?_⟩)
      refine kw_aload_n dX10_whole_35 rfl ?_
      refine k2_getR fd_X10_17 dX10_whole_36 wf_X10_91 (lsh_0 hL) (lrf_0_17 hL) ?_
      refine k2_callS2N m_X8_vectorOf dX10_whole_39 wl_X10_215 (Nat.le_of_ble_eq_true rfl) (kC2_mono H (fun r c11 H => ?_))
      obtain ⟨rfl, H⟩ := H
      refine ⟨rfl, ?_⟩
      refine kw_iconst dX10_whole_42 ?_
      refine kw_istore_n dX10_whole_43 (Nat.le_of_ble_eq_true rfl) ?_
      refine kw_bipush dX10_whole_44 (by decide) ?_
      refine kw_istore_n dX10_whole_46 (Nat.le_of_ble_eq_true rfl) ?_
      exact kw_forget (ls' := [some (kA 0), none, some (kI 0), some (kI (-99)), none]) ⟨Or.inr rfl, ⟨Or.inl rfl, ⟨Or.inr rfl, ⟨Or.inr rfl, ⟨Or.inr rfl, trivial⟩⟩⟩⟩⟩ H
    · have H := H.2 h7
      refine kw_if_ne 27 dX10_whole_21 (by decide) (k32i (by omega)) (fun h12 => absurd h12 (by decide)) (fun _ => ?_)
      refine kw_bipush dX10_whole_24 (by decide) ?_
      refine k2_iret dX10_whole_26 rfl H
  · have H := H.2 h2
    refine kw_if_ne 13 dX10_whole_8 (by decide) (k32i (by omega)) (fun h13 => absurd h13 (by decide)) (fun _ => ?_)
    refine kw_iconst dX10_whole_11 ?_
    refine k2_iret dX10_whole_12 rfl H
set_option maxRecDepth 4000 in
theorem v_X10_whole_47 {G : KG} {S0 : KSh} (hL : kLay S0) {d : Nat} {P : Option AV → KMem → Prop} {c : KMem} {x2 x3 : Int} (r2 : 0 ≤ x2 ∧ x2 < 2147483648) (r3 : -2147483648 ≤ x3 ∧ x3 < 2147483648) (H : (99 < x3 → (P (some (kI x2)) c)) ∧ (x3 ≤ 99 → (kW2 G S0 kM_X10_whole (d + 6) 57 [some (kA 0), none, some (kI x2), some (kI x3), some (kI (-99))] [] c P))) : kW2 G S0 kM_X10_whole (d + 6) 47 [some (kA 0), none, some (kI x2), some (kI x3), none] [] c P := by
  refine kw_iload_n dX10_whole_47 rfl ?_
  refine kw_bipush dX10_whole_48 (by decide) ?_
  refine kw_icmp_gt 94 dX10_whole_50 (by decide) (k32i (by omega)) (k32i (by omega)) (fun h14 => ?_) (fun h14 => ?_)
  · have H := H.1 h14
    refine kw_iload_n dX10_whole_94 rfl ?_
    refine k2_iret dX10_whole_95 rfl H
  · have H := H.2 h14
    refine kw_bipush dX10_whole_53 (by decide) ?_
    refine kw_istore dX10_whole_55 (Nat.le_of_ble_eq_true rfl) ?_
    exact kw_forget (ls' := [some (kA 0), none, some (kI x2), some (kI x3), some (kI (-99))]) ⟨Or.inr rfl, ⟨Or.inr rfl, ⟨Or.inr rfl, ⟨Or.inr rfl, ⟨Or.inr rfl, trivial⟩⟩⟩⟩⟩ H
set_option maxRecDepth 4000 in
theorem v_X10_whole_57 {G : KG} {S0 : KSh} (hL : kLay S0) {d : Nat} {P : Option AV → KMem → Prop} {c : KMem} {x2 x3 x4 : Int} (r2 : 0 ≤ x2 ∧ x2 < 2147483648) (r3 : -2147483648 ≤ x3 ∧ x3 < 2147483648) (r4 : -2147483648 ≤ x4 ∧ x4 < 2147483648) (H : (99 < x4 → (kW2 G S0 kM_X10_whole (d + 6) 47 [some (kA 0), none, some (kI x2), some (kI (x3 + 1)), none] [] c P)) ∧ (x4 ≤ 99 → (kC2 G S0 kM_X8_placeInner (d + 5) [kI x4, kI x3, kA 555] c (kRL (fun z16 c17 => (k64 z16) ∧ ((z16 ≠ 0 → (kW2 G S0 kM_X10_whole (d + 6) 57 [some (kA 0), none, some (kI x2), some (kI x3), some (kI (x4 + 1))] [] c17 P)) ∧ (z16 = 0 → (kW2 G S0 kM_X10_whole (d + 6) 57 [some (kA 0), none, some (kI (x2 + 1)), some (kI x3), some (kI (x4 + 1))] [] c17 P)))))))) : kW2 G S0 kM_X10_whole (d + 6) 57 [some (kA 0), none, some (kI x2), some (kI x3), some (kI x4)] [] c P := by
  refine kw_iload dX10_whole_57 rfl ?_
  refine kw_bipush dX10_whole_59 (by decide) ?_
  refine kw_icmp_gt 88 dX10_whole_61 (by decide) (k32i (by omega)) (k32i (by omega)) (fun h15 => ?_) (fun h15 => ?_)
  · have H := H.1 h15
    refine kw_iinc dX10_whole_88 rfl ?_
    refine kw_goto 47 dX10_whole_91 (by decide) ?_
    exact kw_forget (ls' := [some (kA 0), none, some (kI x2), some (kI (x3 + 1)), none]) ⟨Or.inr rfl, ⟨Or.inr rfl, ⟨Or.inr rfl, ⟨Or.inr rfl, ⟨Or.inl rfl, trivial⟩⟩⟩⟩⟩ H
  · have H := H.2 h15
    refine kw_iload dX10_whole_64 rfl ?_
    refine kw_iload_n dX10_whole_66 rfl ?_
    refine kw_aload_n dX10_whole_67 rfl ?_
    refine k2_getR fd_X10_17 dX10_whole_68 wf_X10_91 (lsh_0 hL) (lrf_0_17 hL) ?_
    refine k2_callS3L m_X8_placeInner dX10_whole_71 wl_X10_241 (Nat.le_of_ble_eq_true rfl) (kC2_mono H (fun r c17 H => ?_))
    obtain ⟨z16, rfl, H⟩ := H
    refine ⟨z16, rfl, ?_⟩
    refine kw_lconst0 dX10_whole_74 ?_
    have o18 := H.1
    have H := H.2
    refine kw_lcmp_ne 82 dX10_whole_75 dX10_whole_76 (by decide) o18 (k64i (by omega)) (fun h19 => ?_) (fun h19 => ?_)
    · have H := H.1 h19
      refine kw_iinc dX10_whole_82 rfl ?_
      refine kw_goto 57 dX10_whole_85 (by decide) ?_
      exact kw_forget (ls' := [some (kA 0), none, some (kI x2), some (kI x3), some (kI (x4 + 1))]) ⟨Or.inr rfl, ⟨Or.inr rfl, ⟨Or.inr rfl, ⟨Or.inr rfl, ⟨Or.inr rfl, trivial⟩⟩⟩⟩⟩ H
    · have H := H.2 h19
      refine kw_iinc dX10_whole_79 rfl ?_
      refine kw_iinc dX10_whole_82 rfl ?_
      refine kw_goto 57 dX10_whole_85 (by decide) ?_
      exact kw_forget (ls' := [some (kA 0), none, some (kI (x2 + 1)), some (kI x3), some (kI (x4 + 1))]) ⟨Or.inr rfl, ⟨Or.inr rfl, ⟨Or.inr rfl, ⟨Or.inr rfl, ⟨Or.inr rfl, trivial⟩⟩⟩⟩⟩ H
set_option maxRecDepth 4000 in
theorem v_X10_middle {G : KG} {S0 : KSh} (hL : kLay S0) {d : Nat} {P : Option AV → KMem → Prop} {c : KMem} {x1 x2 : Int} (r1 : -2147483648 ≤ x1 ∧ x1 < 2147483648) (r2 : -2147483648 ≤ x2 ∧ x2 < 2147483648) (H : (kStT c 3) ∧ (((kHs c 3 x1) → ((x2 < 0 → (P (some (kL (-2000000000000000000))) c)) ∧ (0 ≤ x2 → ((x2 ≤ 4 → (kC2 G S0 kM_X10_kindAt (d + 5) [kA 0, kI x1] c (kRI (fun z6 c7 => (k32 z6) ∧ (((kMid z6) → ((0 ≤ x1 ∧ x1 < 12) ∧ (kC2 G S0 kM_X8_vectorOf (d + 5) [kA (3 + 2 + x1), kA 555] c7 (kRN (fun c13 => kC2 G S0 kM_X9_take (d + 5) [kA 553, kA 555] c13 (kRN (fun c15 => kC2 G S0 kM_X9_number (d + 5) [kA 553, kI x2] c15 (kRL (fun z16 c17 => P (some (kL z16)) c17))))))))) ∧ (¬ (kMid z6) → (P (some (kL (-3000000000000000000))) c7))))))) ∧ (4 < x2 → (P (some (kL (-2000000000000000000))) c)))))) ∧ (¬ (kHs c 3 x1) → (P (some (kL (-2000000000000000000))) c)))) : kC2 G S0 kM_X10_middle (d + 6) [kA 0, kI x1, kI x2] c P := by
  refine k2_met (by decide) rfl (Nat.le_of_ble_eq_true rfl) (l0 := [some (kA 0), some (kI x1), some (kI x2)]) rfl ?_
  refine kw_aload_n dX10_middle_0 rfl ?_
  refine k2_getR fd_X10_5 dX10_middle_1 wf_X10_29 (lsh_0 hL) (lrf_0_5 hL) ?_
  refine kw_iload_n dX10_middle_4 rfl ?_
  have o1 := H.1
  have H := H.2
  refine k2_callV1I (ci := 0) (N := 2) (T := TX1) rfl (llt_3 hL).1 m_X1_has dX10_middle_5 wl_X10_138 (Nat.le_of_ble_eq_true rfl) (s_X1_has hL (llt_3 hL) o1 (k32i (by omega)) (fun h2 => ⟨_, rfl, ?_⟩) (fun h2 => ⟨_, rfl, ?_⟩))
  · have H := H.1 h2
    refine kw_if_eq 20 dX10_middle_8 (by decide) (k32i (by omega)) (fun h3 => absurd h3 (by decide)) (fun _ => ?_)
    refine kw_iload_n dX10_middle_11 rfl ?_
    refine kw_if_lt 20 dX10_middle_12 (by decide) (k32i (by omega)) (fun h4 => ?_) (fun h4 => ?_)
    · have H := H.1 h4
      refine kw_ldc2 dX10_middle_20 wk_X10_208 ?_
      refine k2_lret dX10_middle_23 rfl H
    · have H := H.2 h4
      refine kw_iload_n dX10_middle_15 rfl ?_
      refine kw_iconst dX10_middle_16 ?_
      refine kw_icmp_le 24 dX10_middle_17 (by decide) (k32i (by omega)) (k32i (by omega)) (fun h5 => ?_) (fun h5 => ?_)
      · have H := H.1 h5
        refine kw_aload_n dX10_middle_24 rfl ?_
        refine kw_iload_n dX10_middle_25 rfl ?_
        refine k2_callV1I (ci := 8) (N := 20) (T := TX10) rfl (lsh_0 hL) m_X10_kindAt dX10_middle_26 wl_X10_180 (Nat.le_of_ble_eq_true rfl) (kC2_mono H (fun r c7 H => ?_))
        obtain ⟨z6, rfl, H⟩ := H
        refine ⟨z6, rfl, ?_⟩
        have o8 := H.1
        have H := H.2
        refine k2_callS1I m_X8_hasMiddle dX10_middle_29 wl_X10_210 (Nat.le_of_ble_eq_true rfl) (s_X8_hasMiddle hL o8 (fun h9 => ⟨_, rfl, ?_⟩) (fun h9 => ⟨_, rfl, ?_⟩))
        · have H := H.1 h9
          refine kw_if_ne 39 dX10_middle_32 (by decide) (k32i (by omega)) (fun _ => ?_) (fun h10 => absurd h10 (by decide))
          refine kw_aload_n dX10_middle_39 rfl ?_
          refine k2_getR fd_X10_5 dX10_middle_40 wf_X10_29 (lsh_0 hL) (lrf_0_5 hL) ?_
          refine kw_iload_n dX10_middle_43 rfl ?_
          have o11 := H.1
          have H := H.2
          refine k2_callV1A (ci := 0) (N := 2) (T := TX1) rfl (llt_3 hL).1 m_X1_form dX10_middle_44 wl_X10_142 (Nat.le_of_ble_eq_true rfl) (s_X1_form hL (llt_3 hL) (by omega) o11 ⟨_, rfl, ?_⟩)
          refine kw_aload_n dX10_middle_47 rfl ?_
          refine k2_getR fd_X10_17 dX10_middle_48 wf_X10_91 (lsh_0 hL) (lrf_0_17 hL) ?_
          refine k2_callS2N m_X8_vectorOf dX10_middle_51 wl_X10_215 (Nat.le_of_ble_eq_true rfl) (kC2_mono H (fun r c13 H => ?_))
          obtain ⟨rfl, H⟩ := H
          refine ⟨rfl, ?_⟩
          refine kw_aload_n dX10_middle_54 rfl ?_
          refine k2_getR fd_X10_15 dX10_middle_55 wf_X10_84 (lsh_0 hL) (lrf_0_15 hL) ?_
          refine kw_aload_n dX10_middle_58 rfl ?_
          refine k2_getR fd_X10_17 dX10_middle_59 wf_X10_91 (lsh_0 hL) (lrf_0_17 hL) ?_
          refine k2_callV1N (ci := 7) (N := 5) (T := TX9) rfl (lsh_553 hL) m_X9_take dX10_middle_62 wl_X10_219 (Nat.le_of_ble_eq_true rfl) (kC2_mono H (fun r c15 H => ?_))
          obtain ⟨rfl, H⟩ := H
          refine ⟨rfl, ?_⟩
          refine kw_aload_n dX10_middle_65 rfl ?_
          refine k2_getR fd_X10_15 dX10_middle_66 wf_X10_84 (lsh_0 hL) (lrf_0_15 hL) ?_
          refine kw_iload_n dX10_middle_69 rfl ?_
          refine k2_callV1L (ci := 7) (N := 5) (T := TX9) rfl (lsh_553 hL) m_X9_number dX10_middle_70 wl_X10_223 (Nat.le_of_ble_eq_true rfl) (kC2_mono H (fun r c17 H => ?_))
          obtain ⟨z16, rfl, H⟩ := H
          refine ⟨z16, rfl, ?_⟩
          refine k2_lret dX10_middle_73 rfl H
        · have H := H.2 h9
          refine kw_if_ne 39 dX10_middle_32 (by decide) (k32i (by omega)) (fun h18 => absurd h18 (by decide)) (fun _ => ?_)
          refine kw_ldc2 dX10_middle_35 wk_X10_213 ?_
          refine k2_lret dX10_middle_38 rfl H
      · have H := H.2 h5
        refine kw_ldc2 dX10_middle_20 wk_X10_208 ?_
        refine k2_lret dX10_middle_23 rfl H
  · have H := H.2 h2
    refine kw_if_eq 20 dX10_middle_8 (by decide) (k32i (by omega)) (fun _ => ?_) (fun h19 => absurd h19 (by decide))
    refine kw_ldc2 dX10_middle_20 wk_X10_208 ?_
    refine k2_lret dX10_middle_23 rfl H
set_option maxRecDepth 4000 in
theorem v_X10_line {G : KG} {S0 : KSh} (hL : kLay S0) {d : Nat} {P : Option AV → KMem → Prop} {c : KMem} {x1 x2 : Int} (r1 : -2147483648 ≤ x1 ∧ x1 < 2147483648) (r2 : -2147483648 ≤ x2 ∧ x2 < 2147483648) (H : (kStT c 3) ∧ (((kHs c 3 x1) → ((x2 < 0 → (P (some (kI (-1000000000))) c)) ∧ (0 ≤ x2 → ((x2 ≤ 2 → (kC2 G S0 kM_X10_kindAt (d + 5) [kA 0, kI x1] c (kRI (fun z6 c7 => (k32 z6) ∧ ((k32 (Int.tmod z6 10)) ∧ (((Int.tmod z6 10) = 6 → ((0 ≤ x1 ∧ x1 < 12) ∧ (kC2 G S0 kM_X8_vectorOf (d + 5) [kA (3 + 2 + x1), kA 555] c7 (kRN (fun c13 => kC2 G S0 kM_X8_lineNumber (d + 5) [kA 555, kI x2] c13 (kRL (fun z14 c15 => P (some (kI z14)) c15))))))) ∧ ((Int.tmod z6 10) ≠ 6 → (P (some (kI (-1000000000))) c7)))))))) ∧ (2 < x2 → (P (some (kI (-1000000000))) c)))))) ∧ (¬ (kHs c 3 x1) → (P (some (kI (-1000000000))) c)))) : kC2 G S0 kM_X10_line (d + 6) [kA 0, kI x1, kI x2] c P := by
  refine k2_met (by decide) rfl (Nat.le_of_ble_eq_true rfl) (l0 := [some (kA 0), some (kI x1), some (kI x2)]) rfl ?_
  refine kw_aload_n dX10_line_0 rfl ?_
  refine k2_getR fd_X10_5 dX10_line_1 wf_X10_29 (lsh_0 hL) (lrf_0_5 hL) ?_
  refine kw_iload_n dX10_line_4 rfl ?_
  have o1 := H.1
  have H := H.2
  refine k2_callV1I (ci := 0) (N := 2) (T := TX1) rfl (llt_3 hL).1 m_X1_has dX10_line_5 wl_X10_138 (Nat.le_of_ble_eq_true rfl) (s_X1_has hL (llt_3 hL) o1 (k32i (by omega)) (fun h2 => ⟨_, rfl, ?_⟩) (fun h2 => ⟨_, rfl, ?_⟩))
  · have H := H.1 h2
    refine kw_if_eq 20 dX10_line_8 (by decide) (k32i (by omega)) (fun h3 => absurd h3 (by decide)) (fun _ => ?_)
    refine kw_iload_n dX10_line_11 rfl ?_
    refine kw_if_lt 20 dX10_line_12 (by decide) (k32i (by omega)) (fun h4 => ?_) (fun h4 => ?_)
    · have H := H.1 h4
      refine kw_ldc dX10_line_20 wk_X10_184 ?_
      refine k2_iret dX10_line_22 rfl H
    · have H := H.2 h4
      refine kw_iload_n dX10_line_15 rfl ?_
      refine kw_iconst dX10_line_16 ?_
      refine kw_icmp_le 23 dX10_line_17 (by decide) (k32i (by omega)) (k32i (by omega)) (fun h5 => ?_) (fun h5 => ?_)
      · have H := H.1 h5
        refine kw_aload_n dX10_line_23 rfl ?_
        refine kw_iload_n dX10_line_24 rfl ?_
        refine k2_callV1I (ci := 8) (N := 20) (T := TX10) rfl (lsh_0 hL) m_X10_kindAt dX10_line_25 wl_X10_180 (Nat.le_of_ble_eq_true rfl) (kC2_mono H (fun r c7 H => ?_))
        obtain ⟨z6, rfl, H⟩ := H
        refine ⟨z6, rfl, ?_⟩
        refine kw_bipush dX10_line_28 (by decide) ?_
        have o8 := H.1
        have H := H.2
        refine kw_irem dX10_line_30 o8 (k32i (by omega)) (by decide) ?_
        refine kw_bipush dX10_line_31 (by decide) ?_
        have o10 := H.1
        have H := H.2
        refine kw_icmp_eq 39 dX10_line_33 (by decide) o10 (k32i (by omega)) (fun h9 => ?_) (fun h9 => ?_)
        · have H := H.1 h9
          refine kw_aload_n dX10_line_39 rfl ?_
          refine k2_getR fd_X10_5 dX10_line_40 wf_X10_29 (lsh_0 hL) (lrf_0_5 hL) ?_
          refine kw_iload_n dX10_line_43 rfl ?_
          have o11 := H.1
          have H := H.2
          refine k2_callV1A (ci := 0) (N := 2) (T := TX1) rfl (llt_3 hL).1 m_X1_form dX10_line_44 wl_X10_142 (Nat.le_of_ble_eq_true rfl) (s_X1_form hL (llt_3 hL) (by omega) o11 ⟨_, rfl, ?_⟩)
          refine kw_aload_n dX10_line_47 rfl ?_
          refine k2_getR fd_X10_17 dX10_line_48 wf_X10_91 (lsh_0 hL) (lrf_0_17 hL) ?_
          refine k2_callS2N m_X8_vectorOf dX10_line_51 wl_X10_215 (Nat.le_of_ble_eq_true rfl) (kC2_mono H (fun r c13 H => ?_))
          obtain ⟨rfl, H⟩ := H
          refine ⟨rfl, ?_⟩
          refine kw_aload_n dX10_line_54 rfl ?_
          refine k2_getR fd_X10_17 dX10_line_55 wf_X10_91 (lsh_0 hL) (lrf_0_17 hL) ?_
          refine kw_iload_n dX10_line_58 rfl ?_
          refine k2_callS2L m_X8_lineNumber dX10_line_59 wl_X10_227 (Nat.le_of_ble_eq_true rfl) (kC2_mono H (fun r c15 H => ?_))
          obtain ⟨z14, rfl, H⟩ := H
          refine ⟨z14, rfl, ?_⟩
          refine kw_l2i dX10_line_62 ?_
          refine k2_iret dX10_line_63 rfl H
        · have H := H.2 h9
          refine kw_ldc dX10_line_36 wk_X10_184 ?_
          refine k2_iret dX10_line_38 rfl H
      · have H := H.2 h5
        refine kw_ldc dX10_line_20 wk_X10_184 ?_
        refine k2_iret dX10_line_22 rfl H
  · have H := H.2 h2
    refine kw_if_eq 20 dX10_line_8 (by decide) (k32i (by omega)) (fun _ => ?_) (fun h16 => absurd h16 (by decide))
    refine kw_ldc dX10_line_20 wk_X10_184 ?_
    refine k2_iret dX10_line_22 rfl H
set_option maxRecDepth 4000 in
theorem v_X10_product {G : KG} {S0 : KSh} (hL : kLay S0) {d : Nat} {P : Option AV → KMem → Prop} {c : KMem} {x1 x2 x3 x4 : Int} (r1 : -2147483648 ≤ x1 ∧ x1 < 2147483648) (r2 : -2147483648 ≤ x2 ∧ x2 < 2147483648) (r3 : -2147483648 ≤ x3 ∧ x3 < 2147483648) (r4 : -2147483648 ≤ x4 ∧ x4 < 2147483648) (H : (kStT c 3) ∧ (((kHs c 3 x2) → (((kHs c 3 x3) → ((x1 < 0 → (P (some (kL (-2000000000000000000))) c)) ∧ (0 ≤ x1 → ((3 < x1 → (P (some (kL (-2000000000000000000))) c)) ∧ (x1 ≤ 3 → ((x4 < 0 → (P (some (kL (-2000000000000000000))) c)) ∧ (0 ≤ x4 → ((x4 < 16 → ((3 ≤ x1 → ((0 ≤ x2 ∧ x2 < 12) ∧ (kC2 G S0 kM_X0_dual (d + 1) [kA (3 + 2 + x2), kA 555] c (kRN (fun c13 => (0 ≤ x3 ∧ x3 < 12) ∧ (kC2 G S0 kM_X0_dual (d + 1) [kA (3 + 2 + x3), kA 556] c13 (kRN (fun c16 => kC2 G S0 kM_X0_multiply (d + 1) [kI 1, kA 555, kA 556, kA 557] c16 (kRN (fun c18 => kC2 G S0 kM_X0_timesWholeUnit (d + 1) [kA 557, kI x4] c18 (kRL (fun z19 c20 => P (some (kL z19)) c20)))))))))))) ∧ (x1 < 3 → ((0 ≤ x2 ∧ x2 < 12) ∧ ((0 ≤ x3 ∧ x3 < 12) ∧ (kC2 G S0 kM_X0_partOf (d + 1) [kI x1, kA (3 + 2 + x2), kA (3 + 2 + x3), kI x4] c (kRL (fun z23 c24 => P (some (kL z23)) c24)))))))) ∧ (16 ≤ x4 → (P (some (kL (-2000000000000000000))) c)))))))))) ∧ (¬ (kHs c 3 x3) → (P (some (kL (-2000000000000000000))) c)))) ∧ (¬ (kHs c 3 x2) → (P (some (kL (-2000000000000000000))) c)))) : kC2 G S0 kM_X10_product (d + 2) [kA 0, kI x1, kI x2, kI x3, kI x4] c P := by
  refine k2_met (by decide) rfl (Nat.le_of_ble_eq_true rfl) (l0 := [some (kA 0), some (kI x1), some (kI x2), some (kI x3), some (kI x4)]) rfl ?_
  refine kw_aload_n dX10_product_0 rfl ?_
  refine k2_getR fd_X10_5 dX10_product_1 wf_X10_29 (lsh_0 hL) (lrf_0_5 hL) ?_
  refine kw_iload_n dX10_product_4 rfl ?_
  have o1 := H.1
  have H := H.2
  refine k2_callV1I (ci := 0) (N := 2) (T := TX1) rfl (llt_3 hL).1 m_X1_has dX10_product_5 wl_X10_138 (Nat.le_of_ble_eq_true rfl) (s_X1_has hL (llt_3 hL) o1 (k32i (by omega)) (fun h2 => ⟨_, rfl, ?_⟩) (fun h2 => ⟨_, rfl, ?_⟩))
  · have H := H.1 h2
    refine kw_if_eq 22 dX10_product_8 (by decide) (k32i (by omega)) (fun h3 => absurd h3 (by decide)) (fun _ => ?_)
    refine kw_aload_n dX10_product_11 rfl ?_
    refine k2_getR fd_X10_5 dX10_product_12 wf_X10_29 (lsh_0 hL) (lrf_0_5 hL) ?_
    refine kw_iload_n dX10_product_15 rfl ?_
    refine k2_callV1I (ci := 0) (N := 2) (T := TX1) rfl (llt_3 hL).1 m_X1_has dX10_product_16 wl_X10_138 (Nat.le_of_ble_eq_true rfl) (s_X1_has hL (llt_3 hL) o1 (k32i (by omega)) (fun h4 => ⟨_, rfl, ?_⟩) (fun h4 => ⟨_, rfl, ?_⟩))
    · have H := H.1 h4
      refine kw_if_ne 26 dX10_product_19 (by decide) (k32i (by omega)) (fun _ => ?_) (fun h5 => absurd h5 (by decide))
      refine kw_iload_n dX10_product_26 rfl ?_
      refine kw_if_lt 47 dX10_product_27 (by decide) (k32i (by omega)) (fun h6 => ?_) (fun h6 => ?_)
      · have H := H.1 h6
        refine kw_ldc2 dX10_product_47 wk_X10_208 ?_
        refine k2_lret dX10_product_50 rfl H
      · have H := H.2 h6
        refine kw_iload_n dX10_product_30 rfl ?_
        refine kw_iconst dX10_product_31 ?_
        refine kw_icmp_gt 47 dX10_product_32 (by decide) (k32i (by omega)) (k32i (by omega)) (fun h7 => ?_) (fun h7 => ?_)
        · have H := H.1 h7
          refine kw_ldc2 dX10_product_47 wk_X10_208 ?_
          refine k2_lret dX10_product_50 rfl H
        · have H := H.2 h7
          refine kw_iload dX10_product_35 rfl ?_
          refine kw_if_lt 47 dX10_product_37 (by decide) (k32i (by omega)) (fun h8 => ?_) (fun h8 => ?_)
          · have H := H.1 h8
            refine kw_ldc2 dX10_product_47 wk_X10_208 ?_
            refine k2_lret dX10_product_50 rfl H
          · have H := H.2 h8
            refine kw_iload dX10_product_40 rfl ?_
            refine kw_bipush dX10_product_42 (by decide) ?_
            refine kw_icmp_lt 51 dX10_product_44 (by decide) (k32i (by omega)) (k32i (by omega)) (fun h9 => ?_) (fun h9 => ?_)
            · have H := H.1 h9
              refine kw_iload_n dX10_product_51 rfl ?_
              refine kw_iconst dX10_product_52 ?_
              refine kw_icmp_ge 79 dX10_product_53 (by decide) (k32i (by omega)) (k32i (by omega)) (fun h10 => ?_) (fun h10 => ?_)
              · have H := H.1 h10
                refine kw_aload_n dX10_product_79 rfl ?_
                refine k2_getR fd_X10_5 dX10_product_80 wf_X10_29 (lsh_0 hL) (lrf_0_5 hL) ?_
                refine kw_iload_n dX10_product_83 rfl ?_
                have o11 := H.1
                have H := H.2
                refine k2_callV1A (ci := 0) (N := 2) (T := TX1) rfl (llt_3 hL).1 m_X1_form dX10_product_84 wl_X10_142 (Nat.le_of_ble_eq_true rfl) (s_X1_form hL (llt_3 hL) (by omega) o11 ⟨_, rfl, ?_⟩)
                refine kw_aload_n dX10_product_87 rfl ?_
                refine k2_getR fd_X10_17 dX10_product_88 wf_X10_91 (lsh_0 hL) (lrf_0_17 hL) ?_
                refine k2_callS2N m_X0_dual dX10_product_91 wl_X10_286 (Nat.le_of_ble_eq_true rfl) (kC2_mono H (fun r c13 H => ?_))
                obtain ⟨rfl, H⟩ := H
                refine ⟨rfl, ?_⟩
                refine kw_aload_n dX10_product_94 rfl ?_
                refine k2_getR fd_X10_5 dX10_product_95 wf_X10_29 (lsh_0 hL) (lrf_0_5 hL) ?_
                refine kw_iload_n dX10_product_98 rfl ?_
                have o14 := H.1
                have H := H.2
                refine k2_callV1A (ci := 0) (N := 2) (T := TX1) rfl (llt_3 hL).1 m_X1_form dX10_product_99 wl_X10_142 (Nat.le_of_ble_eq_true rfl) (s_X1_form hL (llt_3 hL) (by omega) o14 ⟨_, rfl, ?_⟩)
                refine kw_aload_n dX10_product_102 rfl ?_
                refine k2_getR fd_X10_18 dX10_product_103 wf_X10_95 (lsh_0 hL) (lrf_0_18 hL) ?_
                refine k2_callS2N m_X0_dual dX10_product_106 wl_X10_286 (Nat.le_of_ble_eq_true rfl) (kC2_mono H (fun r c16 H => ?_))
                obtain ⟨rfl, H⟩ := H
                refine ⟨rfl, ?_⟩
                refine kw_iconst dX10_product_109 ?_
                refine kw_aload_n dX10_product_110 rfl ?_
                refine k2_getR fd_X10_17 dX10_product_111 wf_X10_91 (lsh_0 hL) (lrf_0_17 hL) ?_
                refine kw_aload_n dX10_product_114 rfl ?_
                refine k2_getR fd_X10_18 dX10_product_115 wf_X10_95 (lsh_0 hL) (lrf_0_18 hL) ?_
                refine kw_aload_n dX10_product_118 rfl ?_
                refine k2_getR fd_X10_19 dX10_product_119 wf_X10_98 (lsh_0 hL) (lrf_0_19 hL) ?_
                refine k2_callS4N m_X0_multiply dX10_product_122 wl_X10_289 (Nat.le_of_ble_eq_true rfl) (kC2_mono H (fun r c18 H => ?_))
                obtain ⟨rfl, H⟩ := H
                refine ⟨rfl, ?_⟩
                refine kw_aload_n dX10_product_125 rfl ?_
                refine k2_getR fd_X10_19 dX10_product_126 wf_X10_98 (lsh_0 hL) (lrf_0_19 hL) ?_
                refine kw_iload dX10_product_129 rfl ?_
                refine k2_callS2L m_X0_timesWholeUnit dX10_product_131 wl_X10_293 (Nat.le_of_ble_eq_true rfl) (kC2_mono H (fun r c20 H => ?_))
                obtain ⟨z19, rfl, H⟩ := H
                refine ⟨z19, rfl, ?_⟩
                refine k2_lret dX10_product_134 rfl H
              · have H := H.2 h10
                refine kw_iload_n dX10_product_56 rfl ?_
                refine kw_aload_n dX10_product_57 rfl ?_
                refine k2_getR fd_X10_5 dX10_product_58 wf_X10_29 (lsh_0 hL) (lrf_0_5 hL) ?_
                refine kw_iload_n dX10_product_61 rfl ?_
                have o21 := H.1
                have H := H.2
                refine k2_callV1A (ci := 0) (N := 2) (T := TX1) rfl (llt_3 hL).1 m_X1_form dX10_product_62 wl_X10_142 (Nat.le_of_ble_eq_true rfl) (s_X1_form hL (llt_3 hL) (by omega) o21 ⟨_, rfl, ?_⟩)
                refine kw_aload_n dX10_product_65 rfl ?_
                refine k2_getR fd_X10_5 dX10_product_66 wf_X10_29 (lsh_0 hL) (lrf_0_5 hL) ?_
                refine kw_iload_n dX10_product_69 rfl ?_
                have o22 := H.1
                have H := H.2
                refine k2_callV1A (ci := 0) (N := 2) (T := TX1) rfl (llt_3 hL).1 m_X1_form dX10_product_70 wl_X10_142 (Nat.le_of_ble_eq_true rfl) (s_X1_form hL (llt_3 hL) (by omega) o22 ⟨_, rfl, ?_⟩)
                refine kw_iload dX10_product_73 rfl ?_
                refine k2_callS4L m_X0_partOf dX10_product_75 wl_X10_282 (Nat.le_of_ble_eq_true rfl) (kC2_mono H (fun r c24 H => ?_))
                obtain ⟨z23, rfl, H⟩ := H
                refine ⟨z23, rfl, ?_⟩
                refine k2_lret dX10_product_78 rfl H
            · have H := H.2 h9
              refine kw_ldc2 dX10_product_47 wk_X10_208 ?_
              refine k2_lret dX10_product_50 rfl H
    · have H := H.2 h4
      refine kw_if_ne 26 dX10_product_19 (by decide) (k32i (by omega)) (fun h25 => absurd h25 (by decide)) (fun _ => ?_)
      refine kw_ldc2 dX10_product_22 wk_X10_208 ?_
      refine k2_lret dX10_product_25 rfl H
  · have H := H.2 h2
    refine kw_if_eq 22 dX10_product_8 (by decide) (k32i (by omega)) (fun _ => ?_) (fun h26 => absurd h26 (by decide))
    refine kw_ldc2 dX10_product_22 wk_X10_208 ?_
    refine k2_lret dX10_product_25 rfl H
set_option maxRecDepth 4000 in
theorem v_X10_cosine {G : KG} {S0 : KSh} (hL : kLay S0) {d : Nat} {P : Option AV → KMem → Prop} {c : KMem} {x1 x2 x3 : Int} (r1 : -2147483648 ≤ x1 ∧ x1 < 2147483648) (r2 : -2147483648 ≤ x2 ∧ x2 < 2147483648) (r3 : -2147483648 ≤ x3 ∧ x3 < 2147483648) (H : (kStT c 3) ∧ (((kHs c 3 x1) → (((kHs c 3 x2) → ((x3 < 0 → (P (some (kL (-2000000000000000000))) c)) ∧ (0 ≤ x3 → ((x3 ≤ 1 → (kC2 G S0 kM_X10_kindAt (d + 5) [kA 0, kI x1] c (kRI (fun z8 c9 => (k32 z8) ∧ (((kObj z8) → (kC2 G S0 kM_X10_kindAt (d + 5) [kA 0, kI x2] c9 (kRI (fun z13 c14 => (k32 z13) ∧ (((kObj z13) → ((0 ≤ x1 ∧ x1 < 12) ∧ (kC2 G S0 kM_X8_vectorOf (d + 5) [kA (3 + 2 + x1), kA 555] c14 (kRN (fun c20 => (0 ≤ x2 ∧ x2 < 12) ∧ (kC2 G S0 kM_X8_vectorOf (d + 5) [kA (3 + 2 + x2), kA 556] c20 (kRN (fun c23 => kC2 G S0 kM_X0_square (d + 5) [kA 555] c23 (kRL (fun z24 c25 => kC2 G S0 kM_X0_square (d + 5) [kA 556] c25 (kRL (fun z26 c27 => kC2 G S0 kM_X0_partOf (d + 5) [kI 2, kA 555, kA 556, kI 0] c27 (kRL (fun z28 c29 => (k64 z24) ∧ ((z24 ≤ 0 → (P (some (kL (-2000000000000000000))) c29)) ∧ (0 < z24 → ((k64 z26) ∧ ((0 < z26 → (((100000000 < z24 ∨ z24 < -100000000) → (P (some (kL (-2000000000000000000))) c29)) ∧ (¬ (100000000 < z24 ∨ z24 < -100000000) → (((100000000 < z26 ∨ z26 < -100000000) → (P (some (kL (-2000000000000000000))) c29)) ∧ (¬ (100000000 < z26 ∨ z26 < -100000000) → ((k64 z28) ∧ (((100000000 < z28 ∨ z28 < -100000000) → (P (some (kL (-2000000000000000000))) c29)) ∧ (¬ (100000000 < z28 ∨ z28 < -100000000) → (kC2 G S0 kM_J9_abs_067f4 (d + 5) [kL z28] c29 (kRL (fun z44 c45 => kC2 G S0 kM_X0_lowest (d + 5) [kL (z28 * z44), kL (z24 * z26), kI x3] c45 (kRL (fun z46 c47 => P (some (kL z46)) c47))))))))))))) ∧ (z26 ≤ 0 → (P (some (kL (-2000000000000000000))) c29)))))))))))))))))))) ∧ (¬ (kObj z13) → (P (some (kL (-2000000000000000000))) c14))))))) ∧ (¬ (kObj z8) → (P (some (kL (-2000000000000000000))) c9))))))) ∧ (1 < x3 → (P (some (kL (-2000000000000000000))) c)))))) ∧ (¬ (kHs c 3 x2) → (P (some (kL (-2000000000000000000))) c)))) ∧ (¬ (kHs c 3 x1) → (P (some (kL (-2000000000000000000))) c)))) : kC2 G S0 kM_X10_cosine (d + 6) [kA 0, kI x1, kI x2, kI x3] c P := by
  refine k2_met (by decide) rfl (Nat.le_of_ble_eq_true rfl) (l0 := [some (kA 0), some (kI x1), some (kI x2), some (kI x3), none, none, none, none, none, none]) rfl ?_
  refine kw_aload_n dX10_cosine_0 rfl ?_
  refine k2_getR fd_X10_5 dX10_cosine_1 wf_X10_29 (lsh_0 hL) (lrf_0_5 hL) ?_
  refine kw_iload_n dX10_cosine_4 rfl ?_
  have o1 := H.1
  have H := H.2
  refine k2_callV1I (ci := 0) (N := 2) (T := TX1) rfl (llt_3 hL).1 m_X1_has dX10_cosine_5 wl_X10_138 (Nat.le_of_ble_eq_true rfl) (s_X1_has hL (llt_3 hL) o1 (k32i (by omega)) (fun h2 => ⟨_, rfl, ?_⟩) (fun h2 => ⟨_, rfl, ?_⟩))
  · have H := H.1 h2
    refine kw_if_eq 31 dX10_cosine_8 (by decide) (k32i (by omega)) (fun h3 => absurd h3 (by decide)) (fun _ => ?_)
    refine kw_aload_n dX10_cosine_11 rfl ?_
    refine k2_getR fd_X10_5 dX10_cosine_12 wf_X10_29 (lsh_0 hL) (lrf_0_5 hL) ?_
    refine kw_iload_n dX10_cosine_15 rfl ?_
    refine k2_callV1I (ci := 0) (N := 2) (T := TX1) rfl (llt_3 hL).1 m_X1_has dX10_cosine_16 wl_X10_138 (Nat.le_of_ble_eq_true rfl) (s_X1_has hL (llt_3 hL) o1 (k32i (by omega)) (fun h4 => ⟨_, rfl, ?_⟩) (fun h4 => ⟨_, rfl, ?_⟩))
    · have H := H.1 h4
      refine kw_if_eq 31 dX10_cosine_19 (by decide) (k32i (by omega)) (fun h5 => absurd h5 (by decide)) (fun _ => ?_)
      refine kw_iload_n dX10_cosine_22 rfl ?_
      refine kw_if_lt 31 dX10_cosine_23 (by decide) (k32i (by omega)) (fun h6 => ?_) (fun h6 => ?_)
      · have H := H.1 h6
        refine kw_ldc2 dX10_cosine_31 wk_X10_208 ?_
        refine k2_lret dX10_cosine_34 rfl H
      · have H := H.2 h6
        refine kw_iload_n dX10_cosine_26 rfl ?_
        refine kw_iconst dX10_cosine_27 ?_
        refine kw_icmp_le 35 dX10_cosine_28 (by decide) (k32i (by omega)) (k32i (by omega)) (fun h7 => ?_) (fun h7 => ?_)
        · have H := H.1 h7
          refine kw_aload_n dX10_cosine_35 rfl ?_
          refine kw_iload_n dX10_cosine_36 rfl ?_
          refine k2_callV1I (ci := 8) (N := 20) (T := TX10) rfl (lsh_0 hL) m_X10_kindAt dX10_cosine_37 wl_X10_180 (Nat.le_of_ble_eq_true rfl) (kC2_mono H (fun r c9 H => ?_))
          obtain ⟨z8, rfl, H⟩ := H
          refine ⟨z8, rfl, ?_⟩
          have o10 := H.1
          have H := H.2
          refine k2_callS1I m_X8_isObject dX10_cosine_40 wl_X10_189 (Nat.le_of_ble_eq_true rfl) (s_X8_isObject hL o10 (fun h11 => ⟨_, rfl, ?_⟩) (fun h11 => ⟨_, rfl, ?_⟩))
          · have H := H.1 h11
            refine kw_if_eq 57 dX10_cosine_43 (by decide) (k32i (by omega)) (fun h12 => absurd h12 (by decide)) (fun _ => ?_)
            refine kw_aload_n dX10_cosine_46 rfl ?_
            refine kw_iload_n dX10_cosine_47 rfl ?_
            refine k2_callV1I (ci := 8) (N := 20) (T := TX10) rfl (lsh_0 hL) m_X10_kindAt dX10_cosine_48 wl_X10_180 (Nat.le_of_ble_eq_true rfl) (kC2_mono H (fun r c14 H => ?_))
            obtain ⟨z13, rfl, H⟩ := H
            refine ⟨z13, rfl, ?_⟩
            have o15 := H.1
            have H := H.2
            refine k2_callS1I m_X8_isObject dX10_cosine_51 wl_X10_189 (Nat.le_of_ble_eq_true rfl) (s_X8_isObject hL o15 (fun h16 => ⟨_, rfl, ?_⟩) (fun h16 => ⟨_, rfl, ?_⟩))
            · have H := H.1 h16
              refine kw_if_ne 61 dX10_cosine_54 (by decide) (k32i (by omega)) (fun _ => ?_) (fun h17 => absurd h17 (by decide))
              refine kw_aload_n dX10_cosine_61 rfl ?_
              refine k2_getR fd_X10_5 dX10_cosine_62 wf_X10_29 (lsh_0 hL) (lrf_0_5 hL) ?_
              refine kw_iload_n dX10_cosine_65 rfl ?_
              have o18 := H.1
              have H := H.2
              refine k2_callV1A (ci := 0) (N := 2) (T := TX1) rfl (llt_3 hL).1 m_X1_form dX10_cosine_66 wl_X10_142 (Nat.le_of_ble_eq_true rfl) (s_X1_form hL (llt_3 hL) (by omega) o18 ⟨_, rfl, ?_⟩)
              refine kw_aload_n dX10_cosine_69 rfl ?_
              refine k2_getR fd_X10_17 dX10_cosine_70 wf_X10_91 (lsh_0 hL) (lrf_0_17 hL) ?_
              refine k2_callS2N m_X8_vectorOf dX10_cosine_73 wl_X10_215 (Nat.le_of_ble_eq_true rfl) (kC2_mono H (fun r c20 H => ?_))
              obtain ⟨rfl, H⟩ := H
              refine ⟨rfl, ?_⟩
              refine kw_aload_n dX10_cosine_76 rfl ?_
              refine k2_getR fd_X10_5 dX10_cosine_77 wf_X10_29 (lsh_0 hL) (lrf_0_5 hL) ?_
              refine kw_iload_n dX10_cosine_80 rfl ?_
              have o21 := H.1
              have H := H.2
              refine k2_callV1A (ci := 0) (N := 2) (T := TX1) rfl (llt_3 hL).1 m_X1_form dX10_cosine_81 wl_X10_142 (Nat.le_of_ble_eq_true rfl) (s_X1_form hL (llt_3 hL) (by omega) o21 ⟨_, rfl, ?_⟩)
              refine kw_aload_n dX10_cosine_84 rfl ?_
              refine k2_getR fd_X10_18 dX10_cosine_85 wf_X10_95 (lsh_0 hL) (lrf_0_18 hL) ?_
              refine k2_callS2N m_X8_vectorOf dX10_cosine_88 wl_X10_215 (Nat.le_of_ble_eq_true rfl) (kC2_mono H (fun r c23 H => ?_))
              obtain ⟨rfl, H⟩ := H
              refine ⟨rfl, ?_⟩
              refine kw_aload_n dX10_cosine_91 rfl ?_
              refine k2_getR fd_X10_17 dX10_cosine_92 wf_X10_91 (lsh_0 hL) (lrf_0_17 hL) ?_
              refine k2_callS1L m_X0_square dX10_cosine_95 wl_X10_255 (Nat.le_of_ble_eq_true rfl) (kC2_mono H (fun r c25 H => ?_))
              obtain ⟨z24, rfl, H⟩ := H
              refine ⟨z24, rfl, ?_⟩
              refine kw_lstore dX10_cosine_98 (Nat.le_of_ble_eq_true rfl) ?_
              refine kw_aload_n dX10_cosine_100 rfl ?_
              refine k2_getR fd_X10_18 dX10_cosine_101 wf_X10_95 (lsh_0 hL) (lrf_0_18 hL) ?_
              refine k2_callS1L m_X0_square dX10_cosine_104 wl_X10_255 (Nat.le_of_ble_eq_true rfl) (kC2_mono H (fun r c27 H => ?_))
              obtain ⟨z26, rfl, H⟩ := H
              refine ⟨z26, rfl, ?_⟩
              refine kw_lstore dX10_cosine_107 (Nat.le_of_ble_eq_true rfl) ?_
              refine kw_iconst dX10_cosine_109 ?_
              refine kw_aload_n dX10_cosine_110 rfl ?_
              refine k2_getR fd_X10_17 dX10_cosine_111 wf_X10_91 (lsh_0 hL) (lrf_0_17 hL) ?_
              refine kw_aload_n dX10_cosine_114 rfl ?_
              refine k2_getR fd_X10_18 dX10_cosine_115 wf_X10_95 (lsh_0 hL) (lrf_0_18 hL) ?_
              refine kw_iconst dX10_cosine_118 ?_
              refine k2_callS4L m_X0_partOf dX10_cosine_119 wl_X10_282 (Nat.le_of_ble_eq_true rfl) (kC2_mono H (fun r c29 H => ?_))
              obtain ⟨z28, rfl, H⟩ := H
              refine ⟨z28, rfl, ?_⟩
              refine kw_lstore dX10_cosine_122 (Nat.le_of_ble_eq_true rfl) ?_
              refine kw_lload dX10_cosine_124 rfl ?_
              refine kw_lconst0 dX10_cosine_126 ?_
              have o30 := H.1
              have H := H.2
              refine kw_lcmp_le 138 dX10_cosine_127 dX10_cosine_128 (by decide) o30 (k64i (by omega)) (fun h31 => ?_) (fun h31 => ?_)
              · have H := H.1 h31
                refine kw_ldc2 dX10_cosine_138 wk_X10_208 ?_
                refine k2_lret dX10_cosine_141 rfl H
              · have H := H.2 h31
                refine kw_lload dX10_cosine_131 rfl ?_
                refine kw_lconst0 dX10_cosine_133 ?_
                have o32 := H.1
                have H := H.2
                refine kw_lcmp_gt 142 dX10_cosine_134 dX10_cosine_135 (by decide) o32 (k64i (by omega)) (fun h33 => ?_) (fun h33 => ?_)
                · have H := H.1 h33
                  refine kw_lload dX10_cosine_142 rfl ?_
                  refine k2_callS1I m_X10_isBeyond dX10_cosine_144 wl_X10_296 (Nat.le_of_ble_eq_true rfl) (s_X10_isBeyond hL o30 (fun h34 => ⟨_, rfl, ?_⟩) (fun h34 => ⟨_, rfl, ?_⟩))
                  · have H := H.1 h34
                    refine kw_if_ne 166 dX10_cosine_147 (by decide) (k32i (by omega)) (fun _ => ?_) (fun h35 => absurd h35 (by decide))
                    refine kw_ldc2 dX10_cosine_166 wk_X10_208 ?_
                    refine k2_lret dX10_cosine_169 rfl H
                  · have H := H.2 h34
                    refine kw_if_ne 166 dX10_cosine_147 (by decide) (k32i (by omega)) (fun h36 => absurd h36 (by decide)) (fun _ => ?_)
                    refine kw_lload dX10_cosine_150 rfl ?_
                    refine k2_callS1I m_X10_isBeyond dX10_cosine_152 wl_X10_296 (Nat.le_of_ble_eq_true rfl) (s_X10_isBeyond hL o32 (fun h37 => ⟨_, rfl, ?_⟩) (fun h37 => ⟨_, rfl, ?_⟩))
                    · have H := H.1 h37
                      refine kw_if_ne 166 dX10_cosine_155 (by decide) (k32i (by omega)) (fun _ => ?_) (fun h38 => absurd h38 (by decide))
                      refine kw_ldc2 dX10_cosine_166 wk_X10_208 ?_
                      refine k2_lret dX10_cosine_169 rfl H
                    · have H := H.2 h37
                      refine kw_if_ne 166 dX10_cosine_155 (by decide) (k32i (by omega)) (fun h39 => absurd h39 (by decide)) (fun _ => ?_)
                      refine kw_lload dX10_cosine_158 rfl ?_
                      have o40 := H.1
                      have H := H.2
                      refine k2_callS1I m_X10_isBeyond dX10_cosine_160 wl_X10_296 (Nat.le_of_ble_eq_true rfl) (s_X10_isBeyond hL o40 (fun h41 => ⟨_, rfl, ?_⟩) (fun h41 => ⟨_, rfl, ?_⟩))
                      · have H := H.1 h41
                        refine kw_if_eq 170 dX10_cosine_163 (by decide) (k32i (by omega)) (fun h42 => absurd h42 (by decide)) (fun _ => ?_)
                        refine kw_ldc2 dX10_cosine_166 wk_X10_208 ?_
                        refine k2_lret dX10_cosine_169 rfl H
                      · have H := H.2 h41
                        refine kw_if_eq 170 dX10_cosine_163 (by decide) (k32i (by omega)) (fun _ => ?_) (fun h43 => absurd h43 (by decide))
                        refine kw_lload dX10_cosine_170 rfl ?_
                        refine kw_lload dX10_cosine_172 rfl ?_
                        refine k2_callS1L m_J9_abs_067f4 dX10_cosine_174 wl_X10_300 (Nat.le_of_ble_eq_true rfl) (kC2_mono H (fun r c45 H => ?_))
                        obtain ⟨z44, rfl, H⟩ := H
                        refine ⟨z44, rfl, ?_⟩
                        refine kw_lmul dX10_cosine_177 ?_
                        refine kw_lload dX10_cosine_178 rfl ?_
                        refine kw_lload dX10_cosine_180 rfl ?_
                        refine kw_lmul dX10_cosine_182 ?_
                        refine kw_iload_n dX10_cosine_183 rfl ?_
                        refine k2_callS3L m_X0_lowest dX10_cosine_184 wl_X10_305 (Nat.le_of_ble_eq_true rfl) (kC2_mono H (fun r c47 H => ?_))
                        obtain ⟨z46, rfl, H⟩ := H
                        refine ⟨z46, rfl, ?_⟩
                        refine k2_lret dX10_cosine_187 rfl H
                · have H := H.2 h33
                  refine kw_ldc2 dX10_cosine_138 wk_X10_208 ?_
                  refine k2_lret dX10_cosine_141 rfl H
            · have H := H.2 h16
              refine kw_if_ne 61 dX10_cosine_54 (by decide) (k32i (by omega)) (fun h48 => absurd h48 (by decide)) (fun _ => ?_)
              refine kw_ldc2 dX10_cosine_57 wk_X10_208 ?_
              refine k2_lret dX10_cosine_60 rfl H
          · have H := H.2 h11
            refine kw_if_eq 57 dX10_cosine_43 (by decide) (k32i (by omega)) (fun _ => ?_) (fun h49 => absurd h49 (by decide))
            refine kw_ldc2 dX10_cosine_57 wk_X10_208 ?_
            refine k2_lret dX10_cosine_60 rfl H
        · have H := H.2 h7
          refine kw_ldc2 dX10_cosine_31 wk_X10_208 ?_
          refine k2_lret dX10_cosine_34 rfl H
    · have H := H.2 h4
      refine kw_if_eq 31 dX10_cosine_19 (by decide) (k32i (by omega)) (fun _ => ?_) (fun h50 => absurd h50 (by decide))
      refine kw_ldc2 dX10_cosine_31 wk_X10_208 ?_
      refine k2_lret dX10_cosine_34 rfl H
  · have H := H.2 h2
    refine kw_if_eq 31 dX10_cosine_8 (by decide) (k32i (by omega)) (fun _ => ?_) (fun h51 => absurd h51 (by decide))
    refine kw_ldc2 dX10_cosine_31 wk_X10_208 ?_
    refine k2_lret dX10_cosine_34 rfl H
set_option maxRecDepth 4000 in
theorem v_X10_stand {G : KG} {S0 : KSh} (hL : kLay S0) {d : Nat} {P : Option AV → KMem → Prop} {c : KMem} {x1 x2 : Int} (r1 : -2147483648 ≤ x1 ∧ x1 < 2147483648) (r2 : -2147483648 ≤ x2 ∧ x2 < 2147483648) (H : (kStT c 3) ∧ (((kHs c 3 x1) → (((kHs c 3 x2) → (kC2 G S0 kM_X10_kindAt (d + 5) [kA 0, kI x1] c (kRI (fun z6 c7 => (k32 z6) ∧ (((kMir z6) → (kC2 G S0 kM_X10_kindAt (d + 5) [kA 0, kI x2] c7 (kRI (fun z11 c12 => (k32 z11) ∧ (((kMir z11) → ((0 ≤ x1 ∧ x1 < 12) ∧ (kC2 G S0 kM_X8_vectorOf (d + 5) [kA (3 + 2 + x1), kA 555] c12 (kRN (fun c18 => (0 ≤ x2 ∧ x2 < 12) ∧ (kC2 G S0 kM_X8_vectorOf (d + 5) [kA (3 + 2 + x2), kA 556] c18 (kRN (fun c21 => kC2 G S0 kM_X0_square (d + 5) [kA 555] c21 (kRL (fun z22 c23 => kC2 G S0 kM_X0_square (d + 5) [kA 556] c23 (kRL (fun z24 c25 => kC2 G S0 kM_X0_partOf (d + 5) [kI 2, kA 555, kA 556, kI 0] c25 (kRL (fun z26 c27 => (k64 z22) ∧ (((100000000 < z22 ∨ z22 < -100000000) → (P (some (kI (-4))) c27)) ∧ (¬ (100000000 < z22 ∨ z22 < -100000000) → ((k64 z24) ∧ (((100000000 < z24 ∨ z24 < -100000000) → (P (some (kI (-4))) c27)) ∧ (¬ (100000000 < z24 ∨ z24 < -100000000) → ((k64 z26) ∧ (((100000000 < z26 ∨ z26 < -100000000) → (P (some (kI (-4))) c27)) ∧ (¬ (100000000 < z26 ∨ z26 < -100000000) → ((k64 ((z26 * z26) - (z22 * z24))) ∧ ((0 ≤ ((z26 * z26) - (z22 * z24)) → ((((z26 * z26) - (z22 * z24)) ≠ 0 → (P (some (kI 2)) c27)) ∧ (((z26 * z26) - (z22 * z24)) = 0 → (P (some (kI 1)) c27)))) ∧ (((z26 * z26) - (z22 * z24)) < 0 → (P (some (kI 0)) c27)))))))))))))))))))))))))) ∧ (¬ (kMir z11) → (P (some (kI (-3))) c12))))))) ∧ (¬ (kMir z6) → (P (some (kI (-3))) c7))))))) ∧ (¬ (kHs c 3 x2) → (P (some (kI (-1))) c)))) ∧ (¬ (kHs c 3 x1) → (P (some (kI (-1))) c)))) : kC2 G S0 kM_X10_stand (d + 6) [kA 0, kI x1, kI x2] c P := by
  refine k2_met (by decide) rfl (Nat.le_of_ble_eq_true rfl) (l0 := [some (kA 0), some (kI x1), some (kI x2), none, none, none, none, none, none, none, none]) rfl ?_
  refine kw_aload_n dX10_stand_0 rfl ?_
  refine k2_getR fd_X10_5 dX10_stand_1 wf_X10_29 (lsh_0 hL) (lrf_0_5 hL) ?_
  refine kw_iload_n dX10_stand_4 rfl ?_
  have o1 := H.1
  have H := H.2
  refine k2_callV1I (ci := 0) (N := 2) (T := TX1) rfl (llt_3 hL).1 m_X1_has dX10_stand_5 wl_X10_138 (Nat.le_of_ble_eq_true rfl) (s_X1_has hL (llt_3 hL) o1 (k32i (by omega)) (fun h2 => ⟨_, rfl, ?_⟩) (fun h2 => ⟨_, rfl, ?_⟩))
  · have H := H.1 h2
    refine kw_if_eq 22 dX10_stand_8 (by decide) (k32i (by omega)) (fun h3 => absurd h3 (by decide)) (fun _ => ?_)
    refine kw_aload_n dX10_stand_11 rfl ?_
    refine k2_getR fd_X10_5 dX10_stand_12 wf_X10_29 (lsh_0 hL) (lrf_0_5 hL) ?_
    refine kw_iload_n dX10_stand_15 rfl ?_
    refine k2_callV1I (ci := 0) (N := 2) (T := TX1) rfl (llt_3 hL).1 m_X1_has dX10_stand_16 wl_X10_138 (Nat.le_of_ble_eq_true rfl) (s_X1_has hL (llt_3 hL) o1 (k32i (by omega)) (fun h4 => ⟨_, rfl, ?_⟩) (fun h4 => ⟨_, rfl, ?_⟩))
    · have H := H.1 h4
      refine kw_if_ne 24 dX10_stand_19 (by decide) (k32i (by omega)) (fun _ => ?_) (fun h5 => absurd h5 (by decide))
      refine kw_aload_n dX10_stand_24 rfl ?_
      refine kw_iload_n dX10_stand_25 rfl ?_
      refine k2_callV1I (ci := 8) (N := 20) (T := TX10) rfl (lsh_0 hL) m_X10_kindAt dX10_stand_26 wl_X10_180 (Nat.le_of_ble_eq_true rfl) (kC2_mono H (fun r c7 H => ?_))
      obtain ⟨z6, rfl, H⟩ := H
      refine ⟨z6, rfl, ?_⟩
      have o8 := H.1
      have H := H.2
      refine k2_callS1I m_X8_isMirror dX10_stand_29 wl_X10_192 (Nat.le_of_ble_eq_true rfl) (s_X8_isMirror hL o8 (fun h9 => ⟨_, rfl, ?_⟩) (fun h9 => ⟨_, rfl, ?_⟩))
      · have H := H.1 h9
        refine kw_if_eq 46 dX10_stand_32 (by decide) (k32i (by omega)) (fun h10 => absurd h10 (by decide)) (fun _ => ?_)
        refine kw_aload_n dX10_stand_35 rfl ?_
        refine kw_iload_n dX10_stand_36 rfl ?_
        refine k2_callV1I (ci := 8) (N := 20) (T := TX10) rfl (lsh_0 hL) m_X10_kindAt dX10_stand_37 wl_X10_180 (Nat.le_of_ble_eq_true rfl) (kC2_mono H (fun r c12 H => ?_))
        obtain ⟨z11, rfl, H⟩ := H
        refine ⟨z11, rfl, ?_⟩
        have o13 := H.1
        have H := H.2
        refine k2_callS1I m_X8_isMirror dX10_stand_40 wl_X10_192 (Nat.le_of_ble_eq_true rfl) (s_X8_isMirror hL o13 (fun h14 => ⟨_, rfl, ?_⟩) (fun h14 => ⟨_, rfl, ?_⟩))
        · have H := H.1 h14
          refine kw_if_ne 49 dX10_stand_43 (by decide) (k32i (by omega)) (fun _ => ?_) (fun h15 => absurd h15 (by decide))
          refine kw_aload_n dX10_stand_49 rfl ?_
          refine k2_getR fd_X10_5 dX10_stand_50 wf_X10_29 (lsh_0 hL) (lrf_0_5 hL) ?_
          refine kw_iload_n dX10_stand_53 rfl ?_
          have o16 := H.1
          have H := H.2
          refine k2_callV1A (ci := 0) (N := 2) (T := TX1) rfl (llt_3 hL).1 m_X1_form dX10_stand_54 wl_X10_142 (Nat.le_of_ble_eq_true rfl) (s_X1_form hL (llt_3 hL) (by omega) o16 ⟨_, rfl, ?_⟩)
          refine kw_aload_n dX10_stand_57 rfl ?_
          refine k2_getR fd_X10_17 dX10_stand_58 wf_X10_91 (lsh_0 hL) (lrf_0_17 hL) ?_
          refine k2_callS2N m_X8_vectorOf dX10_stand_61 wl_X10_215 (Nat.le_of_ble_eq_true rfl) (kC2_mono H (fun r c18 H => ?_))
          obtain ⟨rfl, H⟩ := H
          refine ⟨rfl, ?_⟩
          refine kw_aload_n dX10_stand_64 rfl ?_
          refine k2_getR fd_X10_5 dX10_stand_65 wf_X10_29 (lsh_0 hL) (lrf_0_5 hL) ?_
          refine kw_iload_n dX10_stand_68 rfl ?_
          have o19 := H.1
          have H := H.2
          refine k2_callV1A (ci := 0) (N := 2) (T := TX1) rfl (llt_3 hL).1 m_X1_form dX10_stand_69 wl_X10_142 (Nat.le_of_ble_eq_true rfl) (s_X1_form hL (llt_3 hL) (by omega) o19 ⟨_, rfl, ?_⟩)
          refine kw_aload_n dX10_stand_72 rfl ?_
          refine k2_getR fd_X10_18 dX10_stand_73 wf_X10_95 (lsh_0 hL) (lrf_0_18 hL) ?_
          refine k2_callS2N m_X8_vectorOf dX10_stand_76 wl_X10_215 (Nat.le_of_ble_eq_true rfl) (kC2_mono H (fun r c21 H => ?_))
          obtain ⟨rfl, H⟩ := H
          refine ⟨rfl, ?_⟩
          refine kw_aload_n dX10_stand_79 rfl ?_
          refine k2_getR fd_X10_17 dX10_stand_80 wf_X10_91 (lsh_0 hL) (lrf_0_17 hL) ?_
          refine k2_callS1L m_X0_square dX10_stand_83 wl_X10_255 (Nat.le_of_ble_eq_true rfl) (kC2_mono H (fun r c23 H => ?_))
          obtain ⟨z22, rfl, H⟩ := H
          refine ⟨z22, rfl, ?_⟩
          refine kw_lstore_n dX10_stand_86 (Nat.le_of_ble_eq_true rfl) ?_
          refine kw_aload_n dX10_stand_87 rfl ?_
          refine k2_getR fd_X10_18 dX10_stand_88 wf_X10_95 (lsh_0 hL) (lrf_0_18 hL) ?_
          refine k2_callS1L m_X0_square dX10_stand_91 wl_X10_255 (Nat.le_of_ble_eq_true rfl) (kC2_mono H (fun r c25 H => ?_))
          obtain ⟨z24, rfl, H⟩ := H
          refine ⟨z24, rfl, ?_⟩
          refine kw_lstore dX10_stand_94 (Nat.le_of_ble_eq_true rfl) ?_
          refine kw_iconst dX10_stand_96 ?_
          refine kw_aload_n dX10_stand_97 rfl ?_
          refine k2_getR fd_X10_17 dX10_stand_98 wf_X10_91 (lsh_0 hL) (lrf_0_17 hL) ?_
          refine kw_aload_n dX10_stand_101 rfl ?_
          refine k2_getR fd_X10_18 dX10_stand_102 wf_X10_95 (lsh_0 hL) (lrf_0_18 hL) ?_
          refine kw_iconst dX10_stand_105 ?_
          refine k2_callS4L m_X0_partOf dX10_stand_106 wl_X10_282 (Nat.le_of_ble_eq_true rfl) (kC2_mono H (fun r c27 H => ?_))
          obtain ⟨z26, rfl, H⟩ := H
          refine ⟨z26, rfl, ?_⟩
          refine kw_lstore dX10_stand_109 (Nat.le_of_ble_eq_true rfl) ?_
          refine kw_lload_n dX10_stand_111 rfl ?_
          have o28 := H.1
          have H := H.2
          refine k2_callS1I m_X10_isBeyond dX10_stand_112 wl_X10_296 (Nat.le_of_ble_eq_true rfl) (s_X10_isBeyond hL o28 (fun h29 => ⟨_, rfl, ?_⟩) (fun h29 => ⟨_, rfl, ?_⟩))
          · have H := H.1 h29
            refine kw_if_ne 134 dX10_stand_115 (by decide) (k32i (by omega)) (fun _ => ?_) (fun h30 => absurd h30 (by decide))
            refine kw_bipush dX10_stand_134 (by decide) ?_
            refine k2_iret dX10_stand_136 rfl H
          · have H := H.2 h29
            refine kw_if_ne 134 dX10_stand_115 (by decide) (k32i (by omega)) (fun h31 => absurd h31 (by decide)) (fun _ => ?_)
            refine kw_lload dX10_stand_118 rfl ?_
            have o32 := H.1
            have H := H.2
            refine k2_callS1I m_X10_isBeyond dX10_stand_120 wl_X10_296 (Nat.le_of_ble_eq_true rfl) (s_X10_isBeyond hL o32 (fun h33 => ⟨_, rfl, ?_⟩) (fun h33 => ⟨_, rfl, ?_⟩))
            · have H := H.1 h33
              refine kw_if_ne 134 dX10_stand_123 (by decide) (k32i (by omega)) (fun _ => ?_) (fun h34 => absurd h34 (by decide))
              refine kw_bipush dX10_stand_134 (by decide) ?_
              refine k2_iret dX10_stand_136 rfl H
            · have H := H.2 h33
              refine kw_if_ne 134 dX10_stand_123 (by decide) (k32i (by omega)) (fun h35 => absurd h35 (by decide)) (fun _ => ?_)
              refine kw_lload dX10_stand_126 rfl ?_
              have o36 := H.1
              have H := H.2
              refine k2_callS1I m_X10_isBeyond dX10_stand_128 wl_X10_296 (Nat.le_of_ble_eq_true rfl) (s_X10_isBeyond hL o36 (fun h37 => ⟨_, rfl, ?_⟩) (fun h37 => ⟨_, rfl, ?_⟩))
              · have H := H.1 h37
                refine kw_if_eq 137 dX10_stand_131 (by decide) (k32i (by omega)) (fun h38 => absurd h38 (by decide)) (fun _ => ?_)
                refine kw_bipush dX10_stand_134 (by decide) ?_
                refine k2_iret dX10_stand_136 rfl H
              · have H := H.2 h37
                refine kw_if_eq 137 dX10_stand_131 (by decide) (k32i (by omega)) (fun _ => ?_) (fun h39 => absurd h39 (by decide))
                refine kw_lload dX10_stand_137 rfl ?_
                refine kw_lload dX10_stand_139 rfl ?_
                refine kw_lmul dX10_stand_141 ?_
                refine kw_lload_n dX10_stand_142 rfl ?_
                refine kw_lload dX10_stand_143 rfl ?_
                refine kw_lmul dX10_stand_145 ?_
                refine kw_lsub dX10_stand_146 ?_
                refine kw_lstore dX10_stand_147 (Nat.le_of_ble_eq_true rfl) ?_
                refine kw_lload dX10_stand_149 rfl ?_
                refine kw_lconst0 dX10_stand_151 ?_
                have o40 := H.1
                have H := H.2
                refine kw_lcmp_ge 158 dX10_stand_152 dX10_stand_153 (by decide) o40 (k64i (by omega)) (fun h41 => ?_) (fun h41 => ?_)
                · have H := H.1 h41
                  refine kw_lload dX10_stand_158 rfl ?_
                  refine kw_lconst0 dX10_stand_160 ?_
                  refine kw_lcmp_ne 169 dX10_stand_161 dX10_stand_162 (by decide) o40 (k64i (by omega)) (fun h42 => ?_) (fun h42 => ?_)
                  · have H := H.1 h42
                    refine kw_iconst dX10_stand_169 ?_
                    refine k2_iret dX10_stand_170 rfl H
                  · have H := H.2 h42
                    refine kw_iconst dX10_stand_165 ?_
                    refine kw_goto 170 dX10_stand_166 (by decide) ?_
                    refine k2_iret dX10_stand_170 rfl H
                · have H := H.2 h41
                  refine kw_iconst dX10_stand_156 ?_
                  refine k2_iret dX10_stand_157 rfl H
        · have H := H.2 h14
          refine kw_if_ne 49 dX10_stand_43 (by decide) (k32i (by omega)) (fun h43 => absurd h43 (by decide)) (fun _ => ?_)
          refine kw_bipush dX10_stand_46 (by decide) ?_
          refine k2_iret dX10_stand_48 rfl H
      · have H := H.2 h9
        refine kw_if_eq 46 dX10_stand_32 (by decide) (k32i (by omega)) (fun _ => ?_) (fun h44 => absurd h44 (by decide))
        refine kw_bipush dX10_stand_46 (by decide) ?_
        refine k2_iret dX10_stand_48 rfl H
    · have H := H.2 h4
      refine kw_if_ne 24 dX10_stand_19 (by decide) (k32i (by omega)) (fun h45 => absurd h45 (by decide)) (fun _ => ?_)
      refine kw_iconst dX10_stand_22 ?_
      refine k2_iret dX10_stand_23 rfl H
  · have H := H.2 h2
    refine kw_if_eq 22 dX10_stand_8 (by decide) (k32i (by omega)) (fun _ => ?_) (fun h46 => absurd h46 (by decide))
    refine kw_iconst dX10_stand_22 ?_
    refine k2_iret dX10_stand_23 rfl H
set_option maxRecDepth 4000 in
theorem v_X10_bundle {G : KG} {S0 : KSh} (hL : kLay S0) {d : Nat} {P : Option AV → KMem → Prop} {c : KMem} {x1 x2 x3 : Int} (r1 : -2147483648 ≤ x1 ∧ x1 < 2147483648) (r2 : -2147483648 ≤ x2 ∧ x2 < 2147483648) (r3 : -2147483648 ≤ x3 ∧ x3 < 2147483648) (H : (kStT c 3) ∧ (((kHs c 3 x1) → (((kHs c 3 x2) → (((kHs c 3 x3) → (kC2 G S0 kM_X10_kindAt (d + 5) [kA 0, kI x1] c (kRI (fun z8 c9 => (k32 z8) ∧ (((kMir z8) → (kC2 G S0 kM_X10_kindAt (d + 5) [kA 0, kI x2] c9 (kRI (fun z13 c14 => (k32 z13) ∧ (((kMir z13) → (kC2 G S0 kM_X10_kindAt (d + 5) [kA 0, kI x3] c14 (kRI (fun z18 c19 => (k32 z18) ∧ (((kMir z18) → ((0 ≤ x1 ∧ x1 < 12) ∧ (kC2 G S0 kM_X8_vectorOf (d + 5) [kA (3 + 2 + x1), kA 555] c19 (kRN (fun c25 => (0 ≤ x2 ∧ x2 < 12) ∧ (kC2 G S0 kM_X8_vectorOf (d + 5) [kA (3 + 2 + x2), kA 556] c25 (kRN (fun c28 => kC2 G S0 kM_X0_normalise (d + 5) [kA 555] c28 (kRN (fun c30 => kC2 G S0 kM_X0_normalise (d + 5) [kA 556] c30 (kRN (fun c32 => kC2 G S0 kM_X0_multiply (d + 5) [kI 1, kA 555, kA 556, kA 557] c32 (kRN (fun c34 => kC2 G S0 kM_X0_normalise (d + 5) [kA 557] c34 (kRN (fun c36 => kC2 G S0 kM_X0_isWithinBound (d + 5) [kA 557] c36 (kRI (fun z37 c38 => (k32 z37) ∧ ((z37 ≠ 0 → ((0 ≤ x3 ∧ x3 < 12) ∧ (kC2 G S0 kM_X8_vectorOf (d + 5) [kA (3 + 2 + x3), kA 555] c38 (kRN (fun c43 => kC2 G S0 kM_X0_isOuterZero (d + 5) [kA 557, kA 555] c43 (kRI (fun z44 c45 => (k32 z44) ∧ ((z44 = 0 → (P (some (kI 0)) c45)) ∧ (z44 ≠ 0 → (P (some (kI 1)) c45)))))))))) ∧ (z37 = 0 → (P (some (kI (-4))) c38))))))))))))))))))))) ∧ (¬ (kMir z18) → (P (some (kI (-3))) c19))))))) ∧ (¬ (kMir z13) → (P (some (kI (-3))) c14))))))) ∧ (¬ (kMir z8) → (P (some (kI (-3))) c9))))))) ∧ (¬ (kHs c 3 x3) → (P (some (kI (-1))) c)))) ∧ (¬ (kHs c 3 x2) → (P (some (kI (-1))) c)))) ∧ (¬ (kHs c 3 x1) → (P (some (kI (-1))) c)))) : kC2 G S0 kM_X10_bundle (d + 6) [kA 0, kI x1, kI x2, kI x3] c P := by
  refine k2_met (by decide) rfl (Nat.le_of_ble_eq_true rfl) (l0 := [some (kA 0), some (kI x1), some (kI x2), some (kI x3)]) rfl ?_
  refine kw_aload_n dX10_bundle_0 rfl ?_
  refine k2_getR fd_X10_5 dX10_bundle_1 wf_X10_29 (lsh_0 hL) (lrf_0_5 hL) ?_
  refine kw_iload_n dX10_bundle_4 rfl ?_
  have o1 := H.1
  have H := H.2
  refine k2_callV1I (ci := 0) (N := 2) (T := TX1) rfl (llt_3 hL).1 m_X1_has dX10_bundle_5 wl_X10_138 (Nat.le_of_ble_eq_true rfl) (s_X1_has hL (llt_3 hL) o1 (k32i (by omega)) (fun h2 => ⟨_, rfl, ?_⟩) (fun h2 => ⟨_, rfl, ?_⟩))
  · have H := H.1 h2
    refine kw_if_eq 33 dX10_bundle_8 (by decide) (k32i (by omega)) (fun h3 => absurd h3 (by decide)) (fun _ => ?_)
    refine kw_aload_n dX10_bundle_11 rfl ?_
    refine k2_getR fd_X10_5 dX10_bundle_12 wf_X10_29 (lsh_0 hL) (lrf_0_5 hL) ?_
    refine kw_iload_n dX10_bundle_15 rfl ?_
    refine k2_callV1I (ci := 0) (N := 2) (T := TX1) rfl (llt_3 hL).1 m_X1_has dX10_bundle_16 wl_X10_138 (Nat.le_of_ble_eq_true rfl) (s_X1_has hL (llt_3 hL) o1 (k32i (by omega)) (fun h4 => ⟨_, rfl, ?_⟩) (fun h4 => ⟨_, rfl, ?_⟩))
    · have H := H.1 h4
      refine kw_if_eq 33 dX10_bundle_19 (by decide) (k32i (by omega)) (fun h5 => absurd h5 (by decide)) (fun _ => ?_)
      refine kw_aload_n dX10_bundle_22 rfl ?_
      refine k2_getR fd_X10_5 dX10_bundle_23 wf_X10_29 (lsh_0 hL) (lrf_0_5 hL) ?_
      refine kw_iload_n dX10_bundle_26 rfl ?_
      refine k2_callV1I (ci := 0) (N := 2) (T := TX1) rfl (llt_3 hL).1 m_X1_has dX10_bundle_27 wl_X10_138 (Nat.le_of_ble_eq_true rfl) (s_X1_has hL (llt_3 hL) o1 (k32i (by omega)) (fun h6 => ⟨_, rfl, ?_⟩) (fun h6 => ⟨_, rfl, ?_⟩))
      · have H := H.1 h6
        refine kw_if_ne 35 dX10_bundle_30 (by decide) (k32i (by omega)) (fun _ => ?_) (fun h7 => absurd h7 (by decide))
        refine kw_aload_n dX10_bundle_35 rfl ?_
        refine kw_iload_n dX10_bundle_36 rfl ?_
        refine k2_callV1I (ci := 8) (N := 20) (T := TX10) rfl (lsh_0 hL) m_X10_kindAt dX10_bundle_37 wl_X10_180 (Nat.le_of_ble_eq_true rfl) (kC2_mono H (fun r c9 H => ?_))
        obtain ⟨z8, rfl, H⟩ := H
        refine ⟨z8, rfl, ?_⟩
        have o10 := H.1
        have H := H.2
        refine k2_callS1I m_X8_isMirror dX10_bundle_40 wl_X10_192 (Nat.le_of_ble_eq_true rfl) (s_X8_isMirror hL o10 (fun h11 => ⟨_, rfl, ?_⟩) (fun h11 => ⟨_, rfl, ?_⟩))
        · have H := H.1 h11
          refine kw_if_eq 57 dX10_bundle_43 (by decide) (k32i (by omega)) (fun h12 => absurd h12 (by decide)) (fun _ => ?_)
          refine kw_aload_n dX10_bundle_46 rfl ?_
          refine kw_iload_n dX10_bundle_47 rfl ?_
          refine k2_callV1I (ci := 8) (N := 20) (T := TX10) rfl (lsh_0 hL) m_X10_kindAt dX10_bundle_48 wl_X10_180 (Nat.le_of_ble_eq_true rfl) (kC2_mono H (fun r c14 H => ?_))
          obtain ⟨z13, rfl, H⟩ := H
          refine ⟨z13, rfl, ?_⟩
          have o15 := H.1
          have H := H.2
          refine k2_callS1I m_X8_isMirror dX10_bundle_51 wl_X10_192 (Nat.le_of_ble_eq_true rfl) (s_X8_isMirror hL o15 (fun h16 => ⟨_, rfl, ?_⟩) (fun h16 => ⟨_, rfl, ?_⟩))
          · have H := H.1 h16
            refine kw_if_ne 60 dX10_bundle_54 (by decide) (k32i (by omega)) (fun _ => ?_) (fun h17 => absurd h17 (by decide))
            refine kw_aload_n dX10_bundle_60 rfl ?_
            refine kw_iload_n dX10_bundle_61 rfl ?_
            refine k2_callV1I (ci := 8) (N := 20) (T := TX10) rfl (lsh_0 hL) m_X10_kindAt dX10_bundle_62 wl_X10_180 (Nat.le_of_ble_eq_true rfl) (kC2_mono H (fun r c19 H => ?_))
            obtain ⟨z18, rfl, H⟩ := H
            refine ⟨z18, rfl, ?_⟩
            have o20 := H.1
            have H := H.2
            refine k2_callS1I m_X8_isMirror dX10_bundle_65 wl_X10_192 (Nat.le_of_ble_eq_true rfl) (s_X8_isMirror hL o20 (fun h21 => ⟨_, rfl, ?_⟩) (fun h21 => ⟨_, rfl, ?_⟩))
            · have H := H.1 h21
              refine kw_if_ne 74 dX10_bundle_68 (by decide) (k32i (by omega)) (fun _ => ?_) (fun h22 => absurd h22 (by decide))
              refine kw_aload_n dX10_bundle_74 rfl ?_
              refine k2_getR fd_X10_5 dX10_bundle_75 wf_X10_29 (lsh_0 hL) (lrf_0_5 hL) ?_
              refine kw_iload_n dX10_bundle_78 rfl ?_
              have o23 := H.1
              have H := H.2
              refine k2_callV1A (ci := 0) (N := 2) (T := TX1) rfl (llt_3 hL).1 m_X1_form dX10_bundle_79 wl_X10_142 (Nat.le_of_ble_eq_true rfl) (s_X1_form hL (llt_3 hL) (by omega) o23 ⟨_, rfl, ?_⟩)
              refine kw_aload_n dX10_bundle_82 rfl ?_
              refine k2_getR fd_X10_17 dX10_bundle_83 wf_X10_91 (lsh_0 hL) (lrf_0_17 hL) ?_
              refine k2_callS2N m_X8_vectorOf dX10_bundle_86 wl_X10_215 (Nat.le_of_ble_eq_true rfl) (kC2_mono H (fun r c25 H => ?_))
              obtain ⟨rfl, H⟩ := H
              refine ⟨rfl, ?_⟩
              refine kw_aload_n dX10_bundle_89 rfl ?_
              refine k2_getR fd_X10_5 dX10_bundle_90 wf_X10_29 (lsh_0 hL) (lrf_0_5 hL) ?_
              refine kw_iload_n dX10_bundle_93 rfl ?_
              have o26 := H.1
              have H := H.2
              refine k2_callV1A (ci := 0) (N := 2) (T := TX1) rfl (llt_3 hL).1 m_X1_form dX10_bundle_94 wl_X10_142 (Nat.le_of_ble_eq_true rfl) (s_X1_form hL (llt_3 hL) (by omega) o26 ⟨_, rfl, ?_⟩)
              refine kw_aload_n dX10_bundle_97 rfl ?_
              refine k2_getR fd_X10_18 dX10_bundle_98 wf_X10_95 (lsh_0 hL) (lrf_0_18 hL) ?_
              refine k2_callS2N m_X8_vectorOf dX10_bundle_101 wl_X10_215 (Nat.le_of_ble_eq_true rfl) (kC2_mono H (fun r c28 H => ?_))
              obtain ⟨rfl, H⟩ := H
              refine ⟨rfl, ?_⟩
              refine kw_aload_n dX10_bundle_104 rfl ?_
              refine k2_getR fd_X10_17 dX10_bundle_105 wf_X10_91 (lsh_0 hL) (lrf_0_17 hL) ?_
              refine k2_callS1N m_X0_normalise dX10_bundle_108 wl_X10_319 (Nat.le_of_ble_eq_true rfl) (kC2_mono H (fun r c30 H => ?_))
              obtain ⟨rfl, H⟩ := H
              refine ⟨rfl, ?_⟩
              refine kw_aload_n dX10_bundle_111 rfl ?_
              refine k2_getR fd_X10_18 dX10_bundle_112 wf_X10_95 (lsh_0 hL) (lrf_0_18 hL) ?_
              refine k2_callS1N m_X0_normalise dX10_bundle_115 wl_X10_319 (Nat.le_of_ble_eq_true rfl) (kC2_mono H (fun r c32 H => ?_))
              obtain ⟨rfl, H⟩ := H
              refine ⟨rfl, ?_⟩
              refine kw_iconst dX10_bundle_118 ?_
              refine kw_aload_n dX10_bundle_119 rfl ?_
              refine k2_getR fd_X10_17 dX10_bundle_120 wf_X10_91 (lsh_0 hL) (lrf_0_17 hL) ?_
              refine kw_aload_n dX10_bundle_123 rfl ?_
              refine k2_getR fd_X10_18 dX10_bundle_124 wf_X10_95 (lsh_0 hL) (lrf_0_18 hL) ?_
              refine kw_aload_n dX10_bundle_127 rfl ?_
              refine k2_getR fd_X10_19 dX10_bundle_128 wf_X10_98 (lsh_0 hL) (lrf_0_19 hL) ?_
              refine k2_callS4N m_X0_multiply dX10_bundle_131 wl_X10_289 (Nat.le_of_ble_eq_true rfl) (kC2_mono H (fun r c34 H => ?_))
              obtain ⟨rfl, H⟩ := H
              refine ⟨rfl, ?_⟩
              refine kw_aload_n dX10_bundle_134 rfl ?_
              refine k2_getR fd_X10_19 dX10_bundle_135 wf_X10_98 (lsh_0 hL) (lrf_0_19 hL) ?_
              refine k2_callS1N m_X0_normalise dX10_bundle_138 wl_X10_319 (Nat.le_of_ble_eq_true rfl) (kC2_mono H (fun r c36 H => ?_))
              obtain ⟨rfl, H⟩ := H
              refine ⟨rfl, ?_⟩
              refine kw_aload_n dX10_bundle_141 rfl ?_
              refine k2_getR fd_X10_19 dX10_bundle_142 wf_X10_98 (lsh_0 hL) (lrf_0_19 hL) ?_
              refine k2_callS1I m_X0_isWithinBound dX10_bundle_145 wl_X10_322 (Nat.le_of_ble_eq_true rfl) (kC2_mono H (fun r c38 H => ?_))
              obtain ⟨z37, rfl, H⟩ := H
              refine ⟨z37, rfl, ?_⟩
              have o40 := H.1
              have H := H.2
              refine kw_if_ne 154 dX10_bundle_148 (by decide) o40 (fun h39 => ?_) (fun h39 => ?_)
              · have H := H.1 h39
                refine kw_aload_n dX10_bundle_154 rfl ?_
                refine k2_getR fd_X10_5 dX10_bundle_155 wf_X10_29 (lsh_0 hL) (lrf_0_5 hL) ?_
                refine kw_iload_n dX10_bundle_158 rfl ?_
                have o41 := H.1
                have H := H.2
                refine k2_callV1A (ci := 0) (N := 2) (T := TX1) rfl (llt_3 hL).1 m_X1_form dX10_bundle_159 wl_X10_142 (Nat.le_of_ble_eq_true rfl) (s_X1_form hL (llt_3 hL) (by omega) o41 ⟨_, rfl, ?_⟩)
                refine kw_aload_n dX10_bundle_162 rfl ?_
                refine k2_getR fd_X10_17 dX10_bundle_163 wf_X10_91 (lsh_0 hL) (lrf_0_17 hL) ?_
                refine k2_callS2N m_X8_vectorOf dX10_bundle_166 wl_X10_215 (Nat.le_of_ble_eq_true rfl) (kC2_mono H (fun r c43 H => ?_))
                obtain ⟨rfl, H⟩ := H
                refine ⟨rfl, ?_⟩
                refine kw_aload_n dX10_bundle_169 rfl ?_
                refine k2_getR fd_X10_19 dX10_bundle_170 wf_X10_98 (lsh_0 hL) (lrf_0_19 hL) ?_
                refine kw_aload_n dX10_bundle_173 rfl ?_
                refine k2_getR fd_X10_17 dX10_bundle_174 wf_X10_91 (lsh_0 hL) (lrf_0_17 hL) ?_
                refine k2_callS2I m_X0_isOuterZero dX10_bundle_177 wl_X10_325 (Nat.le_of_ble_eq_true rfl) (kC2_mono H (fun r c45 H => ?_))
                obtain ⟨z44, rfl, H⟩ := H
                refine ⟨z44, rfl, ?_⟩
                have o47 := H.1
                have H := H.2
                refine kw_if_eq 187 dX10_bundle_180 (by decide) o47 (fun h46 => ?_) (fun h46 => ?_)
                · have H := H.1 h46
                  refine kw_iconst dX10_bundle_187 ?_
                  refine k2_iret dX10_bundle_188 rfl H
                · have H := H.2 h46
                  refine kw_iconst dX10_bundle_183 ?_
                  refine kw_goto 188 dX10_bundle_184 (by decide) ?_
                  refine k2_iret dX10_bundle_188 rfl H
              · have H := H.2 h39
                refine kw_bipush dX10_bundle_151 (by decide) ?_
                refine k2_iret dX10_bundle_153 rfl H
            · have H := H.2 h21
              refine kw_if_ne 74 dX10_bundle_68 (by decide) (k32i (by omega)) (fun h48 => absurd h48 (by decide)) (fun _ => ?_)
              refine kw_bipush dX10_bundle_71 (by decide) ?_
              refine k2_iret dX10_bundle_73 rfl H
          · have H := H.2 h16
            refine kw_if_ne 60 dX10_bundle_54 (by decide) (k32i (by omega)) (fun h49 => absurd h49 (by decide)) (fun _ => ?_)
            refine kw_bipush dX10_bundle_57 (by decide) ?_
            refine k2_iret dX10_bundle_59 rfl H
        · have H := H.2 h11
          refine kw_if_eq 57 dX10_bundle_43 (by decide) (k32i (by omega)) (fun _ => ?_) (fun h50 => absurd h50 (by decide))
          refine kw_bipush dX10_bundle_57 (by decide) ?_
          refine k2_iret dX10_bundle_59 rfl H
      · have H := H.2 h6
        refine kw_if_ne 35 dX10_bundle_30 (by decide) (k32i (by omega)) (fun h51 => absurd h51 (by decide)) (fun _ => ?_)
        refine kw_iconst dX10_bundle_33 ?_
        refine k2_iret dX10_bundle_34 rfl H
    · have H := H.2 h4
      refine kw_if_eq 33 dX10_bundle_19 (by decide) (k32i (by omega)) (fun _ => ?_) (fun h52 => absurd h52 (by decide))
      refine kw_iconst dX10_bundle_33 ?_
      refine k2_iret dX10_bundle_34 rfl H
  · have H := H.2 h2
    refine kw_if_eq 33 dX10_bundle_8 (by decide) (k32i (by omega)) (fun _ => ?_) (fun h53 => absurd h53 (by decide))
    refine kw_iconst dX10_bundle_33 ?_
    refine k2_iret dX10_bundle_34 rfl H
set_option maxRecDepth 4000 in
theorem v_X10_lies {G : KG} {S0 : KSh} (hL : kLay S0) {d : Nat} {P : Option AV → KMem → Prop} {c : KMem} {x1 x2 : Int} (r1 : -2147483648 ≤ x1 ∧ x1 < 2147483648) (r2 : -2147483648 ≤ x2 ∧ x2 < 2147483648) (H : (kStT c 3) ∧ (((kHs c 3 x1) → (((kHs c 3 x2) → (kC2 G S0 kM_X10_kindAt (d + 5) [kA 0, kI x2] c (kRI (fun z6 c7 => kC2 G S0 kM_X10_kindAt (d + 5) [kA 0, kI x1] c7 (kRI (fun z8 c9 => (k32 z8) ∧ ((z8 ≠ 2 → (P (some (kI (-3))) c9)) ∧ (z8 = 2 → ((k32 z6) ∧ (((kObj z6) → ((0 ≤ x2 ∧ x2 < 12) ∧ ((0 ≤ x1 ∧ x1 < 12) ∧ (kC2 G S0 kM_X8_bears (d + 5) [kA (3 + 2 + x2), kI z6, kA (3 + 2 + x1)] c9 (kRI (fun z17 c18 => (k32 z17) ∧ ((z17 = 0 → (P (some (kI 0)) c18)) ∧ (z17 ≠ 0 → (P (some (kI 1)) c18))))))))) ∧ (¬ (kObj z6) → (P (some (kI (-3))) c9)))))))))))) ∧ (¬ (kHs c 3 x2) → (P (some (kI (-1))) c)))) ∧ (¬ (kHs c 3 x1) → (P (some (kI (-1))) c)))) : kC2 G S0 kM_X10_lies (d + 6) [kA 0, kI x1, kI x2] c P := by
  refine k2_met (by decide) rfl (Nat.le_of_ble_eq_true rfl) (l0 := [some (kA 0), some (kI x1), some (kI x2), none]) rfl ?_
  refine kw_aload_n dX10_lies_0 rfl ?_
  refine k2_getR fd_X10_5 dX10_lies_1 wf_X10_29 (lsh_0 hL) (lrf_0_5 hL) ?_
  refine kw_iload_n dX10_lies_4 rfl ?_
  have o1 := H.1
  have H := H.2
  refine k2_callV1I (ci := 0) (N := 2) (T := TX1) rfl (llt_3 hL).1 m_X1_has dX10_lies_5 wl_X10_138 (Nat.le_of_ble_eq_true rfl) (s_X1_has hL (llt_3 hL) o1 (k32i (by omega)) (fun h2 => ⟨_, rfl, ?_⟩) (fun h2 => ⟨_, rfl, ?_⟩))
  · have H := H.1 h2
    refine kw_if_eq 22 dX10_lies_8 (by decide) (k32i (by omega)) (fun h3 => absurd h3 (by decide)) (fun _ => ?_)
    refine kw_aload_n dX10_lies_11 rfl ?_
    refine k2_getR fd_X10_5 dX10_lies_12 wf_X10_29 (lsh_0 hL) (lrf_0_5 hL) ?_
    refine kw_iload_n dX10_lies_15 rfl ?_
    refine k2_callV1I (ci := 0) (N := 2) (T := TX1) rfl (llt_3 hL).1 m_X1_has dX10_lies_16 wl_X10_138 (Nat.le_of_ble_eq_true rfl) (s_X1_has hL (llt_3 hL) o1 (k32i (by omega)) (fun h4 => ⟨_, rfl, ?_⟩) (fun h4 => ⟨_, rfl, ?_⟩))
    · have H := H.1 h4
      refine kw_if_ne 24 dX10_lies_19 (by decide) (k32i (by omega)) (fun _ => ?_) (fun h5 => absurd h5 (by decide))
      refine kw_aload_n dX10_lies_24 rfl ?_
      refine kw_iload_n dX10_lies_25 rfl ?_
      refine k2_callV1I (ci := 8) (N := 20) (T := TX10) rfl (lsh_0 hL) m_X10_kindAt dX10_lies_26 wl_X10_180 (Nat.le_of_ble_eq_true rfl) (kC2_mono H (fun r c7 H => ?_))
      obtain ⟨z6, rfl, H⟩ := H
      refine ⟨z6, rfl, ?_⟩
      refine kw_istore_n dX10_lies_29 (Nat.le_of_ble_eq_true rfl) ?_
      refine kw_aload_n dX10_lies_30 rfl ?_
      refine kw_iload_n dX10_lies_31 rfl ?_
      refine k2_callV1I (ci := 8) (N := 20) (T := TX10) rfl (lsh_0 hL) m_X10_kindAt dX10_lies_32 wl_X10_180 (Nat.le_of_ble_eq_true rfl) (kC2_mono H (fun r c9 H => ?_))
      obtain ⟨z8, rfl, H⟩ := H
      refine ⟨z8, rfl, ?_⟩
      refine kw_iconst dX10_lies_35 ?_
      have o11 := H.1
      have H := H.2
      refine kw_icmp_ne 46 dX10_lies_36 (by decide) o11 (k32i (by omega)) (fun h10 => ?_) (fun h10 => ?_)
      · have H := H.1 h10
        refine kw_bipush dX10_lies_46 (by decide) ?_
        refine k2_iret dX10_lies_48 rfl H
      · have H := H.2 h10
        refine kw_iload_n dX10_lies_39 rfl ?_
        have o12 := H.1
        have H := H.2
        refine k2_callS1I m_X8_isObject dX10_lies_40 wl_X10_189 (Nat.le_of_ble_eq_true rfl) (s_X8_isObject hL o12 (fun h13 => ⟨_, rfl, ?_⟩) (fun h13 => ⟨_, rfl, ?_⟩))
        · have H := H.1 h13
          refine kw_if_ne 49 dX10_lies_43 (by decide) (k32i (by omega)) (fun _ => ?_) (fun h14 => absurd h14 (by decide))
          refine kw_aload_n dX10_lies_49 rfl ?_
          refine k2_getR fd_X10_5 dX10_lies_50 wf_X10_29 (lsh_0 hL) (lrf_0_5 hL) ?_
          refine kw_iload_n dX10_lies_53 rfl ?_
          have o15 := H.1
          have H := H.2
          refine k2_callV1A (ci := 0) (N := 2) (T := TX1) rfl (llt_3 hL).1 m_X1_form dX10_lies_54 wl_X10_142 (Nat.le_of_ble_eq_true rfl) (s_X1_form hL (llt_3 hL) (by omega) o15 ⟨_, rfl, ?_⟩)
          refine kw_iload_n dX10_lies_57 rfl ?_
          refine kw_aload_n dX10_lies_58 rfl ?_
          refine k2_getR fd_X10_5 dX10_lies_59 wf_X10_29 (lsh_0 hL) (lrf_0_5 hL) ?_
          refine kw_iload_n dX10_lies_62 rfl ?_
          have o16 := H.1
          have H := H.2
          refine k2_callV1A (ci := 0) (N := 2) (T := TX1) rfl (llt_3 hL).1 m_X1_form dX10_lies_63 wl_X10_142 (Nat.le_of_ble_eq_true rfl) (s_X1_form hL (llt_3 hL) (by omega) o16 ⟨_, rfl, ?_⟩)
          refine k2_callS3I m_X8_bears dX10_lies_66 wl_X10_237 (Nat.le_of_ble_eq_true rfl) (kC2_mono H (fun r c18 H => ?_))
          obtain ⟨z17, rfl, H⟩ := H
          refine ⟨z17, rfl, ?_⟩
          have o20 := H.1
          have H := H.2
          refine kw_if_eq 76 dX10_lies_69 (by decide) o20 (fun h19 => ?_) (fun h19 => ?_)
          · have H := H.1 h19
            refine kw_iconst dX10_lies_76 ?_
            refine k2_iret dX10_lies_77 rfl H
          · have H := H.2 h19
            refine kw_iconst dX10_lies_72 ?_
            refine kw_goto 77 dX10_lies_73 (by decide) ?_
            refine k2_iret dX10_lies_77 rfl H
        · have H := H.2 h13
          refine kw_if_ne 49 dX10_lies_43 (by decide) (k32i (by omega)) (fun h21 => absurd h21 (by decide)) (fun _ => ?_)
          refine kw_bipush dX10_lies_46 (by decide) ?_
          refine k2_iret dX10_lies_48 rfl H
    · have H := H.2 h4
      refine kw_if_ne 24 dX10_lies_19 (by decide) (k32i (by omega)) (fun h22 => absurd h22 (by decide)) (fun _ => ?_)
      refine kw_iconst dX10_lies_22 ?_
      refine k2_iret dX10_lies_23 rfl H
  · have H := H.2 h2
    refine kw_if_eq 22 dX10_lies_8 (by decide) (k32i (by omega)) (fun _ => ?_) (fun h23 => absurd h23 (by decide))
    refine kw_iconst dX10_lies_22 ?_
    refine k2_iret dX10_lies_23 rfl H
set_option maxRecDepth 4000 in
theorem v_X10_distance {G : KG} {S0 : KSh} (hL : kLay S0) {d : Nat} {P : Option AV → KMem → Prop} {c : KMem} {x1 x2 x3 : Int} (r1 : -2147483648 ≤ x1 ∧ x1 < 2147483648) (r2 : -2147483648 ≤ x2 ∧ x2 < 2147483648) (r3 : -2147483648 ≤ x3 ∧ x3 < 2147483648) (H : (kStT c 3) ∧ (((kHs c 3 x1) → (((kHs c 3 x2) → ((x3 < 0 → (P (some (kL (-2000000000000000000))) c)) ∧ (0 ≤ x3 → ((x3 ≤ 1 → (kC2 G S0 kM_X10_kindAt (d + 5) [kA 0, kI x1] c (kRI (fun z8 c9 => (k32 z8) ∧ ((z8 ≠ 2 → (P (some (kL (-2000000000000000000))) c9)) ∧ (z8 = 2 → (kC2 G S0 kM_X10_kindAt (d + 5) [kA 0, kI x2] c9 (kRI (fun z12 c13 => (k32 z12) ∧ ((z12 = 2 → ((0 ≤ x1 ∧ x1 < 12) ∧ (kC2 G S0 kM_X9_take (d + 5) [kA 553, kA (3 + 2 + x1)] c13 (kRN (fun c18 => (0 ≤ x2 ∧ x2 < 12) ∧ (kC2 G S0 kM_X9_take (d + 5) [kA 554, kA (3 + 2 + x2)] c18 (kRN (fun c21 => kC2 G S0 kM_X9_longestOfMiddle (d + 5) [kA 553] c21 (kRL (fun z22 c23 => (k64 z22) ∧ ((1000 < z22 → (P (some (kL (-2000000000000000000))) c23)) ∧ (z22 ≤ 1000 → (kC2 G S0 kM_X9_longestOfMiddle (d + 5) [kA 554] c23 (kRL (fun z26 c27 => (k64 z26) ∧ ((z26 ≤ 1000 → (kC2 G S0 kM_X9_distanceTo (d + 5) [kA 553, kA 554, kI x3] c27 (kRL (fun z30 c31 => P (some (kL z30)) c31)))) ∧ (1000 < z26 → (P (some (kL (-2000000000000000000))) c27)))))))))))))))))) ∧ (z12 ≠ 2 → (P (some (kL (-2000000000000000000))) c13)))))))))))) ∧ (1 < x3 → (P (some (kL (-2000000000000000000))) c)))))) ∧ (¬ (kHs c 3 x2) → (P (some (kL (-2000000000000000000))) c)))) ∧ (¬ (kHs c 3 x1) → (P (some (kL (-2000000000000000000))) c)))) : kC2 G S0 kM_X10_distance (d + 6) [kA 0, kI x1, kI x2, kI x3] c P := by
  refine k2_met (by decide) rfl (Nat.le_of_ble_eq_true rfl) (l0 := [some (kA 0), some (kI x1), some (kI x2), some (kI x3)]) rfl ?_
  refine kw_aload_n dX10_distance_0 rfl ?_
  refine k2_getR fd_X10_5 dX10_distance_1 wf_X10_29 (lsh_0 hL) (lrf_0_5 hL) ?_
  refine kw_iload_n dX10_distance_4 rfl ?_
  have o1 := H.1
  have H := H.2
  refine k2_callV1I (ci := 0) (N := 2) (T := TX1) rfl (llt_3 hL).1 m_X1_has dX10_distance_5 wl_X10_138 (Nat.le_of_ble_eq_true rfl) (s_X1_has hL (llt_3 hL) o1 (k32i (by omega)) (fun h2 => ⟨_, rfl, ?_⟩) (fun h2 => ⟨_, rfl, ?_⟩))
  · have H := H.1 h2
    refine kw_if_eq 31 dX10_distance_8 (by decide) (k32i (by omega)) (fun h3 => absurd h3 (by decide)) (fun _ => ?_)
    refine kw_aload_n dX10_distance_11 rfl ?_
    refine k2_getR fd_X10_5 dX10_distance_12 wf_X10_29 (lsh_0 hL) (lrf_0_5 hL) ?_
    refine kw_iload_n dX10_distance_15 rfl ?_
    refine k2_callV1I (ci := 0) (N := 2) (T := TX1) rfl (llt_3 hL).1 m_X1_has dX10_distance_16 wl_X10_138 (Nat.le_of_ble_eq_true rfl) (s_X1_has hL (llt_3 hL) o1 (k32i (by omega)) (fun h4 => ⟨_, rfl, ?_⟩) (fun h4 => ⟨_, rfl, ?_⟩))
    · have H := H.1 h4
      refine kw_if_eq 31 dX10_distance_19 (by decide) (k32i (by omega)) (fun h5 => absurd h5 (by decide)) (fun _ => ?_)
      refine kw_iload_n dX10_distance_22 rfl ?_
      refine kw_if_lt 31 dX10_distance_23 (by decide) (k32i (by omega)) (fun h6 => ?_) (fun h6 => ?_)
      · have H := H.1 h6
        refine kw_ldc2 dX10_distance_31 wk_X10_208 ?_
        refine k2_lret dX10_distance_34 rfl H
      · have H := H.2 h6
        refine kw_iload_n dX10_distance_26 rfl ?_
        refine kw_iconst dX10_distance_27 ?_
        refine kw_icmp_le 35 dX10_distance_28 (by decide) (k32i (by omega)) (k32i (by omega)) (fun h7 => ?_) (fun h7 => ?_)
        · have H := H.1 h7
          refine kw_aload_n dX10_distance_35 rfl ?_
          refine kw_iload_n dX10_distance_36 rfl ?_
          refine k2_callV1I (ci := 8) (N := 20) (T := TX10) rfl (lsh_0 hL) m_X10_kindAt dX10_distance_37 wl_X10_180 (Nat.le_of_ble_eq_true rfl) (kC2_mono H (fun r c9 H => ?_))
          obtain ⟨z8, rfl, H⟩ := H
          refine ⟨z8, rfl, ?_⟩
          refine kw_iconst dX10_distance_40 ?_
          have o11 := H.1
          have H := H.2
          refine kw_icmp_ne 53 dX10_distance_41 (by decide) o11 (k32i (by omega)) (fun h10 => ?_) (fun h10 => ?_)
          · have H := H.1 h10
            refine kw_ldc2 dX10_distance_53 wk_X10_208 ?_
            refine k2_lret dX10_distance_56 rfl H
          · have H := H.2 h10
            refine kw_aload_n dX10_distance_44 rfl ?_
            refine kw_iload_n dX10_distance_45 rfl ?_
            refine k2_callV1I (ci := 8) (N := 20) (T := TX10) rfl (lsh_0 hL) m_X10_kindAt dX10_distance_46 wl_X10_180 (Nat.le_of_ble_eq_true rfl) (kC2_mono H (fun r c13 H => ?_))
            obtain ⟨z12, rfl, H⟩ := H
            refine ⟨z12, rfl, ?_⟩
            refine kw_iconst dX10_distance_49 ?_
            have o15 := H.1
            have H := H.2
            refine kw_icmp_eq 57 dX10_distance_50 (by decide) o15 (k32i (by omega)) (fun h14 => ?_) (fun h14 => ?_)
            · have H := H.1 h14
              refine kw_aload_n dX10_distance_57 rfl ?_
              refine k2_getR fd_X10_15 dX10_distance_58 wf_X10_84 (lsh_0 hL) (lrf_0_15 hL) ?_
              refine kw_aload_n dX10_distance_61 rfl ?_
              refine k2_getR fd_X10_5 dX10_distance_62 wf_X10_29 (lsh_0 hL) (lrf_0_5 hL) ?_
              refine kw_iload_n dX10_distance_65 rfl ?_
              have o16 := H.1
              have H := H.2
              refine k2_callV1A (ci := 0) (N := 2) (T := TX1) rfl (llt_3 hL).1 m_X1_form dX10_distance_66 wl_X10_142 (Nat.le_of_ble_eq_true rfl) (s_X1_form hL (llt_3 hL) (by omega) o16 ⟨_, rfl, ?_⟩)
              refine k2_callV1N (ci := 7) (N := 5) (T := TX9) rfl (lsh_553 hL) m_X9_take dX10_distance_69 wl_X10_219 (Nat.le_of_ble_eq_true rfl) (kC2_mono H (fun r c18 H => ?_))
              obtain ⟨rfl, H⟩ := H
              refine ⟨rfl, ?_⟩
              refine kw_aload_n dX10_distance_72 rfl ?_
              refine k2_getR fd_X10_16 dX10_distance_73 wf_X10_88 (lsh_0 hL) (lrf_0_16 hL) ?_
              refine kw_aload_n dX10_distance_76 rfl ?_
              refine k2_getR fd_X10_5 dX10_distance_77 wf_X10_29 (lsh_0 hL) (lrf_0_5 hL) ?_
              refine kw_iload_n dX10_distance_80 rfl ?_
              have o19 := H.1
              have H := H.2
              refine k2_callV1A (ci := 0) (N := 2) (T := TX1) rfl (llt_3 hL).1 m_X1_form dX10_distance_81 wl_X10_142 (Nat.le_of_ble_eq_true rfl) (s_X1_form hL (llt_3 hL) (by omega) o19 ⟨_, rfl, ?_⟩)
              refine k2_callV1N (ci := 7) (N := 5) (T := TX9) rfl (lsh_554 hL) m_X9_take dX10_distance_84 wl_X10_219 (Nat.le_of_ble_eq_true rfl) (kC2_mono H (fun r c21 H => ?_))
              obtain ⟨rfl, H⟩ := H
              refine ⟨rfl, ?_⟩
              refine kw_aload_n dX10_distance_87 rfl ?_
              refine k2_getR fd_X10_15 dX10_distance_88 wf_X10_84 (lsh_0 hL) (lrf_0_15 hL) ?_
              refine k2_callV0L (ci := 7) (N := 5) (T := TX9) rfl (lsh_553 hL) m_X9_longestOfMiddle dX10_distance_91 wl_X10_269 (Nat.le_of_ble_eq_true rfl) (kC2_mono H (fun r c23 H => ?_))
              obtain ⟨z22, rfl, H⟩ := H
              refine ⟨z22, rfl, ?_⟩
              refine kw_ldc2 dX10_distance_94 wk_X10_313 ?_
              have o24 := H.1
              have H := H.2
              refine kw_lcmp_gt 115 dX10_distance_97 dX10_distance_98 (by decide) o24 (k64i (by omega)) (fun h25 => ?_) (fun h25 => ?_)
              · have H := H.1 h25
                refine kw_ldc2 dX10_distance_115 wk_X10_208 ?_
                refine k2_lret dX10_distance_118 rfl H
              · have H := H.2 h25
                refine kw_aload_n dX10_distance_101 rfl ?_
                refine k2_getR fd_X10_16 dX10_distance_102 wf_X10_88 (lsh_0 hL) (lrf_0_16 hL) ?_
                refine k2_callV0L (ci := 7) (N := 5) (T := TX9) rfl (lsh_554 hL) m_X9_longestOfMiddle dX10_distance_105 wl_X10_269 (Nat.le_of_ble_eq_true rfl) (kC2_mono H (fun r c27 H => ?_))
                obtain ⟨z26, rfl, H⟩ := H
                refine ⟨z26, rfl, ?_⟩
                refine kw_ldc2 dX10_distance_108 wk_X10_313 ?_
                have o28 := H.1
                have H := H.2
                refine kw_lcmp_le 119 dX10_distance_111 dX10_distance_112 (by decide) o28 (k64i (by omega)) (fun h29 => ?_) (fun h29 => ?_)
                · have H := H.1 h29
                  refine kw_aload_n dX10_distance_119 rfl ?_
                  refine k2_getR fd_X10_15 dX10_distance_120 wf_X10_84 (lsh_0 hL) (lrf_0_15 hL) ?_
                  refine kw_aload_n dX10_distance_123 rfl ?_
                  refine k2_getR fd_X10_16 dX10_distance_124 wf_X10_88 (lsh_0 hL) (lrf_0_16 hL) ?_
                  refine kw_iload_n dX10_distance_127 rfl ?_
                  refine k2_callV2L (ci := 7) (N := 5) (T := TX9) rfl (lsh_553 hL) m_X9_distanceTo dX10_distance_128 wl_X10_315 (Nat.le_of_ble_eq_true rfl) (kC2_mono H (fun r c31 H => ?_))
                  obtain ⟨z30, rfl, H⟩ := H
                  refine ⟨z30, rfl, ?_⟩
                  refine k2_lret dX10_distance_131 rfl H
                · have H := H.2 h29
                  refine kw_ldc2 dX10_distance_115 wk_X10_208 ?_
                  refine k2_lret dX10_distance_118 rfl H
            · have H := H.2 h14
              refine kw_ldc2 dX10_distance_53 wk_X10_208 ?_
              refine k2_lret dX10_distance_56 rfl H
        · have H := H.2 h7
          refine kw_ldc2 dX10_distance_31 wk_X10_208 ?_
          refine k2_lret dX10_distance_34 rfl H
    · have H := H.2 h4
      refine kw_if_eq 31 dX10_distance_19 (by decide) (k32i (by omega)) (fun _ => ?_) (fun h32 => absurd h32 (by decide))
      refine kw_ldc2 dX10_distance_31 wk_X10_208 ?_
      refine k2_lret dX10_distance_34 rfl H
  · have H := H.2 h2
    refine kw_if_eq 31 dX10_distance_8 (by decide) (k32i (by omega)) (fun _ => ?_) (fun h33 => absurd h33 (by decide))
    refine kw_ldc2 dX10_distance_31 wk_X10_208 ?_
    refine k2_lret dX10_distance_34 rfl H
set_option maxRecDepth 4000 in
theorem v_X10_power {G : KG} {S0 : KSh} (hL : kLay S0) {d : Nat} {P : Option AV → KMem → Prop} {c : KMem} {x1 x2 x3 x4 : Int} (r1 : -2147483648 ≤ x1 ∧ x1 < 2147483648) (r2 : -2147483648 ≤ x2 ∧ x2 < 2147483648) (r3 : -2147483648 ≤ x3 ∧ x3 < 2147483648) (r4 : -2147483648 ≤ x4 ∧ x4 < 2147483648) (H : (kStT c 3) ∧ (((kHs c 3 x1) → (((99 < x2 ∨ x2 < -99) → (P (some (kL (-2000000000000000000))) c)) ∧ (¬ (99 < x2 ∨ x2 < -99) → (((99 < x3 ∨ x3 < -99) → (P (some (kL (-2000000000000000000))) c)) ∧ (¬ (99 < x3 ∨ x3 < -99) → ((x4 < 0 → (P (some (kL (-2000000000000000000))) c)) ∧ (0 ≤ x4 → ((x4 ≤ 1 → (kC2 G S0 kM_X10_kindAt (d + 5) [kA 0, kI x1] c (kRI (fun z12 c13 => (k32 z12) ∧ (((kMid z12) → ((0 ≤ x1 ∧ x1 < 12) ∧ (kC2 G S0 kM_X8_vectorOf (d + 5) [kA (3 + 2 + x1), kA 555] c13 (kRN (fun c19 => kC2 G S0 kM_X9_take (d + 5) [kA 553, kA 555] c19 (kRN (fun c21 => kC2 G S0 kM_X9_longestOfMiddle (d + 5) [kA 553] c21 (kRL (fun z22 c23 => (k64 z22) ∧ ((10000 < z22 → (P (some (kL (-3000000000000000000))) c23)) ∧ (z22 ≤ 10000 → (kC2 G S0 kM_X9_longestOfSize (d + 5) [kA 553] c23 (kRL (fun z26 c27 => (k64 z26) ∧ ((z26 ≤ 10000 → (kC2 G S0 kM_X9_powerOf (d + 5) [kA 553, kI x2, kI x3, kI x4] c27 (kRL (fun z30 c31 => P (some (kL z30)) c31)))) ∧ (10000 < z26 → (P (some (kL (-3000000000000000000))) c27))))))))))))))))) ∧ (¬ (kMid z12) → (P (some (kL (-3000000000000000000))) c13))))))) ∧ (1 < x4 → (P (some (kL (-2000000000000000000))) c)))))))))) ∧ (¬ (kHs c 3 x1) → (P (some (kL (-2000000000000000000))) c)))) : kC2 G S0 kM_X10_power (d + 6) [kA 0, kI x1, kI x2, kI x3, kI x4] c P := by
  refine k2_met (by decide) rfl (Nat.le_of_ble_eq_true rfl) (l0 := [some (kA 0), some (kI x1), some (kI x2), some (kI x3), some (kI x4)]) rfl ?_
  refine kw_aload_n dX10_power_0 rfl ?_
  refine k2_getR fd_X10_5 dX10_power_1 wf_X10_29 (lsh_0 hL) (lrf_0_5 hL) ?_
  refine kw_iload_n dX10_power_4 rfl ?_
  have o1 := H.1
  have H := H.2
  refine k2_callV1I (ci := 0) (N := 2) (T := TX1) rfl (llt_3 hL).1 m_X1_has dX10_power_5 wl_X10_138 (Nat.le_of_ble_eq_true rfl) (s_X1_has hL (llt_3 hL) o1 (k32i (by omega)) (fun h2 => ⟨_, rfl, ?_⟩) (fun h2 => ⟨_, rfl, ?_⟩))
  · have H := H.1 h2
    refine kw_if_eq 36 dX10_power_8 (by decide) (k32i (by omega)) (fun h3 => absurd h3 (by decide)) (fun _ => ?_)
    refine kw_iload_n dX10_power_11 rfl ?_
    refine k2_callS1I m_X10_isFar dX10_power_12 wl_X10_231 (Nat.le_of_ble_eq_true rfl) (s_X10_isFar hL (k32i (by omega)) (fun h4 => ⟨_, rfl, ?_⟩) (fun h4 => ⟨_, rfl, ?_⟩))
    · have H := H.1 h4
      refine kw_if_ne 36 dX10_power_15 (by decide) (k32i (by omega)) (fun _ => ?_) (fun h5 => absurd h5 (by decide))
      refine kw_ldc2 dX10_power_36 wk_X10_208 ?_
      refine k2_lret dX10_power_39 rfl H
    · have H := H.2 h4
      refine kw_if_ne 36 dX10_power_15 (by decide) (k32i (by omega)) (fun h6 => absurd h6 (by decide)) (fun _ => ?_)
      refine kw_iload_n dX10_power_18 rfl ?_
      refine k2_callS1I m_X10_isFar dX10_power_19 wl_X10_231 (Nat.le_of_ble_eq_true rfl) (s_X10_isFar hL (k32i (by omega)) (fun h7 => ⟨_, rfl, ?_⟩) (fun h7 => ⟨_, rfl, ?_⟩))
      · have H := H.1 h7
        refine kw_if_ne 36 dX10_power_22 (by decide) (k32i (by omega)) (fun _ => ?_) (fun h8 => absurd h8 (by decide))
        refine kw_ldc2 dX10_power_36 wk_X10_208 ?_
        refine k2_lret dX10_power_39 rfl H
      · have H := H.2 h7
        refine kw_if_ne 36 dX10_power_22 (by decide) (k32i (by omega)) (fun h9 => absurd h9 (by decide)) (fun _ => ?_)
        refine kw_iload dX10_power_25 rfl ?_
        refine kw_if_lt 36 dX10_power_27 (by decide) (k32i (by omega)) (fun h10 => ?_) (fun h10 => ?_)
        · have H := H.1 h10
          refine kw_ldc2 dX10_power_36 wk_X10_208 ?_
          refine k2_lret dX10_power_39 rfl H
        · have H := H.2 h10
          refine kw_iload dX10_power_30 rfl ?_
          refine kw_iconst dX10_power_32 ?_
          refine kw_icmp_le 40 dX10_power_33 (by decide) (k32i (by omega)) (k32i (by omega)) (fun h11 => ?_) (fun h11 => ?_)
          · have H := H.1 h11
            refine kw_aload_n dX10_power_40 rfl ?_
            refine kw_iload_n dX10_power_41 rfl ?_
            refine k2_callV1I (ci := 8) (N := 20) (T := TX10) rfl (lsh_0 hL) m_X10_kindAt dX10_power_42 wl_X10_180 (Nat.le_of_ble_eq_true rfl) (kC2_mono H (fun r c13 H => ?_))
            obtain ⟨z12, rfl, H⟩ := H
            refine ⟨z12, rfl, ?_⟩
            have o14 := H.1
            have H := H.2
            refine k2_callS1I m_X8_hasMiddle dX10_power_45 wl_X10_210 (Nat.le_of_ble_eq_true rfl) (s_X8_hasMiddle hL o14 (fun h15 => ⟨_, rfl, ?_⟩) (fun h15 => ⟨_, rfl, ?_⟩))
            · have H := H.1 h15
              refine kw_if_ne 55 dX10_power_48 (by decide) (k32i (by omega)) (fun _ => ?_) (fun h16 => absurd h16 (by decide))
              refine kw_aload_n dX10_power_55 rfl ?_
              refine k2_getR fd_X10_5 dX10_power_56 wf_X10_29 (lsh_0 hL) (lrf_0_5 hL) ?_
              refine kw_iload_n dX10_power_59 rfl ?_
              have o17 := H.1
              have H := H.2
              refine k2_callV1A (ci := 0) (N := 2) (T := TX1) rfl (llt_3 hL).1 m_X1_form dX10_power_60 wl_X10_142 (Nat.le_of_ble_eq_true rfl) (s_X1_form hL (llt_3 hL) (by omega) o17 ⟨_, rfl, ?_⟩)
              refine kw_aload_n dX10_power_63 rfl ?_
              refine k2_getR fd_X10_17 dX10_power_64 wf_X10_91 (lsh_0 hL) (lrf_0_17 hL) ?_
              refine k2_callS2N m_X8_vectorOf dX10_power_67 wl_X10_215 (Nat.le_of_ble_eq_true rfl) (kC2_mono H (fun r c19 H => ?_))
              obtain ⟨rfl, H⟩ := H
              refine ⟨rfl, ?_⟩
              refine kw_aload_n dX10_power_70 rfl ?_
              refine k2_getR fd_X10_15 dX10_power_71 wf_X10_84 (lsh_0 hL) (lrf_0_15 hL) ?_
              refine kw_aload_n dX10_power_74 rfl ?_
              refine k2_getR fd_X10_17 dX10_power_75 wf_X10_91 (lsh_0 hL) (lrf_0_17 hL) ?_
              refine k2_callV1N (ci := 7) (N := 5) (T := TX9) rfl (lsh_553 hL) m_X9_take dX10_power_78 wl_X10_219 (Nat.le_of_ble_eq_true rfl) (kC2_mono H (fun r c21 H => ?_))
              obtain ⟨rfl, H⟩ := H
              refine ⟨rfl, ?_⟩
              refine kw_aload_n dX10_power_81 rfl ?_
              refine k2_getR fd_X10_15 dX10_power_82 wf_X10_84 (lsh_0 hL) (lrf_0_15 hL) ?_
              refine k2_callV0L (ci := 7) (N := 5) (T := TX9) rfl (lsh_553 hL) m_X9_longestOfMiddle dX10_power_85 wl_X10_269 (Nat.le_of_ble_eq_true rfl) (kC2_mono H (fun r c23 H => ?_))
              obtain ⟨z22, rfl, H⟩ := H
              refine ⟨z22, rfl, ?_⟩
              refine kw_ldc2 dX10_power_88 wk_X10_273 ?_
              have o24 := H.1
              have H := H.2
              refine kw_lcmp_gt 109 dX10_power_91 dX10_power_92 (by decide) o24 (k64i (by omega)) (fun h25 => ?_) (fun h25 => ?_)
              · have H := H.1 h25
                refine kw_ldc2 dX10_power_109 wk_X10_213 ?_
                refine k2_lret dX10_power_112 rfl H
              · have H := H.2 h25
                refine kw_aload_n dX10_power_95 rfl ?_
                refine k2_getR fd_X10_15 dX10_power_96 wf_X10_84 (lsh_0 hL) (lrf_0_15 hL) ?_
                refine k2_callV0L (ci := 7) (N := 5) (T := TX9) rfl (lsh_553 hL) m_X9_longestOfSize dX10_power_99 wl_X10_275 (Nat.le_of_ble_eq_true rfl) (kC2_mono H (fun r c27 H => ?_))
                obtain ⟨z26, rfl, H⟩ := H
                refine ⟨z26, rfl, ?_⟩
                refine kw_ldc2 dX10_power_102 wk_X10_273 ?_
                have o28 := H.1
                have H := H.2
                refine kw_lcmp_le 113 dX10_power_105 dX10_power_106 (by decide) o28 (k64i (by omega)) (fun h29 => ?_) (fun h29 => ?_)
                · have H := H.1 h29
                  refine kw_aload_n dX10_power_113 rfl ?_
                  refine k2_getR fd_X10_15 dX10_power_114 wf_X10_84 (lsh_0 hL) (lrf_0_15 hL) ?_
                  refine kw_iload_n dX10_power_117 rfl ?_
                  refine kw_iload_n dX10_power_118 rfl ?_
                  refine kw_iload dX10_power_119 rfl ?_
                  refine k2_callV3L (ci := 7) (N := 5) (T := TX9) rfl (lsh_553 hL) m_X9_powerOf dX10_power_121 wl_X10_278 (Nat.le_of_ble_eq_true rfl) (kC2_mono H (fun r c31 H => ?_))
                  obtain ⟨z30, rfl, H⟩ := H
                  refine ⟨z30, rfl, ?_⟩
                  refine k2_lret dX10_power_124 rfl H
                · have H := H.2 h29
                  refine kw_ldc2 dX10_power_109 wk_X10_213 ?_
                  refine k2_lret dX10_power_112 rfl H
            · have H := H.2 h15
              refine kw_if_ne 55 dX10_power_48 (by decide) (k32i (by omega)) (fun h32 => absurd h32 (by decide)) (fun _ => ?_)
              refine kw_ldc2 dX10_power_51 wk_X10_213 ?_
              refine k2_lret dX10_power_54 rfl H
          · have H := H.2 h11
            refine kw_ldc2 dX10_power_36 wk_X10_208 ?_
            refine k2_lret dX10_power_39 rfl H
  · have H := H.2 h2
    refine kw_if_eq 36 dX10_power_8 (by decide) (k32i (by omega)) (fun _ => ?_) (fun h33 => absurd h33 (by decide))
    refine kw_ldc2 dX10_power_36 wk_X10_208 ?_
    refine k2_lret dX10_power_39 rfl H
