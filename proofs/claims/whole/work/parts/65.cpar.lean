set_option maxRecDepth 4000 in
theorem v_X7_outcome {G : KG} {S0 : KSh} (hL : kLay S0) {d : Nat} {P : Option AV → KMem → Prop} {c : KMem}  (H : P (some (kA 171)) c) : kC2 G S0 kM_X7_outcome d [kA 170] c P := by
  refine k2_met (by decide) rfl (Nat.le_of_ble_eq_true rfl) (l0 := [some (kA 170)]) rfl ?_
  refine kw_aload_n dX7_outcome_0 rfl ?_
  refine k2_getR fd_X7_0 dX7_outcome_1 wf_X7_12 (lsh_170 hL) (lrf_170_0 hL) ?_
  refine k2_aret dX7_outcome_4 (by first | exact Or.inl ⟨_, rfl⟩ | exact Or.inr ⟨_, rfl⟩) (by omega) H
set_option maxRecDepth 4000 in
theorem v_X7_toldFault {G : KG} {S0 : KSh} (hL : kLay S0) {d : Nat} {P : Option AV → KMem → Prop} {c : KMem}  (H : P (some (kI (((-1000) * (c 170 10)) - (c 170 11)))) c) : kC2 G S0 kM_X7_toldFault d [kA 170] c P := by
  refine k2_met (by decide) rfl (Nat.le_of_ble_eq_true rfl) (l0 := [some (kA 170)]) rfl ?_
  refine kw_sipush dX7_toldFault_0 (by decide) ?_
  refine kw_aload_n dX7_toldFault_3 rfl ?_
  refine k2_getI fd_X7_10 dX7_toldFault_4 wf_X7_50 (lsh_170 hL) ?_
  refine kw_imul dX7_toldFault_7 ?_
  refine kw_aload_n dX7_toldFault_8 rfl ?_
  refine k2_getI fd_X7_11 dX7_toldFault_9 wf_X7_53 (lsh_170 hL) ?_
  refine kw_isub dX7_toldFault_12 ?_
  refine k2_iret dX7_toldFault_13 rfl H
set_option maxRecDepth 4000 in
theorem v_X7_fails {G : KG} {S0 : KSh} (hL : kLay S0) {d : Nat} {P : Option AV → KMem → Prop} {c : KMem} {x1 x2 : Int} (r1 : -2147483648 ≤ x1 ∧ x1 < 2147483648) (r2 : -2147483648 ≤ x2 ∧ x2 < 2147483648) (H : P (some (kI 0)) (kup (kup c 170 10 x1) 170 11 x2)) : kC2 G S0 kM_X7_fails d [kA 170, kI x1, kI x2] c P := by
  refine k2_met (by decide) rfl (Nat.le_of_ble_eq_true rfl) (l0 := [some (kA 170), some (kI x1), some (kI x2)]) rfl ?_
  refine kw_aload_n dX7_fails_0 rfl ?_
  refine kw_iload_n dX7_fails_1 rfl ?_
  refine k2_putI fp_X7_10 dX7_fails_2 wf_X7_50 (lsh_170 hL) ?_
  refine kw_aload_n dX7_fails_5 rfl ?_
  refine kw_iload_n dX7_fails_6 rfl ?_
  refine k2_putI fp_X7_11 dX7_fails_7 wf_X7_53 (lsh_170 hL) ?_
  refine kw_iconst dX7_fails_10 ?_
  refine k2_zret dX7_fails_11 rfl (Or.inl rfl) H
set_option maxRecDepth 4000 in
theorem v_X7_next {G : KG} {S0 : KSh} (hL : kLay S0) {d : Nat} {P : Option AV → KMem → Prop} {c : KMem}  (H : (k32 (c 170 9)) ∧ (((c 170 9) < 0 → (P (some (kI (-1))) c)) ∧ (0 ≤ (c 170 9) → ((k32 (c 170 8)) ∧ (((c 170 8) ≤ (c 170 9) → (P (some (kI (-1))) c)) ∧ ((c 170 9) < (c 170 8) → (∃ n5 : Nat, S0.2.1 (c 170 7) = (1, n5) ∧ n5 < 2147483648 ∧ 0 ≤ (c 170 9) ∧ (c 170 9) < n5 ∧ (P (some (kI (c (c 170 7) (c 170 9)))) c)))))))) : kC2 G S0 kM_X7_next d [kA 170] c P := by
  refine k2_met (by decide) rfl (Nat.le_of_ble_eq_true rfl) (l0 := [some (kA 170)]) rfl ?_
  refine kw_aload_n dX7_next_0 rfl ?_
  refine k2_getI fd_X7_9 dX7_next_1 wf_X7_47 (lsh_170 hL) ?_
  have o2 := H.1
  have H := H.2
  refine kw_if_lt 30 dX7_next_4 (by decide) o2 (fun h1 => ?_) (fun h1 => ?_)
  · have H := H.1 h1
    refine kw_iconst dX7_next_30 ?_
    refine k2_iret dX7_next_31 rfl H
  · have H := H.2 h1
    refine kw_aload_n dX7_next_7 rfl ?_
    refine k2_getI fd_X7_9 dX7_next_8 wf_X7_47 (lsh_170 hL) ?_
    refine kw_aload_n dX7_next_11 rfl ?_
    refine k2_getI fd_X7_8 dX7_next_12 wf_X7_43 (lsh_170 hL) ?_
    have o4 := H.1
    have H := H.2
    refine kw_icmp_ge 30 dX7_next_15 (by decide) o2 o4 (fun h3 => ?_) (fun h3 => ?_)
    · have H := H.1 h3
      refine kw_iconst dX7_next_30 ?_
      refine k2_iret dX7_next_31 rfl H
    · have H := H.2 h3
      refine kw_aload_n dX7_next_18 rfl ?_
      refine k2_getD fd_X7_7 dX7_next_19 wf_X7_39 (lsh_170 hL) ?_
      refine kw_aload_n dX7_next_22 rfl ?_
      refine k2_getI fd_X7_9 dX7_next_23 wf_X7_47 (lsh_170 hL) ?_
      obtain ⟨n5, hsn5, hnn5, hin5, hjn5, H⟩ := H
      refine k2_iald dX7_next_26 hsn5 hnn5 ⟨hin5, hjn5⟩ ?_
      refine kw_goto 31 dX7_next_27 (by decide) ?_
      refine k2_iret dX7_next_31 rfl H
set_option maxRecDepth 4000 in
theorem v_X7_target {G : KG} {S0 : KSh} (hL : kLay S0) {d : Nat} {P : Option AV → KMem → Prop} {c : KMem}  (H : kC2 G S0 kM_X7_next d [kA 170] c (kRI (fun z1 c2 => (k32 (z1 - 65)) ∧ (((z1 - 65) < 0 → (kC2 G S0 kM_X7_fails d [kA 170, kI 1, kI (c2 170 9)] c2 (kRI (fun z7 c8 => P (some (kI (-1))) c8)))) ∧ (0 ≤ (z1 - 65) → ((12 ≤ (z1 - 65) → (kC2 G S0 kM_X7_fails d [kA 170, kI 1, kI (c2 170 9)] c2 (kRI (fun z12 c13 => P (some (kI (-1))) c13)))) ∧ ((z1 - 65) < 12 → (kC2 G S0 kM_X7_next d [kA 170] (kup c2 170 9 ((c2 170 9) + 1)) (kRI (fun z16 c17 => (k32 z16) ∧ ((z16 ≠ 61 → (kC2 G S0 kM_X7_fails d [kA 170, kI 1, kI (c17 170 9)] c17 (kRI (fun z20 c21 => P (some (kI (-1))) c21)))) ∧ (z16 = 61 → (P (some (kI (z1 - 65))) (kup c17 170 9 ((c17 170 9) + 1))))))))))))))) : kC2 G S0 kM_X7_target (d + 1) [kA 170] c P := by
  refine k2_met (by decide) rfl (Nat.le_of_ble_eq_true rfl) (l0 := [some (kA 170), none, none]) rfl ?_
  refine kw_aload_n dX7_target_0 rfl ?_
  refine k2_callV0I (ci := 6) (N := 12) (T := TX7) rfl (lsh_170 hL) m_X7_next dX7_target_1 wl_X7_81 (Nat.le_of_ble_eq_true rfl) (kC2_mono H (fun r c2 H => ?_))
  obtain ⟨z1, rfl, H⟩ := H
  refine ⟨z1, rfl, ?_⟩
  refine kw_bipush dX7_target_4 (by decide) ?_
  refine kw_isub dX7_target_6 ?_
  refine kw_istore_n dX7_target_7 (Nat.le_of_ble_eq_true rfl) ?_
  refine kw_iload_n dX7_target_8 rfl ?_
  have o4 := H.1
  have H := H.2
  refine kw_if_lt 22 dX7_target_9 (by decide) o4 (fun h3 => ?_) (fun h3 => ?_)
  · have H := H.1 h3
    refine kw_iconst dX7_target_22 ?_
    refine kw_istore_n dX7_target_23 (Nat.le_of_ble_eq_true rfl) ?_
    refine kw_iload_n dX7_target_24 rfl ?_
    refine kw_if_eq 38 dX7_target_25 (by decide) (k32i (by omega)) (fun _ => ?_) (fun h5 => absurd h5 (by decide))
    refine kw_iload_n dX7_target_38 rfl ?_
    refine kw_if_eq 63 dX7_target_39 (by decide) (k32i (by omega)) (fun _ => ?_) (fun h6 => absurd h6 (by decide))
    refine kw_aload_n dX7_target_63 rfl ?_
    refine kw_iconst dX7_target_64 ?_
    refine kw_aload_n dX7_target_65 rfl ?_
    refine k2_getI fd_X7_9 dX7_target_66 wf_X7_47 (lsh_170 hL) ?_
    refine k2_callV2I (ci := 6) (N := 12) (T := TX7) rfl (lsh_170 hL) m_X7_fails dX7_target_69 wl_X7_84 (Nat.le_of_ble_eq_true rfl) (kC2_mono H (fun r c8 H => ?_))
    obtain ⟨z7, rfl, H⟩ := H
    refine ⟨z7, rfl, ?_⟩
    refine kw_pop dX7_target_72 rfl ?_
    refine kw_iconst dX7_target_73 ?_
    refine k2_iret dX7_target_74 rfl H
  · have H := H.2 h3
    refine kw_iload_n dX7_target_12 rfl ?_
    refine kw_bipush dX7_target_13 (by decide) ?_
    refine kw_icmp_ge 22 dX7_target_15 (by decide) o4 (k32i (by omega)) (fun h9 => ?_) (fun h9 => ?_)
    · have H := H.1 h9
      refine kw_iconst dX7_target_22 ?_
      refine kw_istore_n dX7_target_23 (Nat.le_of_ble_eq_true rfl) ?_
      refine kw_iload_n dX7_target_24 rfl ?_
      refine kw_if_eq 38 dX7_target_25 (by decide) (k32i (by omega)) (fun _ => ?_) (fun h10 => absurd h10 (by decide))
      refine kw_iload_n dX7_target_38 rfl ?_
      refine kw_if_eq 63 dX7_target_39 (by decide) (k32i (by omega)) (fun _ => ?_) (fun h11 => absurd h11 (by decide))
      refine kw_aload_n dX7_target_63 rfl ?_
      refine kw_iconst dX7_target_64 ?_
      refine kw_aload_n dX7_target_65 rfl ?_
      refine k2_getI fd_X7_9 dX7_target_66 wf_X7_47 (lsh_170 hL) ?_
      refine k2_callV2I (ci := 6) (N := 12) (T := TX7) rfl (lsh_170 hL) m_X7_fails dX7_target_69 wl_X7_84 (Nat.le_of_ble_eq_true rfl) (kC2_mono H (fun r c13 H => ?_))
      obtain ⟨z12, rfl, H⟩ := H
      refine ⟨z12, rfl, ?_⟩
      refine kw_pop dX7_target_72 rfl ?_
      refine kw_iconst dX7_target_73 ?_
      refine k2_iret dX7_target_74 rfl H
    · have H := H.2 h9
      refine kw_iconst dX7_target_18 ?_
      refine kw_goto 23 dX7_target_19 (by decide) ?_
      refine kw_istore_n dX7_target_23 (Nat.le_of_ble_eq_true rfl) ?_
      refine kw_iload_n dX7_target_24 rfl ?_
      refine kw_if_eq 38 dX7_target_25 (by decide) (k32i (by omega)) (fun h14 => absurd h14 (by decide)) (fun _ => ?_)
      refine kw_aload_n dX7_target_28 rfl ?_
      refine kw_dup dX7_target_29 rfl ?_
      refine k2_getI fd_X7_9 dX7_target_30 wf_X7_47 (lsh_170 hL) ?_
      refine kw_iconst dX7_target_33 ?_
      refine kw_iadd dX7_target_34 ?_
      refine k2_putI fp_X7_9 dX7_target_35 wf_X7_47 (lsh_170 hL) ?_
      refine kw_iload_n dX7_target_38 rfl ?_
      refine kw_if_eq 63 dX7_target_39 (by decide) (k32i (by omega)) (fun h15 => absurd h15 (by decide)) (fun _ => ?_)
      refine kw_aload_n dX7_target_42 rfl ?_
      refine k2_callV0I (ci := 6) (N := 12) (T := TX7) rfl (lsh_170 hL) m_X7_next dX7_target_43 wl_X7_81 (Nat.le_of_ble_eq_true rfl) (kC2_mono H (fun r c17 H => ?_))
      obtain ⟨z16, rfl, H⟩ := H
      refine ⟨z16, rfl, ?_⟩
      refine kw_bipush dX7_target_46 (by decide) ?_
      have o19 := H.1
      have H := H.2
      refine kw_icmp_ne 63 dX7_target_48 (by decide) o19 (k32i (by omega)) (fun h18 => ?_) (fun h18 => ?_)
      · have H := H.1 h18
        refine kw_aload_n dX7_target_63 rfl ?_
        refine kw_iconst dX7_target_64 ?_
        refine kw_aload_n dX7_target_65 rfl ?_
        refine k2_getI fd_X7_9 dX7_target_66 wf_X7_47 (lsh_170 hL) ?_
        refine k2_callV2I (ci := 6) (N := 12) (T := TX7) rfl (lsh_170 hL) m_X7_fails dX7_target_69 wl_X7_84 (Nat.le_of_ble_eq_true rfl) (kC2_mono H (fun r c21 H => ?_))
        obtain ⟨z20, rfl, H⟩ := H
        refine ⟨z20, rfl, ?_⟩
        refine kw_pop dX7_target_72 rfl ?_
        refine kw_iconst dX7_target_73 ?_
        refine k2_iret dX7_target_74 rfl H
      · have H := H.2 h18
        refine kw_aload_n dX7_target_51 rfl ?_
        refine kw_dup dX7_target_52 rfl ?_
        refine k2_getI fd_X7_9 dX7_target_53 wf_X7_47 (lsh_170 hL) ?_
        refine kw_iconst dX7_target_56 ?_
        refine kw_iadd dX7_target_57 ?_
        refine k2_putI fp_X7_9 dX7_target_58 wf_X7_47 (lsh_170 hL) ?_
        refine kw_iload_n dX7_target_61 rfl ?_
        refine k2_iret dX7_target_62 rfl H
set_option maxRecDepth 4000 in
theorem v_X7_isSign {G : KG} {S0 : KSh} (hL : kLay S0) {d : Nat} {P : Option AV → KMem → Prop} {c : KMem} {x0 : Int} (r0 : -2147483648 ≤ x0 ∧ x0 < 2147483648) (H : (x0 = 42 → (P (some (kI 1)) c)) ∧ (x0 ≠ 42 → ((x0 = 94 → (P (some (kI 1)) c)) ∧ (x0 ≠ 94 → ((x0 = 46 → (P (some (kI 1)) c)) ∧ (x0 ≠ 46 → ((x0 = 38 → (P (some (kI 1)) c)) ∧ (x0 ≠ 38 → ((x0 ≠ 62 → (P (some (kI 0)) c)) ∧ (x0 = 62 → (P (some (kI 1)) c))))))))))) : kC2 G S0 kM_X7_isSign d [kI x0] c P := by
  refine k2_met (by decide) rfl (Nat.le_of_ble_eq_true rfl) (l0 := [some (kI x0)]) rfl ?_
  refine kw_iload_n dX7_isSign_0 rfl ?_
  refine kw_bipush dX7_isSign_1 (by decide) ?_
  refine kw_icmp_eq 30 dX7_isSign_3 (by decide) (k32i (by omega)) (k32i (by omega)) (fun h1 => ?_) (fun h1 => ?_)
  · have H := H.1 h1
    refine kw_iconst dX7_isSign_30 ?_
    refine kw_goto 35 dX7_isSign_31 (by decide) ?_
    refine k2_zret dX7_isSign_35 rfl (Or.inr rfl) H
  · have H := H.2 h1
    refine kw_iload_n dX7_isSign_6 rfl ?_
    refine kw_bipush dX7_isSign_7 (by decide) ?_
    refine kw_icmp_eq 30 dX7_isSign_9 (by decide) (k32i (by omega)) (k32i (by omega)) (fun h2 => ?_) (fun h2 => ?_)
    · have H := H.1 h2
      refine kw_iconst dX7_isSign_30 ?_
      refine kw_goto 35 dX7_isSign_31 (by decide) ?_
      refine k2_zret dX7_isSign_35 rfl (Or.inr rfl) H
    · have H := H.2 h2
      refine kw_iload_n dX7_isSign_12 rfl ?_
      refine kw_bipush dX7_isSign_13 (by decide) ?_
      refine kw_icmp_eq 30 dX7_isSign_15 (by decide) (k32i (by omega)) (k32i (by omega)) (fun h3 => ?_) (fun h3 => ?_)
      · have H := H.1 h3
        refine kw_iconst dX7_isSign_30 ?_
        refine kw_goto 35 dX7_isSign_31 (by decide) ?_
        refine k2_zret dX7_isSign_35 rfl (Or.inr rfl) H
      · have H := H.2 h3
        refine kw_iload_n dX7_isSign_18 rfl ?_
        refine kw_bipush dX7_isSign_19 (by decide) ?_
        refine kw_icmp_eq 30 dX7_isSign_21 (by decide) (k32i (by omega)) (k32i (by omega)) (fun h4 => ?_) (fun h4 => ?_)
        · have H := H.1 h4
          refine kw_iconst dX7_isSign_30 ?_
          refine kw_goto 35 dX7_isSign_31 (by decide) ?_
          refine k2_zret dX7_isSign_35 rfl (Or.inr rfl) H
        · have H := H.2 h4
          refine kw_iload_n dX7_isSign_24 rfl ?_
          refine kw_bipush dX7_isSign_25 (by decide) ?_
          refine kw_icmp_ne 34 dX7_isSign_27 (by decide) (k32i (by omega)) (k32i (by omega)) (fun h5 => ?_) (fun h5 => ?_)
          · have H := H.1 h5
            refine kw_iconst dX7_isSign_34 ?_
            refine k2_zret dX7_isSign_35 rfl (Or.inl rfl) H
          · have H := H.2 h5
            refine kw_iconst dX7_isSign_30 ?_
            refine kw_goto 35 dX7_isSign_31 (by decide) ?_
            refine k2_zret dX7_isSign_35 rfl (Or.inr rfl) H
set_option maxRecDepth 4000 in
theorem v_X7_combine {G : KG} {S0 : KSh} (hL : kLay S0) {d : Nat} {P : Option AV → KMem → Prop} {c : KMem} {x1 x2 x3 : Int} (r1 : -2147483648 ≤ x1 ∧ x1 < 2147483648) (hx2 : S0.2.1 x2 = (2, 16)) (hx3 : S0.2.1 x3 = (2, 16)) (H : (x1 ≠ 38 → ((x1 ≠ 62 → ((x1 ≠ 94 → ((x1 ≠ 46 → (kW2 G S0 kM_X7_combine (d + 3) 69 [some (kA 170), none, some (kA x2), some (kA x3), none] [kI 0] c P)) ∧ (x1 = 46 → (kW2 G S0 kM_X7_combine (d + 3) 69 [some (kA 170), none, some (kA x2), some (kA x3), none] [kI 2] c P)))) ∧ (x1 = 94 → (kW2 G S0 kM_X7_combine (d + 3) 69 [some (kA 170), none, some (kA x2), some (kA x3), none] [kI 1] c P)))) ∧ (x1 = 62 → (kC2 G S0 kM_X3_mirror (d + 2) [kA x2, kA x3, kA 210, kA 211, kA 212] c (kRI (fun z5 c6 => (z5 = 0 ∨ z5 = 1) ∧ (P (some (kI z5)) c6))))))) ∧ (x1 = 38 → (kC2 G S0 kM_X0_meet (d + 2) [kA x2, kA x3, kA 210, kA 211, kA 212] c (kRI (fun z8 c9 => (z8 = 0 ∨ z8 = 1) ∧ (P (some (kI z8)) c9)))))) : kC2 G S0 kM_X7_combine (d + 3) [kA 170, kI x1, kA x2, kA x3] c P := by
  refine k2_met (by decide) rfl (Nat.le_of_ble_eq_true rfl) (l0 := [some (kA 170), some (kI x1), some (kA x2), some (kA x3), none]) rfl ?_
  refine kw_iload_n dX7_combine_0 rfl ?_
  refine kw_bipush dX7_combine_1 (by decide) ?_
  refine kw_icmp_ne 24 dX7_combine_3 (by decide) (k32i (by omega)) (k32i (by omega)) (fun h1 => ?_) (fun h1 => ?_)
  · have H := H.1 h1
    refine kw_iload_n dX7_combine_24 rfl ?_
    refine kw_bipush dX7_combine_25 (by decide) ?_
    refine kw_icmp_ne 48 dX7_combine_27 (by decide) (k32i (by omega)) (k32i (by omega)) (fun h2 => ?_) (fun h2 => ?_)
    · have H := H.1 h2
      refine kw_iload_n dX7_combine_48 rfl ?_
      refine kw_bipush dX7_combine_49 (by decide) ?_
      refine kw_icmp_ne 58 dX7_combine_51 (by decide) (k32i (by omega)) (k32i (by omega)) (fun h3 => ?_) (fun h3 => ?_)
      · have H := H.1 h3
        refine kw_iload_n dX7_combine_58 rfl ?_
        refine kw_bipush dX7_combine_59 (by decide) ?_
        refine kw_icmp_ne 68 dX7_combine_61 (by decide) (k32i (by omega)) (k32i (by omega)) (fun h4 => ?_) (fun h4 => ?_)
        · have H := H.1 h4
          refine kw_iconst dX7_combine_68 ?_
          exact kw_forget (ls' := [some (kA 170), none, some (kA x2), some (kA x3), none]) ⟨Or.inr rfl, ⟨Or.inl rfl, ⟨Or.inr rfl, ⟨Or.inr rfl, ⟨Or.inr rfl, trivial⟩⟩⟩⟩⟩ H
        · have H := H.2 h4
          refine kw_iconst dX7_combine_64 ?_
          refine kw_goto 69 dX7_combine_65 (by decide) ?_
          exact kw_forget (ls' := [some (kA 170), none, some (kA x2), some (kA x3), none]) ⟨Or.inr rfl, ⟨Or.inl rfl, ⟨Or.inr rfl, ⟨Or.inr rfl, ⟨Or.inr rfl, trivial⟩⟩⟩⟩⟩ H
      · have H := H.2 h3
        refine kw_iconst dX7_combine_54 ?_
        refine kw_goto 69 dX7_combine_55 (by decide) ?_
        exact kw_forget (ls' := [some (kA 170), none, some (kA x2), some (kA x3), none]) ⟨Or.inr rfl, ⟨Or.inl rfl, ⟨Or.inr rfl, ⟨Or.inr rfl, ⟨Or.inr rfl, trivial⟩⟩⟩⟩⟩ H
    · have H := H.2 h2
      refine kw_aload_n dX7_combine_30 rfl ?_
      refine kw_aload_n dX7_combine_31 rfl ?_
      refine kw_aload_n dX7_combine_32 rfl ?_
      refine k2_getR fd_X7_4 dX7_combine_33 wf_X7_29 (lsh_170 hL) (lrf_170_4 hL) ?_
      refine kw_aload_n dX7_combine_36 rfl ?_
      refine k2_getR fd_X7_5 dX7_combine_37 wf_X7_33 (lsh_170 hL) (lrf_170_5 hL) ?_
      refine kw_aload_n dX7_combine_40 rfl ?_
      refine k2_getR fd_X7_6 dX7_combine_41 wf_X7_36 (lsh_170 hL) (lrf_170_6 hL) ?_
      refine k2_callS5I m_X3_mirror dX7_combine_44 wl_X7_119 (Nat.le_of_ble_eq_true rfl) (kC2_mono H (fun r c6 H => ?_))
      obtain ⟨z5, rfl, H⟩ := H
      refine ⟨z5, rfl, ?_⟩
      have o7 := H.1
      have H := H.2
      refine k2_zret dX7_combine_47 rfl o7 H
  · have H := H.2 h1
    refine kw_aload_n dX7_combine_6 rfl ?_
    refine kw_aload_n dX7_combine_7 rfl ?_
    refine kw_aload_n dX7_combine_8 rfl ?_
    refine k2_getR fd_X7_4 dX7_combine_9 wf_X7_29 (lsh_170 hL) (lrf_170_4 hL) ?_
    refine kw_aload_n dX7_combine_12 rfl ?_
    refine k2_getR fd_X7_5 dX7_combine_13 wf_X7_33 (lsh_170 hL) (lrf_170_5 hL) ?_
    refine kw_aload_n dX7_combine_16 rfl ?_
    refine k2_getR fd_X7_6 dX7_combine_17 wf_X7_36 (lsh_170 hL) (lrf_170_6 hL) ?_
    refine k2_callS5I m_X0_meet dX7_combine_20 wl_X7_115 (Nat.le_of_ble_eq_true rfl) (kC2_mono H (fun r c9 H => ?_))
    obtain ⟨z8, rfl, H⟩ := H
    refine ⟨z8, rfl, ?_⟩
    have o10 := H.1
    have H := H.2
    refine k2_zret dX7_combine_23 rfl o10 H
set_option maxRecDepth 4000 in
theorem v_X7_combine_69 {G : KG} {S0 : KSh} (hL : kLay S0) {d : Nat} {P : Option AV → KMem → Prop} {c : KMem} {y0 : Int} {x2 x3 : Int} (hx2 : S0.2.1 x2 = (2, 16)) (hx3 : S0.2.1 x3 = (2, 16)) (H : kC2 G S0 kM_X0_multiply (d + 2) [kI y0, kA x2, kA x3, kA 212] c (kRN (fun c12 => kC2 G S0 kM_X0_isWithinBound (d + 2) [kA 212] c12 (kRI (fun z13 c14 => (z13 = 0 ∨ z13 = 1) ∧ (P (some (kI z13)) c14)))))) : kW2 G S0 kM_X7_combine (d + 3) 69 [some (kA 170), none, some (kA x2), some (kA x3), none] [kI y0] c P := by
  refine kw_istore dX7_combine_69 (Nat.le_of_ble_eq_true rfl) ?_
  refine kw_iload dX7_combine_71 rfl ?_
  refine kw_aload_n dX7_combine_73 rfl ?_
  refine kw_aload_n dX7_combine_74 rfl ?_
  refine kw_aload_n dX7_combine_75 rfl ?_
  refine k2_getR fd_X7_6 dX7_combine_76 wf_X7_36 (lsh_170 hL) (lrf_170_6 hL) ?_
  refine k2_callS4N m_X0_multiply dX7_combine_79 wl_X7_124 (Nat.le_of_ble_eq_true rfl) (kC2_mono H (fun r c12 H => ?_))
  obtain ⟨rfl, H⟩ := H
  refine ⟨rfl, ?_⟩
  refine kw_aload_n dX7_combine_82 rfl ?_
  refine k2_getR fd_X7_6 dX7_combine_83 wf_X7_36 (lsh_170 hL) (lrf_170_6 hL) ?_
  refine k2_callS1I m_X0_isWithinBound dX7_combine_86 wl_X7_101 (Nat.le_of_ble_eq_true rfl) (kC2_mono H (fun r c14 H => ?_))
  obtain ⟨z13, rfl, H⟩ := H
  refine ⟨z13, rfl, ?_⟩
  have o15 := H.1
  have H := H.2
  refine k2_zret dX7_combine_89 rfl o15 H
set_option maxRecDepth 4000 in
theorem v_X7_isOpener {G : KG} {S0 : KSh} (hL : kLay S0) {d : Nat} {P : Option AV → KMem → Prop} {c : KMem} {x0 : Int} (r0 : -2147483648 ≤ x0 ∧ x0 < 2147483648) (H : (x0 = 40 → (P (some (kI 1)) c)) ∧ (x0 ≠ 40 → ((x0 = 126 → (P (some (kI 1)) c)) ∧ (x0 ≠ 126 → ((x0 = 35 → (P (some (kI 1)) c)) ∧ (x0 ≠ 35 → ((x0 = 33 → (P (some (kI 1)) c)) ∧ (x0 ≠ 33 → ((x0 = 45 → (P (some (kI 1)) c)) ∧ (x0 ≠ 45 → ((x0 ≠ 103 → (P (some (kI 0)) c)) ∧ (x0 = 103 → (P (some (kI 1)) c))))))))))))) : kC2 G S0 kM_X7_isOpener d [kI x0] c P := by
  refine k2_met (by decide) rfl (Nat.le_of_ble_eq_true rfl) (l0 := [some (kI x0)]) rfl ?_
  refine kw_iload_n dX7_isOpener_0 rfl ?_
  refine kw_bipush dX7_isOpener_1 (by decide) ?_
  refine kw_icmp_eq 36 dX7_isOpener_3 (by decide) (k32i (by omega)) (k32i (by omega)) (fun h1 => ?_) (fun h1 => ?_)
  · have H := H.1 h1
    refine kw_iconst dX7_isOpener_36 ?_
    refine kw_goto 41 dX7_isOpener_37 (by decide) ?_
    refine k2_zret dX7_isOpener_41 rfl (Or.inr rfl) H
  · have H := H.2 h1
    refine kw_iload_n dX7_isOpener_6 rfl ?_
    refine kw_bipush dX7_isOpener_7 (by decide) ?_
    refine kw_icmp_eq 36 dX7_isOpener_9 (by decide) (k32i (by omega)) (k32i (by omega)) (fun h2 => ?_) (fun h2 => ?_)
    · have H := H.1 h2
      refine kw_iconst dX7_isOpener_36 ?_
      refine kw_goto 41 dX7_isOpener_37 (by decide) ?_
      refine k2_zret dX7_isOpener_41 rfl (Or.inr rfl) H
    · have H := H.2 h2
      refine kw_iload_n dX7_isOpener_12 rfl ?_
      refine kw_bipush dX7_isOpener_13 (by decide) ?_
      refine kw_icmp_eq 36 dX7_isOpener_15 (by decide) (k32i (by omega)) (k32i (by omega)) (fun h3 => ?_) (fun h3 => ?_)
      · have H := H.1 h3
        refine kw_iconst dX7_isOpener_36 ?_
        refine kw_goto 41 dX7_isOpener_37 (by decide) ?_
        refine k2_zret dX7_isOpener_41 rfl (Or.inr rfl) H
      · have H := H.2 h3
        refine kw_iload_n dX7_isOpener_18 rfl ?_
        refine kw_bipush dX7_isOpener_19 (by decide) ?_
        refine kw_icmp_eq 36 dX7_isOpener_21 (by decide) (k32i (by omega)) (k32i (by omega)) (fun h4 => ?_) (fun h4 => ?_)
        · have H := H.1 h4
          refine kw_iconst dX7_isOpener_36 ?_
          refine kw_goto 41 dX7_isOpener_37 (by decide) ?_
          refine k2_zret dX7_isOpener_41 rfl (Or.inr rfl) H
        · have H := H.2 h4
          refine kw_iload_n dX7_isOpener_24 rfl ?_
          refine kw_bipush dX7_isOpener_25 (by decide) ?_
          refine kw_icmp_eq 36 dX7_isOpener_27 (by decide) (k32i (by omega)) (k32i (by omega)) (fun h5 => ?_) (fun h5 => ?_)
          · have H := H.1 h5
            refine kw_iconst dX7_isOpener_36 ?_
            refine kw_goto 41 dX7_isOpener_37 (by decide) ?_
            refine k2_zret dX7_isOpener_41 rfl (Or.inr rfl) H
          · have H := H.2 h5
            refine kw_iload_n dX7_isOpener_30 rfl ?_
            refine kw_bipush dX7_isOpener_31 (by decide) ?_
            refine kw_icmp_ne 40 dX7_isOpener_33 (by decide) (k32i (by omega)) (k32i (by omega)) (fun h6 => ?_) (fun h6 => ?_)
            · have H := H.1 h6
              refine kw_iconst dX7_isOpener_40 ?_
              refine k2_zret dX7_isOpener_41 rfl (Or.inl rfl) H
            · have H := H.2 h6
              refine kw_iconst dX7_isOpener_36 ?_
              refine kw_goto 41 dX7_isOpener_37 (by decide) ?_
              refine k2_zret dX7_isOpener_41 rfl (Or.inr rfl) H
set_option maxRecDepth 4000 in
theorem v_X7_isDigit {G : KG} {S0 : KSh} (hL : kLay S0) {d : Nat} {P : Option AV → KMem → Prop} {c : KMem} {x0 : Int} (r0 : -2147483648 ≤ x0 ∧ x0 < 2147483648) (H : (x0 < 48 → (P (some (kI 0)) c)) ∧ (48 ≤ x0 → ((57 < x0 → (P (some (kI 0)) c)) ∧ (x0 ≤ 57 → (P (some (kI 1)) c))))) : kC2 G S0 kM_X7_isDigit d [kI x0] c P := by
  refine k2_met (by decide) rfl (Nat.le_of_ble_eq_true rfl) (l0 := [some (kI x0)]) rfl ?_
  refine kw_iload_n dX7_isDigit_0 rfl ?_
  refine kw_bipush dX7_isDigit_1 (by decide) ?_
  refine kw_icmp_lt 16 dX7_isDigit_3 (by decide) (k32i (by omega)) (k32i (by omega)) (fun h1 => ?_) (fun h1 => ?_)
  · have H := H.1 h1
    refine kw_iconst dX7_isDigit_16 ?_
    refine k2_zret dX7_isDigit_17 rfl (Or.inl rfl) H
  · have H := H.2 h1
    refine kw_iload_n dX7_isDigit_6 rfl ?_
    refine kw_bipush dX7_isDigit_7 (by decide) ?_
    refine kw_icmp_gt 16 dX7_isDigit_9 (by decide) (k32i (by omega)) (k32i (by omega)) (fun h2 => ?_) (fun h2 => ?_)
    · have H := H.1 h2
      refine kw_iconst dX7_isDigit_16 ?_
      refine k2_zret dX7_isDigit_17 rfl (Or.inl rfl) H
    · have H := H.2 h2
      refine kw_iconst dX7_isDigit_12 ?_
      refine kw_goto 17 dX7_isDigit_13 (by decide) ?_
      refine k2_zret dX7_isDigit_17 rfl (Or.inr rfl) H
set_option maxRecDepth 4000 in
theorem v_X7_change {G : KG} {S0 : KSh} (hL : kLay S0) {d : Nat} {P : Option AV → KMem → Prop} {c : KMem} {x0 x1 x2 x3 : Int} (r0 : -2147483648 ≤ x0 ∧ x0 < 2147483648) (r1 : -2147483648 ≤ x1 ∧ x1 < 2147483648) (hx2 : S0.2.1 x2 = (2, 16)) (hx3 : S0.2.1 x3 = (2, 16)) (H : (x0 ≠ 35 → (kC2 G S0 kM_X0_copy (d + 1) [kA x2, kA x3] c (kRN (fun c3 => (x0 ≠ 126 → ((x0 ≠ 33 → ((x0 ≠ 45 → (kC2 G S0 kM_X0_keepGrade (d + 1) [kA x3, kI x1] c3 (kRN (fun c8 => P none c8)))) ∧ (x0 = 45 → (kC2 G S0 kM_X0_negate (d + 1) [kA x3] c3 (kRN (fun c10 => P none c10)))))) ∧ (x0 = 33 → (kC2 G S0 kM_X0_normalise (d + 1) [kA x3] c3 (kRN (fun c12 => P none c12)))))) ∧ (x0 = 126 → (kC2 G S0 kM_X0_reverse (d + 1) [kA x3] c3 (kRN (fun c14 => P none c14)))))))) ∧ (x0 = 35 → (kC2 G S0 kM_X0_dual (d + 1) [kA x2, kA x3] c (kRN (fun c16 => P none c16))))) : kC2 G S0 kM_X7_change (d + 2) [kI x0, kI x1, kA x2, kA x3] c P := by
  refine k2_met (by decide) rfl (Nat.le_of_ble_eq_true rfl) (l0 := [some (kI x0), some (kI x1), some (kA x2), some (kA x3)]) rfl ?_
  refine kw_iload_n dX7_change_0 rfl ?_
  refine kw_bipush dX7_change_1 (by decide) ?_
  refine kw_icmp_ne 12 dX7_change_3 (by decide) (k32i (by omega)) (k32i (by omega)) (fun h1 => ?_) (fun h1 => ?_)
  · have H := H.1 h1
    refine kw_aload_n dX7_change_12 rfl ?_
    refine kw_aload_n dX7_change_13 rfl ?_
    refine k2_callS2N m_X0_copy dX7_change_14 wl_X7_91 (Nat.le_of_ble_eq_true rfl) (kC2_mono H (fun r c3 H => ?_))
    obtain ⟨rfl, H⟩ := H
    refine ⟨rfl, ?_⟩
    refine kw_iload_n dX7_change_17 rfl ?_
    refine kw_bipush dX7_change_18 (by decide) ?_
    refine kw_icmp_ne 30 dX7_change_20 (by decide) (k32i (by omega)) (k32i (by omega)) (fun h4 => ?_) (fun h4 => ?_)
    · have H := H.1 h4
      refine kw_iload_n dX7_change_30 rfl ?_
      refine kw_bipush dX7_change_31 (by decide) ?_
      refine kw_icmp_ne 43 dX7_change_33 (by decide) (k32i (by omega)) (k32i (by omega)) (fun h5 => ?_) (fun h5 => ?_)
      · have H := H.1 h5
        refine kw_iload_n dX7_change_43 rfl ?_
        refine kw_bipush dX7_change_44 (by decide) ?_
        refine kw_icmp_ne 56 dX7_change_46 (by decide) (k32i (by omega)) (k32i (by omega)) (fun h6 => ?_) (fun h6 => ?_)
        · have H := H.1 h6
          refine kw_aload_n dX7_change_56 rfl ?_
          refine kw_iload_n dX7_change_57 rfl ?_
          refine k2_callS2N m_X0_keepGrade dX7_change_58 wl_X7_167 (Nat.le_of_ble_eq_true rfl) (kC2_mono H (fun r c8 H => ?_))
          obtain ⟨rfl, H⟩ := H
          refine ⟨rfl, ?_⟩
          refine k2_ret dX7_change_61 rfl H
        · have H := H.2 h6
          refine kw_aload_n dX7_change_49 rfl ?_
          refine k2_callS1N m_X0_negate dX7_change_50 wl_X7_164 (Nat.le_of_ble_eq_true rfl) (kC2_mono H (fun r c10 H => ?_))
          obtain ⟨rfl, H⟩ := H
          refine ⟨rfl, ?_⟩
          refine kw_goto 61 dX7_change_53 (by decide) ?_
          refine k2_ret dX7_change_61 rfl H
      · have H := H.2 h5
        refine kw_aload_n dX7_change_36 rfl ?_
        refine k2_callS1N m_X0_normalise dX7_change_37 wl_X7_161 (Nat.le_of_ble_eq_true rfl) (kC2_mono H (fun r c12 H => ?_))
        obtain ⟨rfl, H⟩ := H
        refine ⟨rfl, ?_⟩
        refine kw_goto 61 dX7_change_40 (by decide) ?_
        refine k2_ret dX7_change_61 rfl H
    · have H := H.2 h4
      refine kw_aload_n dX7_change_23 rfl ?_
      refine k2_callS1N m_X0_reverse dX7_change_24 wl_X7_157 (Nat.le_of_ble_eq_true rfl) (kC2_mono H (fun r c14 H => ?_))
      obtain ⟨rfl, H⟩ := H
      refine ⟨rfl, ?_⟩
      refine kw_goto 61 dX7_change_27 (by decide) ?_
      refine k2_ret dX7_change_61 rfl H
  · have H := H.2 h1
    refine kw_aload_n dX7_change_6 rfl ?_
    refine kw_aload_n dX7_change_7 rfl ?_
    refine k2_callS2N m_X0_dual dX7_change_8 wl_X7_154 (Nat.le_of_ble_eq_true rfl) (kC2_mono H (fun r c16 H => ?_))
    obtain ⟨rfl, H⟩ := H
    refine ⟨rfl, ?_⟩
    refine k2_ret dX7_change_11 rfl H
set_option maxRecDepth 4000 in
theorem v_X7_letter {G : KG} {S0 : KSh} (hL : kLay S0) {d : Nat} {P : Option AV → KMem → Prop} {c : KMem} {x1 x2 : Int} (r1 : -2147483648 ≤ x1 ∧ x1 < 2147483648) (hx2 : S0.2.1 x2 = (2, 16)) (H : (kStT c 171) ∧ (((kHs c 171 x1) → ((0 ≤ x1 ∧ x1 < 12) ∧ (kC2 G S0 kM_X0_copy (d + 1) [kA (171 + 2 + x1), kA x2] (kup c 170 9 ((c 170 9) + 1)) (kRN (fun c6 => P (some (kI 1)) c6))))) ∧ (¬ (kHs c 171 x1) → (kC2 G S0 kM_X7_fails (d + 1) [kA 170, kI 7, kI (c 170 9)] c (kRI (fun z8 c9 => (z8 = 0 ∨ z8 = 1) ∧ (P (some (kI z8)) c9))))))) : kC2 G S0 kM_X7_letter (d + 2) [kA 170, kI x1, kA x2] c P := by
  refine k2_met (by decide) rfl (Nat.le_of_ble_eq_true rfl) (l0 := [some (kA 170), some (kI x1), some (kA x2)]) rfl ?_
  refine kw_aload_n dX7_letter_0 rfl ?_
  refine k2_getR fd_X7_0 dX7_letter_1 wf_X7_12 (lsh_170 hL) (lrf_170_0 hL) ?_
  refine kw_iload_n dX7_letter_4 rfl ?_
  have o1 := H.1
  have H := H.2
  refine k2_callV1I (ci := 0) (N := 2) (T := TX1) rfl (llt_171 hL).1 m_X1_has dX7_letter_5 wl_X7_171 (Nat.le_of_ble_eq_true rfl) (s_X1_has hL (llt_171 hL) o1 (k32i (by omega)) (fun h2 => ⟨_, rfl, ?_⟩) (fun h2 => ⟨_, rfl, ?_⟩))
  · have H := H.1 h2
    refine kw_if_ne 22 dX7_letter_8 (by decide) (k32i (by omega)) (fun _ => ?_) (fun h3 => absurd h3 (by decide))
    refine kw_aload_n dX7_letter_22 rfl ?_
    refine kw_dup dX7_letter_23 rfl ?_
    refine k2_getI fd_X7_9 dX7_letter_24 wf_X7_47 (lsh_170 hL) ?_
    refine kw_iconst dX7_letter_27 ?_
    refine kw_iadd dX7_letter_28 ?_
    refine k2_putI fp_X7_9 dX7_letter_29 wf_X7_47 (lsh_170 hL) ?_
    refine kw_aload_n dX7_letter_32 rfl ?_
    refine k2_getR fd_X7_0 dX7_letter_33 wf_X7_12 (lsh_170 hL) (lrf_170_0 hL) ?_
    refine kw_iload_n dX7_letter_36 rfl ?_
    have o4 := H.1
    have H := H.2
    refine k2_callV1A (ci := 0) (N := 2) (T := TX1) rfl (llt_171 hL).1 m_X1_form dX7_letter_37 wl_X7_174 (Nat.le_of_ble_eq_true rfl) (s_X1_form hL (llt_171 hL) (by omega) o4 ⟨_, rfl, ?_⟩)
    refine kw_aload_n dX7_letter_40 rfl ?_
    refine k2_callS2N m_X0_copy dX7_letter_41 wl_X7_91 (Nat.le_of_ble_eq_true rfl) (kC2_mono H (fun r c6 H => ?_))
    obtain ⟨rfl, H⟩ := H
    refine ⟨rfl, ?_⟩
    refine kw_iconst dX7_letter_44 ?_
    refine k2_zret dX7_letter_45 rfl (Or.inr rfl) H
  · have H := H.2 h2
    refine kw_if_ne 22 dX7_letter_8 (by decide) (k32i (by omega)) (fun h7 => absurd h7 (by decide)) (fun _ => ?_)
    refine kw_aload_n dX7_letter_11 rfl ?_
    refine kw_bipush dX7_letter_12 (by decide) ?_
    refine kw_aload_n dX7_letter_14 rfl ?_
    refine k2_getI fd_X7_9 dX7_letter_15 wf_X7_47 (lsh_170 hL) ?_
    refine k2_callV2I (ci := 6) (N := 12) (T := TX7) rfl (lsh_170 hL) m_X7_fails dX7_letter_18 wl_X7_84 (Nat.le_of_ble_eq_true rfl) (kC2_mono H (fun r c9 H => ?_))
    obtain ⟨z8, rfl, H⟩ := H
    refine ⟨z8, rfl, ?_⟩
    have o10 := H.1
    have H := H.2
    refine k2_zret dX7_letter_21 rfl o10 H
set_option maxRecDepth 4000 in
theorem v_X7_unitPart {G : KG} {S0 : KSh} (hL : kLay S0) {d : Nat} {P : Option AV → KMem → Prop} {c : KMem} {x0 : Int} (r0 : -2147483648 ≤ x0 ∧ x0 < 2147483648) (H : (x0 ≠ 120 → ((x0 ≠ 121 → ((x0 ≠ 112 → ((x0 ≠ 109 → ((x0 ≠ 119 → (P (some (kI 0)) c)) ∧ (x0 = 119 → (P (some (kI 15)) c)))) ∧ (x0 = 109 → (P (some (kI 8)) c)))) ∧ (x0 = 112 → (P (some (kI 4)) c)))) ∧ (x0 = 121 → (P (some (kI 2)) c)))) ∧ (x0 = 120 → (P (some (kI 1)) c))) : kC2 G S0 kM_X7_unitPart d [kI x0] c P := by
  refine k2_met (by decide) rfl (Nat.le_of_ble_eq_true rfl) (l0 := [some (kI x0)]) rfl ?_
  refine kw_iload_n dX7_unitPart_0 rfl ?_
  refine kw_bipush dX7_unitPart_1 (by decide) ?_
  refine kw_icmp_ne 8 dX7_unitPart_3 (by decide) (k32i (by omega)) (k32i (by omega)) (fun h1 => ?_) (fun h1 => ?_)
  · have H := H.1 h1
    refine kw_iload_n dX7_unitPart_8 rfl ?_
    refine kw_bipush dX7_unitPart_9 (by decide) ?_
    refine kw_icmp_ne 16 dX7_unitPart_11 (by decide) (k32i (by omega)) (k32i (by omega)) (fun h2 => ?_) (fun h2 => ?_)
    · have H := H.1 h2
      refine kw_iload_n dX7_unitPart_16 rfl ?_
      refine kw_bipush dX7_unitPart_17 (by decide) ?_
      refine kw_icmp_ne 24 dX7_unitPart_19 (by decide) (k32i (by omega)) (k32i (by omega)) (fun h3 => ?_) (fun h3 => ?_)
      · have H := H.1 h3
        refine kw_iload_n dX7_unitPart_24 rfl ?_
        refine kw_bipush dX7_unitPart_25 (by decide) ?_
        refine kw_icmp_ne 33 dX7_unitPart_27 (by decide) (k32i (by omega)) (k32i (by omega)) (fun h4 => ?_) (fun h4 => ?_)
        · have H := H.1 h4
          refine kw_iload_n dX7_unitPart_33 rfl ?_
          refine kw_bipush dX7_unitPart_34 (by decide) ?_
          refine kw_icmp_ne 44 dX7_unitPart_36 (by decide) (k32i (by omega)) (k32i (by omega)) (fun h5 => ?_) (fun h5 => ?_)
          · have H := H.1 h5
            refine kw_iconst dX7_unitPart_44 ?_
            refine k2_iret dX7_unitPart_45 rfl H
          · have H := H.2 h5
            refine kw_bipush dX7_unitPart_39 (by decide) ?_
            refine kw_goto 45 dX7_unitPart_41 (by decide) ?_
            refine k2_iret dX7_unitPart_45 rfl H
        · have H := H.2 h4
          refine kw_bipush dX7_unitPart_30 (by decide) ?_
          refine k2_iret dX7_unitPart_32 rfl H
      · have H := H.2 h3
        refine kw_iconst dX7_unitPart_22 ?_
        refine k2_iret dX7_unitPart_23 rfl H
    · have H := H.2 h2
      refine kw_iconst dX7_unitPart_14 ?_
      refine k2_iret dX7_unitPart_15 rfl H
  · have H := H.2 h1
    refine kw_iconst dX7_unitPart_6 ?_
    refine k2_iret dX7_unitPart_7 rfl H
set_option maxRecDepth 4000 in
theorem v_X7_unit {G : KG} {S0 : KSh} (hL : kLay S0) {d : Nat} {P : Option AV → KMem → Prop} {c : KMem} {x1 x2 : Int} (r1 : -2147483648 ≤ x1 ∧ x1 < 2147483648) (hx2 : S0.2.1 x2 = (2, 16)) (H : (x1 ≠ 102 → (kC2 G S0 kM_X7_unitPart (d + 1) [kI x1] c (kRI (fun z2 c3 => (k32 z2) ∧ ((z2 ≠ 0 → (kC2 G S0 kM_X0_number (d + 1) [kL 0, kA x2] c3 (kRN (fun c7 => (0 ≤ z2 ∧ z2 < 16) ∧ (P (some (kI 1)) (kup (kup c7 x2 z2 1) 170 9 (((kup c7 x2 z2 1) 170 9) + 1))))))) ∧ (z2 = 0 → (kC2 G S0 kM_X7_fails (d + 1) [kA 170, kI 1, kI (c3 170 9)] c3 (kRI (fun z9 c10 => (z9 = 0 ∨ z9 = 1) ∧ (P (some (kI z9)) c10)))))))))) ∧ (x1 = 102 → (kC2 G S0 kM_X0_farOne (d + 1) [kA x2] c (kRN (fun c13 => P (some (kI 1)) (kup c13 170 9 ((c13 170 9) + 1))))))) : kC2 G S0 kM_X7_unit (d + 2) [kA 170, kI x1, kA x2] c P := by
  refine k2_met (by decide) rfl (Nat.le_of_ble_eq_true rfl) (l0 := [some (kA 170), some (kI x1), some (kA x2), none]) rfl ?_
  refine kw_iload_n dX7_unit_0 rfl ?_
  refine kw_bipush dX7_unit_1 (by decide) ?_
  refine kw_icmp_ne 13 dX7_unit_3 (by decide) (k32i (by omega)) (k32i (by omega)) (fun h1 => ?_) (fun h1 => ?_)
  · have H := H.1 h1
    refine kw_iload_n dX7_unit_13 rfl ?_
    refine k2_callS1I m_X7_unitPart dX7_unit_14 wl_X7_181 (Nat.le_of_ble_eq_true rfl) (kC2_mono H (fun r c3 H => ?_))
    obtain ⟨z2, rfl, H⟩ := H
    refine ⟨z2, rfl, ?_⟩
    refine kw_istore_n dX7_unit_17 (Nat.le_of_ble_eq_true rfl) ?_
    refine kw_iload_n dX7_unit_18 rfl ?_
    have o5 := H.1
    have H := H.2
    refine kw_if_ne 32 dX7_unit_19 (by decide) o5 (fun h4 => ?_) (fun h4 => ?_)
    · have H := H.1 h4
      refine kw_lconst0 dX7_unit_32 ?_
      refine kw_aload_n dX7_unit_33 rfl ?_
      refine k2_callS2N m_X0_number dX7_unit_34 wl_X7_185 (Nat.le_of_ble_eq_true rfl) (kC2_mono H (fun r c7 H => ?_))
      obtain ⟨rfl, H⟩ := H
      refine ⟨rfl, ?_⟩
      refine kw_aload_n dX7_unit_37 rfl ?_
      refine kw_iload_n dX7_unit_38 rfl ?_
      refine kw_lconst1 dX7_unit_39 ?_
      have o8 := H.1
      have H := H.2
      refine k2_last dX7_unit_40 hx2 (by omega) o8 ?_
      refine kw_aload_n dX7_unit_41 rfl ?_
      refine kw_dup dX7_unit_42 rfl ?_
      refine k2_getI fd_X7_9 dX7_unit_43 wf_X7_47 (lsh_170 hL) ?_
      refine kw_iconst dX7_unit_46 ?_
      refine kw_iadd dX7_unit_47 ?_
      refine k2_putI fp_X7_9 dX7_unit_48 wf_X7_47 (lsh_170 hL) ?_
      refine kw_iconst dX7_unit_51 ?_
      refine k2_zret dX7_unit_52 rfl (Or.inr rfl) H
    · have H := H.2 h4
      refine kw_aload_n dX7_unit_22 rfl ?_
      refine kw_iconst dX7_unit_23 ?_
      refine kw_aload_n dX7_unit_24 rfl ?_
      refine k2_getI fd_X7_9 dX7_unit_25 wf_X7_47 (lsh_170 hL) ?_
      refine k2_callV2I (ci := 6) (N := 12) (T := TX7) rfl (lsh_170 hL) m_X7_fails dX7_unit_28 wl_X7_84 (Nat.le_of_ble_eq_true rfl) (kC2_mono H (fun r c10 H => ?_))
      obtain ⟨z9, rfl, H⟩ := H
      refine ⟨z9, rfl, ?_⟩
      have o11 := H.1
      have H := H.2
      refine k2_zret dX7_unit_31 rfl o11 H
  · have H := H.2 h1
    refine kw_aload_n dX7_unit_6 rfl ?_
    refine k2_callS1N m_X0_farOne dX7_unit_7 wl_X7_178 (Nat.le_of_ble_eq_true rfl) (kC2_mono H (fun r c13 H => ?_))
    obtain ⟨rfl, H⟩ := H
    refine ⟨rfl, ?_⟩
    refine kw_goto 41 dX7_unit_10 (by decide) ?_
    refine kw_aload_n dX7_unit_41 rfl ?_
    refine kw_dup dX7_unit_42 rfl ?_
    refine k2_getI fd_X7_9 dX7_unit_43 wf_X7_47 (lsh_170 hL) ?_
    refine kw_iconst dX7_unit_46 ?_
    refine kw_iadd dX7_unit_47 ?_
    refine k2_putI fp_X7_9 dX7_unit_48 wf_X7_47 (lsh_170 hL) ?_
    refine kw_iconst dX7_unit_51 ?_
    refine k2_zret dX7_unit_52 rfl (Or.inr rfl) H
set_option maxRecDepth 4000 in
theorem v_X7_digits {G : KG} {S0 : KSh} (hL : kLay S0) {d : Nat} {P : Option AV → KMem → Prop} {c : KMem}  (H : kW2 G S0 kM_X7_digits (d + 1) 9 [some (kA 170), some (kI 0), some (kI (c 170 9)), some (kI 0)] [] c P) : kC2 G S0 kM_X7_digits (d + 1) [kA 170] c P := by
  refine k2_met (by decide) rfl (Nat.le_of_ble_eq_true rfl) (l0 := [some (kA 170), none, none, none]) rfl ?_
  refine kw_iconst dX7_digits_0 ?_
  refine kw_istore_n dX7_digits_1 (Nat.le_of_ble_eq_true rfl) ?_
  refine kw_aload_n dX7_digits_2 rfl ?_
  refine k2_getI fd_X7_9 dX7_digits_3 wf_X7_47 (lsh_170 hL) ?_
  refine kw_istore_n dX7_digits_6 (Nat.le_of_ble_eq_true rfl) ?_
  refine kw_iconst dX7_digits_7 ?_
  refine kw_istore_n dX7_digits_8 (Nat.le_of_ble_eq_true rfl) ?_
  exact kw_forget (ls' := [some (kA 170), some (kI 0), some (kI (c 170 9)), some (kI 0)]) ⟨Or.inr rfl, ⟨Or.inr rfl, ⟨Or.inr rfl, ⟨Or.inr rfl, trivial⟩⟩⟩⟩ H
set_option maxRecDepth 4000 in
theorem v_X7_digits_9 {G : KG} {S0 : KSh} (hL : kLay S0) {d : Nat} {P : Option AV → KMem → Prop} {c : KMem} {x1 x2 x3 : Int} (r1 : -2147483648 ≤ x1 ∧ x1 < 2147483648) (r2 : -2147483648 ≤ x2 ∧ x2 < 2147483648) (r3 : 0 ≤ x3 ∧ x3 < 2147483648) (H : (4 ≤ x3 → ((k32 (c 170 9)) ∧ (((c 170 9) ≤ x2 → (((c 170 9) ≠ x2 → (kC2 G S0 kM_X7_fails d [kA 170, kI 2, kI (c 170 9)] c (kRI (fun z5 c6 => P (some (kI (-1))) c6)))) ∧ ((c 170 9) = x2 → (kC2 G S0 kM_X7_fails d [kA 170, kI 1, kI (c 170 9)] c (kRI (fun z7 c8 => P (some (kI (-1))) c8)))))) ∧ (x2 < (c 170 9) → (kC2 G S0 kM_X7_next d [kA 170] c (kRI (fun z9 c10 => kC2 G S0 kM_X7_isDigit d [kI z9] c10 (kRI (fun z11 c12 => (k32 z11) ∧ ((z11 ≠ 0 → ((k32 (c12 170 9)) ∧ (((c12 170 9) ≠ x2 → (kC2 G S0 kM_X7_fails d [kA 170, kI 2, kI (c12 170 9)] c12 (kRI (fun z17 c18 => P (some (kI (-1))) c18)))) ∧ ((c12 170 9) = x2 → (kC2 G S0 kM_X7_fails d [kA 170, kI 1, kI (c12 170 9)] c12 (kRI (fun z19 c20 => P (some (kI (-1))) c20))))))) ∧ (z11 = 0 → (P (some (kI x1)) c12)))))))))))) ∧ (x3 < 4 → (kC2 G S0 kM_X7_next d [kA 170] c (kRI (fun z21 c22 => kC2 G S0 kM_X7_isDigit d [kI z21] c22 (kRI (fun z23 c24 => (k32 z23) ∧ ((z23 = 0 → ((k32 (c24 170 9)) ∧ (((c24 170 9) ≤ x2 → (((c24 170 9) ≠ x2 → (kC2 G S0 kM_X7_fails d [kA 170, kI 2, kI (c24 170 9)] c24 (kRI (fun z30 c31 => P (some (kI (-1))) c31)))) ∧ ((c24 170 9) = x2 → (kC2 G S0 kM_X7_fails d [kA 170, kI 1, kI (c24 170 9)] c24 (kRI (fun z32 c33 => P (some (kI (-1))) c33)))))) ∧ (x2 < (c24 170 9) → (kC2 G S0 kM_X7_next d [kA 170] c24 (kRI (fun z34 c35 => kC2 G S0 kM_X7_isDigit d [kI z34] c35 (kRI (fun z36 c37 => (k32 z36) ∧ ((z36 ≠ 0 → ((k32 (c37 170 9)) ∧ (((c37 170 9) ≠ x2 → (kC2 G S0 kM_X7_fails d [kA 170, kI 2, kI (c37 170 9)] c37 (kRI (fun z42 c43 => P (some (kI (-1))) c43)))) ∧ ((c37 170 9) = x2 → (kC2 G S0 kM_X7_fails d [kA 170, kI 1, kI (c37 170 9)] c37 (kRI (fun z44 c45 => P (some (kI (-1))) c45))))))) ∧ (z36 = 0 → (P (some (kI x1)) c37)))))))))))) ∧ (z23 ≠ 0 → (kC2 G S0 kM_X7_next d [kA 170] c24 (kRI (fun z46 c47 => kW2 G S0 kM_X7_digits (d + 1) 9 [some (kA 170), some (kI (((10 * x1) + z46) - 48)), some (kI x2), some (kI (x3 + 1))] [] (kup c47 170 9 ((c47 170 9) + 1)) P)))))))))))) : kW2 G S0 kM_X7_digits (d + 1) 9 [some (kA 170), some (kI x1), some (kI x2), some (kI x3)] [] c P := by
  refine kw_iload_n dX7_digits_9 rfl ?_
  refine kw_iconst dX7_digits_10 ?_
  refine kw_icmp_ge 53 dX7_digits_11 (by decide) (k32i (by omega)) (k32i (by omega)) (fun h1 => ?_) (fun h1 => ?_)
  · have H := H.1 h1
    refine kw_aload_n dX7_digits_53 rfl ?_
    refine k2_getI fd_X7_9 dX7_digits_54 wf_X7_47 (lsh_170 hL) ?_
    refine kw_iload_n dX7_digits_57 rfl ?_
    have o3 := H.1
    have H := H.2
    refine kw_icmp_le 73 dX7_digits_58 (by decide) o3 (k32i (by omega)) (fun h2 => ?_) (fun h2 => ?_)
    · have H := H.1 h2
      refine kw_aload_n dX7_digits_73 rfl ?_
      refine kw_aload_n dX7_digits_74 rfl ?_
      refine k2_getI fd_X7_9 dX7_digits_75 wf_X7_47 (lsh_170 hL) ?_
      refine kw_iload_n dX7_digits_78 rfl ?_
      refine kw_icmp_ne 86 dX7_digits_79 (by decide) o3 (k32i (by omega)) (fun h4 => ?_) (fun h4 => ?_)
      · have H := H.1 h4
        refine kw_iconst dX7_digits_86 ?_
        refine kw_aload_n dX7_digits_87 rfl ?_
        refine k2_getI fd_X7_9 dX7_digits_88 wf_X7_47 (lsh_170 hL) ?_
        refine k2_callV2I (ci := 6) (N := 12) (T := TX7) rfl (lsh_170 hL) m_X7_fails dX7_digits_91 wl_X7_84 (Nat.le_of_ble_eq_true rfl) (kC2_mono H (fun r c6 H => ?_))
        obtain ⟨z5, rfl, H⟩ := H
        refine ⟨z5, rfl, ?_⟩
        refine kw_pop dX7_digits_94 rfl ?_
        refine kw_iconst dX7_digits_95 ?_
        refine k2_iret dX7_digits_96 rfl H
      · have H := H.2 h4
        refine kw_iconst dX7_digits_82 ?_
        refine kw_goto 87 dX7_digits_83 (by decide) ?_
        refine kw_aload_n dX7_digits_87 rfl ?_
        refine k2_getI fd_X7_9 dX7_digits_88 wf_X7_47 (lsh_170 hL) ?_
        refine k2_callV2I (ci := 6) (N := 12) (T := TX7) rfl (lsh_170 hL) m_X7_fails dX7_digits_91 wl_X7_84 (Nat.le_of_ble_eq_true rfl) (kC2_mono H (fun r c8 H => ?_))
        obtain ⟨z7, rfl, H⟩ := H
        refine ⟨z7, rfl, ?_⟩
        refine kw_pop dX7_digits_94 rfl ?_
        refine kw_iconst dX7_digits_95 ?_
        refine k2_iret dX7_digits_96 rfl H
    · have H := H.2 h2
      refine kw_aload_n dX7_digits_61 rfl ?_
      refine k2_callV0I (ci := 6) (N := 12) (T := TX7) rfl (lsh_170 hL) m_X7_next dX7_digits_62 wl_X7_81 (Nat.le_of_ble_eq_true rfl) (kC2_mono H (fun r c10 H => ?_))
      obtain ⟨z9, rfl, H⟩ := H
      refine ⟨z9, rfl, ?_⟩
      refine k2_callS1I m_X7_isDigit dX7_digits_65 wl_X7_141 (Nat.le_of_ble_eq_true rfl) (kC2_mono H (fun r c12 H => ?_))
      obtain ⟨z11, rfl, H⟩ := H
      refine ⟨z11, rfl, ?_⟩
      have o14 := H.1
      have H := H.2
      refine kw_if_ne 73 dX7_digits_68 (by decide) o14 (fun h13 => ?_) (fun h13 => ?_)
      · have H := H.1 h13
        refine kw_aload_n dX7_digits_73 rfl ?_
        refine kw_aload_n dX7_digits_74 rfl ?_
        refine k2_getI fd_X7_9 dX7_digits_75 wf_X7_47 (lsh_170 hL) ?_
        refine kw_iload_n dX7_digits_78 rfl ?_
        have o16 := H.1
        have H := H.2
        refine kw_icmp_ne 86 dX7_digits_79 (by decide) o16 (k32i (by omega)) (fun h15 => ?_) (fun h15 => ?_)
        · have H := H.1 h15
          refine kw_iconst dX7_digits_86 ?_
          refine kw_aload_n dX7_digits_87 rfl ?_
          refine k2_getI fd_X7_9 dX7_digits_88 wf_X7_47 (lsh_170 hL) ?_
          refine k2_callV2I (ci := 6) (N := 12) (T := TX7) rfl (lsh_170 hL) m_X7_fails dX7_digits_91 wl_X7_84 (Nat.le_of_ble_eq_true rfl) (kC2_mono H (fun r c18 H => ?_))
          obtain ⟨z17, rfl, H⟩ := H
          refine ⟨z17, rfl, ?_⟩
          refine kw_pop dX7_digits_94 rfl ?_
          refine kw_iconst dX7_digits_95 ?_
          refine k2_iret dX7_digits_96 rfl H
        · have H := H.2 h15
          refine kw_iconst dX7_digits_82 ?_
          refine kw_goto 87 dX7_digits_83 (by decide) ?_
          refine kw_aload_n dX7_digits_87 rfl ?_
          refine k2_getI fd_X7_9 dX7_digits_88 wf_X7_47 (lsh_170 hL) ?_
          refine k2_callV2I (ci := 6) (N := 12) (T := TX7) rfl (lsh_170 hL) m_X7_fails dX7_digits_91 wl_X7_84 (Nat.le_of_ble_eq_true rfl) (kC2_mono H (fun r c20 H => ?_))
          obtain ⟨z19, rfl, H⟩ := H
          refine ⟨z19, rfl, ?_⟩
          refine kw_pop dX7_digits_94 rfl ?_
          refine kw_iconst dX7_digits_95 ?_
          refine k2_iret dX7_digits_96 rfl H
      · have H := H.2 h13
        refine kw_iload_n dX7_digits_71 rfl ?_
        refine k2_iret dX7_digits_72 rfl H
  · have H := H.2 h1
    refine kw_aload_n dX7_digits_14 rfl ?_
    refine k2_callV0I (ci := 6) (N := 12) (T := TX7) rfl (lsh_170 hL) m_X7_next dX7_digits_15 wl_X7_81 (Nat.le_of_ble_eq_true rfl) (kC2_mono H (fun r c22 H => ?_))
    obtain ⟨z21, rfl, H⟩ := H
    refine ⟨z21, rfl, ?_⟩
    refine k2_callS1I m_X7_isDigit dX7_digits_18 wl_X7_141 (Nat.le_of_ble_eq_true rfl) (kC2_mono H (fun r c24 H => ?_))
    obtain ⟨z23, rfl, H⟩ := H
    refine ⟨z23, rfl, ?_⟩
    have o26 := H.1
    have H := H.2
    refine kw_if_eq 53 dX7_digits_21 (by decide) o26 (fun h25 => ?_) (fun h25 => ?_)
    · have H := H.1 h25
      refine kw_aload_n dX7_digits_53 rfl ?_
      refine k2_getI fd_X7_9 dX7_digits_54 wf_X7_47 (lsh_170 hL) ?_
      refine kw_iload_n dX7_digits_57 rfl ?_
      have o28 := H.1
      have H := H.2
      refine kw_icmp_le 73 dX7_digits_58 (by decide) o28 (k32i (by omega)) (fun h27 => ?_) (fun h27 => ?_)
      · have H := H.1 h27
        refine kw_aload_n dX7_digits_73 rfl ?_
        refine kw_aload_n dX7_digits_74 rfl ?_
        refine k2_getI fd_X7_9 dX7_digits_75 wf_X7_47 (lsh_170 hL) ?_
        refine kw_iload_n dX7_digits_78 rfl ?_
        refine kw_icmp_ne 86 dX7_digits_79 (by decide) o28 (k32i (by omega)) (fun h29 => ?_) (fun h29 => ?_)
        · have H := H.1 h29
          refine kw_iconst dX7_digits_86 ?_
          refine kw_aload_n dX7_digits_87 rfl ?_
          refine k2_getI fd_X7_9 dX7_digits_88 wf_X7_47 (lsh_170 hL) ?_
          refine k2_callV2I (ci := 6) (N := 12) (T := TX7) rfl (lsh_170 hL) m_X7_fails dX7_digits_91 wl_X7_84 (Nat.le_of_ble_eq_true rfl) (kC2_mono H (fun r c31 H => ?_))
          obtain ⟨z30, rfl, H⟩ := H
          refine ⟨z30, rfl, ?_⟩
          refine kw_pop dX7_digits_94 rfl ?_
          refine kw_iconst dX7_digits_95 ?_
          refine k2_iret dX7_digits_96 rfl H
        · have H := H.2 h29
          refine kw_iconst dX7_digits_82 ?_
          refine kw_goto 87 dX7_digits_83 (by decide) ?_
          refine kw_aload_n dX7_digits_87 rfl ?_
          refine k2_getI fd_X7_9 dX7_digits_88 wf_X7_47 (lsh_170 hL) ?_
          refine k2_callV2I (ci := 6) (N := 12) (T := TX7) rfl (lsh_170 hL) m_X7_fails dX7_digits_91 wl_X7_84 (Nat.le_of_ble_eq_true rfl) (kC2_mono H (fun r c33 H => ?_))
          obtain ⟨z32, rfl, H⟩ := H
          refine ⟨z32, rfl, ?_⟩
          refine kw_pop dX7_digits_94 rfl ?_
          refine kw_iconst dX7_digits_95 ?_
          refine k2_iret dX7_digits_96 rfl H
      · have H := H.2 h27
        refine kw_aload_n dX7_digits_61 rfl ?_
        refine k2_callV0I (ci := 6) (N := 12) (T := TX7) rfl (lsh_170 hL) m_X7_next dX7_digits_62 wl_X7_81 (Nat.le_of_ble_eq_true rfl) (kC2_mono H (fun r c35 H => ?_))
        obtain ⟨z34, rfl, H⟩ := H
        refine ⟨z34, rfl, ?_⟩
        refine k2_callS1I m_X7_isDigit dX7_digits_65 wl_X7_141 (Nat.le_of_ble_eq_true rfl) (kC2_mono H (fun r c37 H => ?_))
        obtain ⟨z36, rfl, H⟩ := H
        refine ⟨z36, rfl, ?_⟩
        have o39 := H.1
        have H := H.2
        refine kw_if_ne 73 dX7_digits_68 (by decide) o39 (fun h38 => ?_) (fun h38 => ?_)
        · have H := H.1 h38
          refine kw_aload_n dX7_digits_73 rfl ?_
          refine kw_aload_n dX7_digits_74 rfl ?_
          refine k2_getI fd_X7_9 dX7_digits_75 wf_X7_47 (lsh_170 hL) ?_
          refine kw_iload_n dX7_digits_78 rfl ?_
          have o41 := H.1
          have H := H.2
          refine kw_icmp_ne 86 dX7_digits_79 (by decide) o41 (k32i (by omega)) (fun h40 => ?_) (fun h40 => ?_)
          · have H := H.1 h40
            refine kw_iconst dX7_digits_86 ?_
            refine kw_aload_n dX7_digits_87 rfl ?_
            refine k2_getI fd_X7_9 dX7_digits_88 wf_X7_47 (lsh_170 hL) ?_
            refine k2_callV2I (ci := 6) (N := 12) (T := TX7) rfl (lsh_170 hL) m_X7_fails dX7_digits_91 wl_X7_84 (Nat.le_of_ble_eq_true rfl) (kC2_mono H (fun r c43 H => ?_))
            obtain ⟨z42, rfl, H⟩ := H
            refine ⟨z42, rfl, ?_⟩
            refine kw_pop dX7_digits_94 rfl ?_
            refine kw_iconst dX7_digits_95 ?_
            refine k2_iret dX7_digits_96 rfl H
          · have H := H.2 h40
            refine kw_iconst dX7_digits_82 ?_
            refine kw_goto 87 dX7_digits_83 (by decide) ?_
            refine kw_aload_n dX7_digits_87 rfl ?_
            refine k2_getI fd_X7_9 dX7_digits_88 wf_X7_47 (lsh_170 hL) ?_
            refine k2_callV2I (ci := 6) (N := 12) (T := TX7) rfl (lsh_170 hL) m_X7_fails dX7_digits_91 wl_X7_84 (Nat.le_of_ble_eq_true rfl) (kC2_mono H (fun r c45 H => ?_))
            obtain ⟨z44, rfl, H⟩ := H
            refine ⟨z44, rfl, ?_⟩
            refine kw_pop dX7_digits_94 rfl ?_
            refine kw_iconst dX7_digits_95 ?_
            refine k2_iret dX7_digits_96 rfl H
        · have H := H.2 h38
          refine kw_iload_n dX7_digits_71 rfl ?_
          refine k2_iret dX7_digits_72 rfl H
    · have H := H.2 h25
      refine kw_bipush dX7_digits_24 (by decide) ?_
      refine kw_iload_n dX7_digits_26 rfl ?_
      refine kw_imul dX7_digits_27 ?_
      refine kw_aload_n dX7_digits_28 rfl ?_
      refine k2_callV0I (ci := 6) (N := 12) (T := TX7) rfl (lsh_170 hL) m_X7_next dX7_digits_29 wl_X7_81 (Nat.le_of_ble_eq_true rfl) (kC2_mono H (fun r c47 H => ?_))
      obtain ⟨z46, rfl, H⟩ := H
      refine ⟨z46, rfl, ?_⟩
      refine kw_iadd dX7_digits_32 ?_
      refine kw_bipush dX7_digits_33 (by decide) ?_
      refine kw_isub dX7_digits_35 ?_
      refine kw_istore_n dX7_digits_36 (Nat.le_of_ble_eq_true rfl) ?_
      refine kw_aload_n dX7_digits_37 rfl ?_
      refine kw_dup dX7_digits_38 rfl ?_
      refine k2_getI fd_X7_9 dX7_digits_39 wf_X7_47 (lsh_170 hL) ?_
      refine kw_iconst dX7_digits_42 ?_
      refine kw_iadd dX7_digits_43 ?_
      refine k2_putI fp_X7_9 dX7_digits_44 wf_X7_47 (lsh_170 hL) ?_
      refine kw_iinc dX7_digits_47 rfl ?_
      refine kw_goto 9 dX7_digits_50 (by decide) ?_
      exact kw_forget (ls' := [some (kA 170), some (kI (((10 * x1) + z46) - 48)), some (kI x2), some (kI (x3 + 1))]) ⟨Or.inr rfl, ⟨Or.inr rfl, ⟨Or.inr rfl, ⟨Or.inr rfl, trivial⟩⟩⟩⟩ H
set_option maxRecDepth 4000 in
theorem v_X7_counted {G : KG} {S0 : KSh} (hL : kLay S0) {d : Nat} {P : Option AV → KMem → Prop} {c : KMem} {x1 : Int} (hx1 : S0.2.1 x1 = (2, 16)) (H : kC2 G S0 kM_X7_digits (d + 1) [kA 170] c (kRI (fun z1 c2 => (k32 z1) ∧ ((z1 ≠ (-1) → (kC2 G S0 kM_X0_number (d + 1) [kL z1, kA x1] c2 (kRN (fun c6 => P (some (kI 1)) c6)))) ∧ (z1 = (-1) → (P (some (kI 0)) c2)))))) : kC2 G S0 kM_X7_counted (d + 2) [kA 170, kA x1] c P := by
  refine k2_met (by decide) rfl (Nat.le_of_ble_eq_true rfl) (l0 := [some (kA 170), some (kA x1), none]) rfl ?_
  refine kw_aload_n dX7_counted_0 rfl ?_
  refine k2_callV0I (ci := 6) (N := 12) (T := TX7) rfl (lsh_170 hL) m_X7_digits dX7_counted_1 wl_X7_189 (Nat.le_of_ble_eq_true rfl) (kC2_mono H (fun r c2 H => ?_))
  obtain ⟨z1, rfl, H⟩ := H
  refine ⟨z1, rfl, ?_⟩
  refine kw_istore_n dX7_counted_4 (Nat.le_of_ble_eq_true rfl) ?_
  refine kw_iload_n dX7_counted_5 rfl ?_
  refine kw_iconst dX7_counted_6 ?_
  have o4 := H.1
  have H := H.2
  refine kw_icmp_ne 12 dX7_counted_7 (by decide) o4 (k32i (by omega)) (fun h3 => ?_) (fun h3 => ?_)
  · have H := H.1 h3
    refine kw_iload_n dX7_counted_12 rfl ?_
    refine kw_i2l dX7_counted_13 o4 ?_
    refine kw_aload_n dX7_counted_14 rfl ?_
    refine k2_callS2N m_X0_number dX7_counted_15 wl_X7_185 (Nat.le_of_ble_eq_true rfl) (kC2_mono H (fun r c6 H => ?_))
    obtain ⟨rfl, H⟩ := H
    refine ⟨rfl, ?_⟩
    refine kw_iconst dX7_counted_18 ?_
    refine k2_zret dX7_counted_19 rfl (Or.inr rfl) H
  · have H := H.2 h3
    refine kw_iconst dX7_counted_10 ?_
    refine k2_zret dX7_counted_11 rfl (Or.inl rfl) H
set_option maxRecDepth 4000 in
theorem v_X7_coordinate {G : KG} {S0 : KSh} (hL : kLay S0) {d : Nat} {P : Option AV → KMem → Prop} {c : KMem}  (H : kC2 G S0 kM_X7_next (d + 1) [kA 170] c (kRI (fun z1 c2 => (k32 z1) ∧ ((z1 ≠ 45 → (kC2 G S0 kM_X7_digits (d + 1) [kA 170] c2 (kRI (fun z6 c7 => (k32 z6) ∧ ((z6 ≠ (-1) → ((z6 ≤ 99 → (P (some (kI z6)) c7)) ∧ (99 < z6 → (kC2 G S0 kM_X7_fails (d + 1) [kA 170, kI 3, kI (c2 170 9)] c7 (kRI (fun z12 c13 => P (some (kI 1000)) c13)))))) ∧ (z6 = (-1) → (P (some (kI 1000)) c7))))))) ∧ (z1 = 45 → (kC2 G S0 kM_X7_digits (d + 1) [kA 170] (kup c2 170 9 ((c2 170 9) + 1)) (kRI (fun z15 c16 => (k32 z15) ∧ ((z15 ≠ (-1) → ((z15 ≤ 99 → (P (some (kI (-z15))) c16)) ∧ (99 < z15 → (kC2 G S0 kM_X7_fails (d + 1) [kA 170, kI 3, kI ((c2 170 9) + 1)] c16 (kRI (fun z21 c22 => P (some (kI 1000)) c22)))))) ∧ (z15 = (-1) → (P (some (kI 1000)) c16))))))))))) : kC2 G S0 kM_X7_coordinate (d + 2) [kA 170] c P := by
  refine k2_met (by decide) rfl (Nat.le_of_ble_eq_true rfl) (l0 := [some (kA 170), none, none, none]) rfl ?_
  refine kw_aload_n dX7_coordinate_0 rfl ?_
  refine k2_callV0I (ci := 6) (N := 12) (T := TX7) rfl (lsh_170 hL) m_X7_next dX7_coordinate_1 wl_X7_81 (Nat.le_of_ble_eq_true rfl) (kC2_mono H (fun r c2 H => ?_))
  obtain ⟨z1, rfl, H⟩ := H
  refine ⟨z1, rfl, ?_⟩
  refine kw_bipush dX7_coordinate_4 (by decide) ?_
  have o4 := H.1
  have H := H.2
  refine kw_icmp_ne 13 dX7_coordinate_6 (by decide) o4 (k32i (by omega)) (fun h3 => ?_) (fun h3 => ?_)
  · have H := H.1 h3
    refine kw_iconst dX7_coordinate_13 ?_
    refine kw_istore_n dX7_coordinate_14 (Nat.le_of_ble_eq_true rfl) ?_
    refine kw_iload_n dX7_coordinate_15 rfl ?_
    refine kw_if_eq 29 dX7_coordinate_16 (by decide) (k32i (by omega)) (fun _ => ?_) (fun h5 => absurd h5 (by decide))
    refine kw_aload_n dX7_coordinate_29 rfl ?_
    refine k2_getI fd_X7_9 dX7_coordinate_30 wf_X7_47 (lsh_170 hL) ?_
    refine kw_istore_n dX7_coordinate_33 (Nat.le_of_ble_eq_true rfl) ?_
    refine kw_aload_n dX7_coordinate_34 rfl ?_
    refine k2_callV0I (ci := 6) (N := 12) (T := TX7) rfl (lsh_170 hL) m_X7_digits dX7_coordinate_35 wl_X7_189 (Nat.le_of_ble_eq_true rfl) (kC2_mono H (fun r c7 H => ?_))
    obtain ⟨z6, rfl, H⟩ := H
    refine ⟨z6, rfl, ?_⟩
    refine kw_istore_n dX7_coordinate_38 (Nat.le_of_ble_eq_true rfl) ?_
    refine kw_iload_n dX7_coordinate_39 rfl ?_
    refine kw_iconst dX7_coordinate_40 ?_
    have o9 := H.1
    have H := H.2
    refine kw_icmp_ne 48 dX7_coordinate_41 (by decide) o9 (k32i (by omega)) (fun h8 => ?_) (fun h8 => ?_)
    · have H := H.1 h8
      refine kw_iload_n dX7_coordinate_48 rfl ?_
      refine kw_bipush dX7_coordinate_49 (by decide) ?_
      refine kw_icmp_le 65 dX7_coordinate_51 (by decide) o9 (k32i (by omega)) (fun h10 => ?_) (fun h10 => ?_)
      · have H := H.1 h10
        refine kw_iload_n dX7_coordinate_65 rfl ?_
        refine kw_if_eq 74 dX7_coordinate_66 (by decide) (k32i (by omega)) (fun _ => ?_) (fun h11 => absurd h11 (by decide))
        refine kw_iload_n dX7_coordinate_74 rfl ?_
        refine k2_iret dX7_coordinate_75 rfl H
      · have H := H.2 h10
        refine kw_aload_n dX7_coordinate_54 rfl ?_
        refine kw_iconst dX7_coordinate_55 ?_
        refine kw_iload_n dX7_coordinate_56 rfl ?_
        refine k2_callV2I (ci := 6) (N := 12) (T := TX7) rfl (lsh_170 hL) m_X7_fails dX7_coordinate_57 wl_X7_84 (Nat.le_of_ble_eq_true rfl) (kC2_mono H (fun r c13 H => ?_))
        obtain ⟨z12, rfl, H⟩ := H
        refine ⟨z12, rfl, ?_⟩
        refine kw_pop dX7_coordinate_60 rfl ?_
        refine kw_sipush dX7_coordinate_61 (by decide) ?_
        refine k2_iret dX7_coordinate_64 rfl H
    · have H := H.2 h8
      refine kw_sipush dX7_coordinate_44 (by decide) ?_
      refine k2_iret dX7_coordinate_47 rfl H
  · have H := H.2 h3
    refine kw_iconst dX7_coordinate_9 ?_
    refine kw_goto 14 dX7_coordinate_10 (by decide) ?_
    refine kw_istore_n dX7_coordinate_14 (Nat.le_of_ble_eq_true rfl) ?_
    refine kw_iload_n dX7_coordinate_15 rfl ?_
    refine kw_if_eq 29 dX7_coordinate_16 (by decide) (k32i (by omega)) (fun h14 => absurd h14 (by decide)) (fun _ => ?_)
    refine kw_aload_n dX7_coordinate_19 rfl ?_
    refine kw_dup dX7_coordinate_20 rfl ?_
    refine k2_getI fd_X7_9 dX7_coordinate_21 wf_X7_47 (lsh_170 hL) ?_
    refine kw_iconst dX7_coordinate_24 ?_
    refine kw_iadd dX7_coordinate_25 ?_
    refine k2_putI fp_X7_9 dX7_coordinate_26 wf_X7_47 (lsh_170 hL) ?_
    refine kw_aload_n dX7_coordinate_29 rfl ?_
    refine k2_getI fd_X7_9 dX7_coordinate_30 wf_X7_47 (lsh_170 hL) ?_
    refine kw_eI (kup_s _ _ _ _) ?_
    refine kw_istore_n dX7_coordinate_33 (Nat.le_of_ble_eq_true rfl) ?_
    refine kw_aload_n dX7_coordinate_34 rfl ?_
    refine k2_callV0I (ci := 6) (N := 12) (T := TX7) rfl (lsh_170 hL) m_X7_digits dX7_coordinate_35 wl_X7_189 (Nat.le_of_ble_eq_true rfl) (kC2_mono H (fun r c16 H => ?_))
    obtain ⟨z15, rfl, H⟩ := H
    refine ⟨z15, rfl, ?_⟩
    refine kw_istore_n dX7_coordinate_38 (Nat.le_of_ble_eq_true rfl) ?_
    refine kw_iload_n dX7_coordinate_39 rfl ?_
    refine kw_iconst dX7_coordinate_40 ?_
    have o18 := H.1
    have H := H.2
    refine kw_icmp_ne 48 dX7_coordinate_41 (by decide) o18 (k32i (by omega)) (fun h17 => ?_) (fun h17 => ?_)
    · have H := H.1 h17
      refine kw_iload_n dX7_coordinate_48 rfl ?_
      refine kw_bipush dX7_coordinate_49 (by decide) ?_
      refine kw_icmp_le 65 dX7_coordinate_51 (by decide) o18 (k32i (by omega)) (fun h19 => ?_) (fun h19 => ?_)
      · have H := H.1 h19
        refine kw_iload_n dX7_coordinate_65 rfl ?_
        refine kw_if_eq 74 dX7_coordinate_66 (by decide) (k32i (by omega)) (fun h20 => absurd h20 (by decide)) (fun _ => ?_)
        refine kw_iload_n dX7_coordinate_69 rfl ?_
        refine kw_ineg dX7_coordinate_70 ?_
        refine kw_goto 75 dX7_coordinate_71 (by decide) ?_
        refine k2_iret dX7_coordinate_75 rfl H
      · have H := H.2 h19
        refine kw_aload_n dX7_coordinate_54 rfl ?_
        refine kw_iconst dX7_coordinate_55 ?_
        refine kw_iload_n dX7_coordinate_56 rfl ?_
        refine k2_callV2I (ci := 6) (N := 12) (T := TX7) rfl (lsh_170 hL) m_X7_fails dX7_coordinate_57 wl_X7_84 (Nat.le_of_ble_eq_true rfl) (kC2_mono H (fun r c22 H => ?_))
        obtain ⟨z21, rfl, H⟩ := H
        refine ⟨z21, rfl, ?_⟩
        refine kw_pop dX7_coordinate_60 rfl ?_
        refine kw_sipush dX7_coordinate_61 (by decide) ?_
        refine k2_iret dX7_coordinate_64 rfl H
    · have H := H.2 h17
      refine kw_sipush dX7_coordinate_44 (by decide) ?_
      refine k2_iret dX7_coordinate_47 rfl H
set_option maxRecDepth 4000 in
theorem v_X7_spotted {G : KG} {S0 : KSh} (hL : kLay S0) {d : Nat} {P : Option AV → KMem → Prop} {c : KMem} {x1 : Int} (hx1 : S0.2.1 x1 = (2, 16)) (H : kC2 G S0 kM_X7_coordinate (d + 2) [kA 170] (kup c 170 9 ((c 170 9) + 1)) (kRI (fun z1 c2 => (k32 z1) ∧ ((z1 ≠ 1000 → (kC2 G S0 kM_X7_next (d + 2) [kA 170] c2 (kRI (fun z5 c6 => (k32 z5) ∧ ((z5 = 44 → (kC2 G S0 kM_X7_coordinate (d + 2) [kA 170] (kup c6 170 9 ((c6 170 9) + 1)) (kRI (fun z9 c10 => (k32 z9) ∧ ((z9 ≠ 1000 → (kC2 G S0 kM_X0_place (d + 2) [kI z1, kI z9, kA x1] c10 (kRN (fun c14 => P (some (kI 1)) c14)))) ∧ (z9 = 1000 → (P (some (kI 0)) c10))))))) ∧ (z5 ≠ 44 → (kC2 G S0 kM_X7_fails (d + 2) [kA 170, kI 1, kI (c6 170 9)] c6 (kRI (fun z15 c16 => (z15 = 0 ∨ z15 = 1) ∧ (P (some (kI z15)) c16)))))))))) ∧ (z1 = 1000 → (P (some (kI 0)) c2)))))) : kC2 G S0 kM_X7_spotted (d + 3) [kA 170, kA x1] c P := by
  refine k2_met (by decide) rfl (Nat.le_of_ble_eq_true rfl) (l0 := [some (kA 170), some (kA x1), none, none]) rfl ?_
  refine kw_aload_n dX7_spotted_0 rfl ?_
  refine kw_dup dX7_spotted_1 rfl ?_
  refine k2_getI fd_X7_9 dX7_spotted_2 wf_X7_47 (lsh_170 hL) ?_
  refine kw_iconst dX7_spotted_5 ?_
  refine kw_iadd dX7_spotted_6 ?_
  refine k2_putI fp_X7_9 dX7_spotted_7 wf_X7_47 (lsh_170 hL) ?_
  refine kw_aload_n dX7_spotted_10 rfl ?_
  refine k2_callV0I (ci := 6) (N := 12) (T := TX7) rfl (lsh_170 hL) m_X7_coordinate dX7_spotted_11 wl_X7_192 (Nat.le_of_ble_eq_true rfl) (kC2_mono H (fun r c2 H => ?_))
  obtain ⟨z1, rfl, H⟩ := H
  refine ⟨z1, rfl, ?_⟩
  refine kw_istore_n dX7_spotted_14 (Nat.le_of_ble_eq_true rfl) ?_
  refine kw_iload_n dX7_spotted_15 rfl ?_
  refine kw_sipush dX7_spotted_16 (by decide) ?_
  have o4 := H.1
  have H := H.2
  refine kw_icmp_ne 24 dX7_spotted_19 (by decide) o4 (k32i (by omega)) (fun h3 => ?_) (fun h3 => ?_)
  · have H := H.1 h3
    refine kw_aload_n dX7_spotted_24 rfl ?_
    refine k2_callV0I (ci := 6) (N := 12) (T := TX7) rfl (lsh_170 hL) m_X7_next dX7_spotted_25 wl_X7_81 (Nat.le_of_ble_eq_true rfl) (kC2_mono H (fun r c6 H => ?_))
    obtain ⟨z5, rfl, H⟩ := H
    refine ⟨z5, rfl, ?_⟩
    refine kw_bipush dX7_spotted_28 (by decide) ?_
    have o8 := H.1
    have H := H.2
    refine kw_icmp_eq 43 dX7_spotted_30 (by decide) o8 (k32i (by omega)) (fun h7 => ?_) (fun h7 => ?_)
    · have H := H.1 h7
      refine kw_aload_n dX7_spotted_43 rfl ?_
      refine kw_dup dX7_spotted_44 rfl ?_
      refine k2_getI fd_X7_9 dX7_spotted_45 wf_X7_47 (lsh_170 hL) ?_
      refine kw_iconst dX7_spotted_48 ?_
      refine kw_iadd dX7_spotted_49 ?_
      refine k2_putI fp_X7_9 dX7_spotted_50 wf_X7_47 (lsh_170 hL) ?_
      refine kw_aload_n dX7_spotted_53 rfl ?_
      refine k2_callV0I (ci := 6) (N := 12) (T := TX7) rfl (lsh_170 hL) m_X7_coordinate dX7_spotted_54 wl_X7_192 (Nat.le_of_ble_eq_true rfl) (kC2_mono H (fun r c10 H => ?_))
      obtain ⟨z9, rfl, H⟩ := H
      refine ⟨z9, rfl, ?_⟩
      refine kw_istore_n dX7_spotted_57 (Nat.le_of_ble_eq_true rfl) ?_
      refine kw_iload_n dX7_spotted_58 rfl ?_
      refine kw_sipush dX7_spotted_59 (by decide) ?_
      have o12 := H.1
      have H := H.2
      refine kw_icmp_ne 67 dX7_spotted_62 (by decide) o12 (k32i (by omega)) (fun h11 => ?_) (fun h11 => ?_)
      · have H := H.1 h11
        refine kw_iload_n dX7_spotted_67 rfl ?_
        refine kw_iload_n dX7_spotted_68 rfl ?_
        refine kw_aload_n dX7_spotted_69 rfl ?_
        refine k2_callS3N m_X0_place dX7_spotted_70 wl_X7_195 (Nat.le_of_ble_eq_true rfl) (kC2_mono H (fun r c14 H => ?_))
        obtain ⟨rfl, H⟩ := H
        refine ⟨rfl, ?_⟩
        refine kw_iconst dX7_spotted_73 ?_
        refine k2_zret dX7_spotted_74 rfl (Or.inr rfl) H
      · have H := H.2 h11
        refine kw_iconst dX7_spotted_65 ?_
        refine k2_zret dX7_spotted_66 rfl (Or.inl rfl) H
    · have H := H.2 h7
      refine kw_aload_n dX7_spotted_33 rfl ?_
      refine kw_iconst dX7_spotted_34 ?_
      refine kw_aload_n dX7_spotted_35 rfl ?_
      refine k2_getI fd_X7_9 dX7_spotted_36 wf_X7_47 (lsh_170 hL) ?_
      refine k2_callV2I (ci := 6) (N := 12) (T := TX7) rfl (lsh_170 hL) m_X7_fails dX7_spotted_39 wl_X7_84 (Nat.le_of_ble_eq_true rfl) (kC2_mono H (fun r c16 H => ?_))
      obtain ⟨z15, rfl, H⟩ := H
      refine ⟨z15, rfl, ?_⟩
      have o17 := H.1
      have H := H.2
      refine k2_zret dX7_spotted_42 rfl o17 H
  · have H := H.2 h3
    refine kw_iconst dX7_spotted_22 ?_
    refine k2_zret dX7_spotted_23 rfl (Or.inl rfl) H
set_option maxRecDepth 4000 in
theorem v_X7_opened {G : KG} {S0 : KSh} (hL : kLay S0) {d : Nat} {P : Option AV → KMem → Prop} {c : KMem} {x1 x2 : Int} (r1 : -2147483648 ≤ x1 ∧ x1 < 2147483648) (r2 : -2147483648 ≤ x2 ∧ x2 < 2147483648) (H : (x2 < 0 → (kC2 G S0 kM_X7_fails (d + 6) [kA 170, kI 5, kI (c 170 9)] c (kRI (fun z2 c3 => (z2 = 0 ∨ z2 = 1) ∧ (P (some (kI z2)) c3))))) ∧ (0 ≤ x2 → ((x2 < 6 → ((x1 ≠ 40 → ((x1 ≠ 103 → (kC2 G S0 kM_X7_factor (d + 6) [kA 170, kI (x2 + 1)] c (kRI (fun z8 c9 => (k32 z8) ∧ ((z8 ≠ 0 → (kC2 G S0 kM_X7_change (d + 6) [kI x1, kI 0, kA (202 + 1 + (x2 + 1)), kA (202 + 1 + x2)] c9 (kRN (fun c15 => P (some (kI 1)) c15)))) ∧ (z8 = 0 → (P (some (kI 0)) c9))))))) ∧ (x1 = 103 → (kC2 G S0 kM_X7_next (d + 6) [kA 170] c (kRI (fun z16 c17 => kC2 G S0 kM_X7_isDigit (d + 6) [kI z16] c17 (kRI (fun z18 c19 => (k32 z18) ∧ ((z18 ≠ 0 → (kC2 G S0 kM_X7_next (d + 6) [kA 170] c19 (kRI (fun z22 c23 => (k32 (z22 - 48)) ∧ (((z22 - 48) ≤ 4 → (kC2 G S0 kM_X7_factor (d + 6) [kA 170, kI (x2 + 1)] (kup c23 170 9 ((c23 170 9) + 1)) (kRI (fun z26 c27 => (k32 z26) ∧ ((z26 ≠ 0 → (kC2 G S0 kM_X7_change (d + 6) [kI x1, kI (z22 - 48), kA (202 + 1 + (x2 + 1)), kA (202 + 1 + x2)] c27 (kRN (fun c33 => P (some (kI 1)) c33)))) ∧ (z26 = 0 → (P (some (kI 0)) c27))))))) ∧ (4 < (z22 - 48) → (kC2 G S0 kM_X7_fails (d + 6) [kA 170, kI 3, kI (c23 170 9)] c23 (kRI (fun z34 c35 => (z34 = 0 ∨ z34 = 1) ∧ (P (some (kI z34)) c35)))))))))) ∧ (z18 = 0 → (kC2 G S0 kM_X7_fails (d + 6) [kA 170, kI 1, kI (c19 170 9)] c19 (kRI (fun z37 c38 => (z37 = 0 ∨ z37 = 1) ∧ (P (some (kI z37)) c38)))))))))))))) ∧ (x1 = 40 → (kC2 G S0 kM_X7_sum (d + 6) [kA 170, kI (x2 + 1)] c (kRI (fun z40 c41 => (k32 z40) ∧ ((z40 ≠ 0 → (kC2 G S0 kM_X7_next (d + 6) [kA 170] c41 (kRI (fun z44 c45 => (k32 z44) ∧ ((z44 = 41 → (kC2 G S0 kM_X0_copy (d + 6) [kA (186 + 1 + (x2 + 1)), kA (202 + 1 + x2)] (kup c45 170 9 ((c45 170 9) + 1)) (kRN (fun c51 => P (some (kI 1)) c51)))) ∧ (z44 ≠ 41 → (kC2 G S0 kM_X7_fails (d + 6) [kA 170, kI 1, kI (c45 170 9)] c45 (kRI (fun z52 c53 => (z52 = 0 ∨ z52 = 1) ∧ (P (some (kI z52)) c53)))))))))) ∧ (z40 = 0 → (P (some (kI 0)) c41))))))))) ∧ (6 ≤ x2 → (kC2 G S0 kM_X7_fails (d + 6) [kA 170, kI 5, kI (c 170 9)] c (kRI (fun z55 c56 => (z55 = 0 ∨ z55 = 1) ∧ (P (some (kI z55)) c56)))))))) : kC2 G S0 kM_X7_opened (d + 7) [kA 170, kI x1, kI x2] c P := by
  refine k2_met (by decide) rfl (Nat.le_of_ble_eq_true rfl) (l0 := [some (kA 170), some (kI x1), some (kI x2), none]) rfl ?_
  refine kw_iload_n dX7_opened_0 rfl ?_
  refine kw_if_lt 10 dX7_opened_1 (by decide) (k32i (by omega)) (fun h1 => ?_) (fun h1 => ?_)
  · have H := H.1 h1
    refine kw_aload_n dX7_opened_10 rfl ?_
    refine kw_iconst dX7_opened_11 ?_
    refine kw_aload_n dX7_opened_12 rfl ?_
    refine k2_getI fd_X7_9 dX7_opened_13 wf_X7_47 (lsh_170 hL) ?_
    refine k2_callV2I (ci := 6) (N := 12) (T := TX7) rfl (lsh_170 hL) m_X7_fails dX7_opened_16 wl_X7_84 (Nat.le_of_ble_eq_true rfl) (kC2_mono H (fun r c3 H => ?_))
    obtain ⟨z2, rfl, H⟩ := H
    refine ⟨z2, rfl, ?_⟩
    have o4 := H.1
    have H := H.2
    refine k2_zret dX7_opened_19 rfl o4 H
  · have H := H.2 h1
    refine kw_iload_n dX7_opened_4 rfl ?_
    refine kw_bipush dX7_opened_5 (by decide) ?_
    refine kw_icmp_lt 20 dX7_opened_7 (by decide) (k32i (by omega)) (k32i (by omega)) (fun h5 => ?_) (fun h5 => ?_)
    · have H := H.1 h5
      refine kw_iload_n dX7_opened_20 rfl ?_
      refine kw_bipush dX7_opened_21 (by decide) ?_
      refine kw_icmp_ne 86 dX7_opened_23 (by decide) (k32i (by omega)) (k32i (by omega)) (fun h6 => ?_) (fun h6 => ?_)
      · have H := H.1 h6
        refine kw_iconst dX7_opened_86 ?_
        refine kw_istore_n dX7_opened_87 (Nat.le_of_ble_eq_true rfl) ?_
        refine kw_iload_n dX7_opened_88 rfl ?_
        refine kw_bipush dX7_opened_89 (by decide) ?_
        refine kw_icmp_ne 147 dX7_opened_91 (by decide) (k32i (by omega)) (k32i (by omega)) (fun h7 => ?_) (fun h7 => ?_)
        · have H := H.1 h7
          refine kw_aload_n dX7_opened_147 rfl ?_
          refine kw_iload_n dX7_opened_148 rfl ?_
          refine kw_iconst dX7_opened_149 ?_
          refine kw_iadd dX7_opened_150 ?_
          refine k2_callV1I (ci := 6) (N := 12) (T := TX7) rfl (lsh_170 hL) m_X7_factor dX7_opened_151 wl_X7_105 (Nat.le_of_ble_eq_true rfl) (kC2_mono H (fun r c9 H => ?_))
          obtain ⟨z8, rfl, H⟩ := H
          refine ⟨z8, rfl, ?_⟩
          have o11 := H.1
          have H := H.2
          refine kw_if_ne 159 dX7_opened_154 (by decide) o11 (fun h10 => ?_) (fun h10 => ?_)
          · have H := H.1 h10
            refine kw_iload_n dX7_opened_159 rfl ?_
            refine kw_iload_n dX7_opened_160 rfl ?_
            refine kw_aload_n dX7_opened_161 rfl ?_
            refine k2_getR fd_X7_3 dX7_opened_162 wf_X7_26 (lsh_170 hL) (lrf_170_3 hL) ?_
            refine kw_iload_n dX7_opened_165 rfl ?_
            refine kw_iconst dX7_opened_166 ?_
            refine kw_iadd dX7_opened_167 ?_
            have q12 : 0 ≤ (x2 + 1) ∧ (x2 + 1) < 7 := (by omega)
            refine k2_aald5 dX7_opened_168 (lsh_202 hL) (by omega) q12 (lrw_202 hL q12).1 (by omega) ?_
            refine kw_aload_n dX7_opened_169 rfl ?_
            refine k2_getR fd_X7_3 dX7_opened_170 wf_X7_26 (lsh_170 hL) (lrf_170_3 hL) ?_
            refine kw_iload_n dX7_opened_173 rfl ?_
            have q13 : 0 ≤ x2 ∧ x2 < 7 := (by omega)
            refine k2_aald5 dX7_opened_174 (lsh_202 hL) (by omega) q13 (lrw_202 hL q13).1 (by omega) ?_
            refine k2_callS4N m_X7_change dX7_opened_175 wl_X7_150 (Nat.le_of_ble_eq_true rfl) (kC2_mono H (fun r c15 H => ?_))
            obtain ⟨rfl, H⟩ := H
            refine ⟨rfl, ?_⟩
            refine kw_iconst dX7_opened_178 ?_
            refine k2_zret dX7_opened_179 rfl (Or.inr rfl) H
          · have H := H.2 h10
            refine kw_iconst dX7_opened_157 ?_
            refine k2_zret dX7_opened_158 rfl (Or.inl rfl) H
        · have H := H.2 h7
          refine kw_aload_n dX7_opened_94 rfl ?_
          refine k2_callV0I (ci := 6) (N := 12) (T := TX7) rfl (lsh_170 hL) m_X7_next dX7_opened_95 wl_X7_81 (Nat.le_of_ble_eq_true rfl) (kC2_mono H (fun r c17 H => ?_))
          obtain ⟨z16, rfl, H⟩ := H
          refine ⟨z16, rfl, ?_⟩
          refine k2_callS1I m_X7_isDigit dX7_opened_98 wl_X7_141 (Nat.le_of_ble_eq_true rfl) (kC2_mono H (fun r c19 H => ?_))
          obtain ⟨z18, rfl, H⟩ := H
          refine ⟨z18, rfl, ?_⟩
          have o21 := H.1
          have H := H.2
          refine kw_if_ne 114 dX7_opened_101 (by decide) o21 (fun h20 => ?_) (fun h20 => ?_)
          · have H := H.1 h20
            refine kw_aload_n dX7_opened_114 rfl ?_
            refine k2_callV0I (ci := 6) (N := 12) (T := TX7) rfl (lsh_170 hL) m_X7_next dX7_opened_115 wl_X7_81 (Nat.le_of_ble_eq_true rfl) (kC2_mono H (fun r c23 H => ?_))
            obtain ⟨z22, rfl, H⟩ := H
            refine ⟨z22, rfl, ?_⟩
            refine kw_bipush dX7_opened_118 (by decide) ?_
            refine kw_isub dX7_opened_120 ?_
            refine kw_istore_n dX7_opened_121 (Nat.le_of_ble_eq_true rfl) ?_
            refine kw_iload_n dX7_opened_122 rfl ?_
            refine kw_iconst dX7_opened_123 ?_
            have o25 := H.1
            have H := H.2
            refine kw_icmp_le 137 dX7_opened_124 (by decide) o25 (k32i (by omega)) (fun h24 => ?_) (fun h24 => ?_)
            · have H := H.1 h24
              refine kw_aload_n dX7_opened_137 rfl ?_
              refine kw_dup dX7_opened_138 rfl ?_
              refine k2_getI fd_X7_9 dX7_opened_139 wf_X7_47 (lsh_170 hL) ?_
              refine kw_iconst dX7_opened_142 ?_
              refine kw_iadd dX7_opened_143 ?_
              refine k2_putI fp_X7_9 dX7_opened_144 wf_X7_47 (lsh_170 hL) ?_
              refine kw_aload_n dX7_opened_147 rfl ?_
              refine kw_iload_n dX7_opened_148 rfl ?_
              refine kw_iconst dX7_opened_149 ?_
              refine kw_iadd dX7_opened_150 ?_
              refine k2_callV1I (ci := 6) (N := 12) (T := TX7) rfl (lsh_170 hL) m_X7_factor dX7_opened_151 wl_X7_105 (Nat.le_of_ble_eq_true rfl) (kC2_mono H (fun r c27 H => ?_))
              obtain ⟨z26, rfl, H⟩ := H
              refine ⟨z26, rfl, ?_⟩
              have o29 := H.1
              have H := H.2
              refine kw_if_ne 159 dX7_opened_154 (by decide) o29 (fun h28 => ?_) (fun h28 => ?_)
              · have H := H.1 h28
                refine kw_iload_n dX7_opened_159 rfl ?_
                refine kw_iload_n dX7_opened_160 rfl ?_
                refine kw_aload_n dX7_opened_161 rfl ?_
                refine k2_getR fd_X7_3 dX7_opened_162 wf_X7_26 (lsh_170 hL) (lrf_170_3 hL) ?_
                refine kw_iload_n dX7_opened_165 rfl ?_
                refine kw_iconst dX7_opened_166 ?_
                refine kw_iadd dX7_opened_167 ?_
                have q30 : 0 ≤ (x2 + 1) ∧ (x2 + 1) < 7 := (by omega)
                refine k2_aald5 dX7_opened_168 (lsh_202 hL) (by omega) q30 (lrw_202 hL q30).1 (by omega) ?_
                refine kw_aload_n dX7_opened_169 rfl ?_
                refine k2_getR fd_X7_3 dX7_opened_170 wf_X7_26 (lsh_170 hL) (lrf_170_3 hL) ?_
                refine kw_iload_n dX7_opened_173 rfl ?_
                have q31 : 0 ≤ x2 ∧ x2 < 7 := (by omega)
                refine k2_aald5 dX7_opened_174 (lsh_202 hL) (by omega) q31 (lrw_202 hL q31).1 (by omega) ?_
                refine k2_callS4N m_X7_change dX7_opened_175 wl_X7_150 (Nat.le_of_ble_eq_true rfl) (kC2_mono H (fun r c33 H => ?_))
                obtain ⟨rfl, H⟩ := H
                refine ⟨rfl, ?_⟩
                refine kw_iconst dX7_opened_178 ?_
                refine k2_zret dX7_opened_179 rfl (Or.inr rfl) H
              · have H := H.2 h28
                refine kw_iconst dX7_opened_157 ?_
                refine k2_zret dX7_opened_158 rfl (Or.inl rfl) H
            · have H := H.2 h24
              refine kw_aload_n dX7_opened_127 rfl ?_
              refine kw_iconst dX7_opened_128 ?_
              refine kw_aload_n dX7_opened_129 rfl ?_
              refine k2_getI fd_X7_9 dX7_opened_130 wf_X7_47 (lsh_170 hL) ?_
              refine k2_callV2I (ci := 6) (N := 12) (T := TX7) rfl (lsh_170 hL) m_X7_fails dX7_opened_133 wl_X7_84 (Nat.le_of_ble_eq_true rfl) (kC2_mono H (fun r c35 H => ?_))
              obtain ⟨z34, rfl, H⟩ := H
              refine ⟨z34, rfl, ?_⟩
              have o36 := H.1
              have H := H.2
              refine k2_zret dX7_opened_136 rfl o36 H
          · have H := H.2 h20
            refine kw_aload_n dX7_opened_104 rfl ?_
            refine kw_iconst dX7_opened_105 ?_
            refine kw_aload_n dX7_opened_106 rfl ?_
            refine k2_getI fd_X7_9 dX7_opened_107 wf_X7_47 (lsh_170 hL) ?_
            refine k2_callV2I (ci := 6) (N := 12) (T := TX7) rfl (lsh_170 hL) m_X7_fails dX7_opened_110 wl_X7_84 (Nat.le_of_ble_eq_true rfl) (kC2_mono H (fun r c38 H => ?_))
            obtain ⟨z37, rfl, H⟩ := H
            refine ⟨z37, rfl, ?_⟩
            have o39 := H.1
            have H := H.2
            refine k2_zret dX7_opened_113 rfl o39 H
      · have H := H.2 h6
        refine kw_aload_n dX7_opened_26 rfl ?_
        refine kw_iload_n dX7_opened_27 rfl ?_
        refine kw_iconst dX7_opened_28 ?_
        refine kw_iadd dX7_opened_29 ?_
        refine k2_callV1I (ci := 6) (N := 12) (T := TX7) rfl (lsh_170 hL) m_X7_sum dX7_opened_30 wl_X7_70 (Nat.le_of_ble_eq_true rfl) (kC2_mono H (fun r c41 H => ?_))
        obtain ⟨z40, rfl, H⟩ := H
        refine ⟨z40, rfl, ?_⟩
        have o43 := H.1
        have H := H.2
        refine kw_if_ne 38 dX7_opened_33 (by decide) o43 (fun h42 => ?_) (fun h42 => ?_)
        · have H := H.1 h42
          refine kw_aload_n dX7_opened_38 rfl ?_
          refine k2_callV0I (ci := 6) (N := 12) (T := TX7) rfl (lsh_170 hL) m_X7_next dX7_opened_39 wl_X7_81 (Nat.le_of_ble_eq_true rfl) (kC2_mono H (fun r c45 H => ?_))
          obtain ⟨z44, rfl, H⟩ := H
          refine ⟨z44, rfl, ?_⟩
          refine kw_bipush dX7_opened_42 (by decide) ?_
          have o47 := H.1
          have H := H.2
          refine kw_icmp_eq 57 dX7_opened_44 (by decide) o47 (k32i (by omega)) (fun h46 => ?_) (fun h46 => ?_)
          · have H := H.1 h46
            refine kw_aload_n dX7_opened_57 rfl ?_
            refine kw_dup dX7_opened_58 rfl ?_
            refine k2_getI fd_X7_9 dX7_opened_59 wf_X7_47 (lsh_170 hL) ?_
            refine kw_iconst dX7_opened_62 ?_
            refine kw_iadd dX7_opened_63 ?_
            refine k2_putI fp_X7_9 dX7_opened_64 wf_X7_47 (lsh_170 hL) ?_
            refine kw_aload_n dX7_opened_67 rfl ?_
            refine k2_getR fd_X7_1 dX7_opened_68 wf_X7_20 (lsh_170 hL) (lrf_170_1 hL) ?_
            refine kw_iload_n dX7_opened_71 rfl ?_
            refine kw_iconst dX7_opened_72 ?_
            refine kw_iadd dX7_opened_73 ?_
            have q48 : 0 ≤ (x2 + 1) ∧ (x2 + 1) < 7 := (by omega)
            refine k2_aald5 dX7_opened_74 (lsh_186 hL) (by omega) q48 (lrw_186 hL q48).1 (by omega) ?_
            refine kw_aload_n dX7_opened_75 rfl ?_
            refine k2_getR fd_X7_3 dX7_opened_76 wf_X7_26 (lsh_170 hL) (lrf_170_3 hL) ?_
            refine kw_iload_n dX7_opened_79 rfl ?_
            have q49 : 0 ≤ x2 ∧ x2 < 7 := (by omega)
            refine k2_aald5 dX7_opened_80 (lsh_202 hL) (by omega) q49 (lrw_202 hL q49).1 (by omega) ?_
            refine k2_callS2N m_X0_copy dX7_opened_81 wl_X7_91 (Nat.le_of_ble_eq_true rfl) (kC2_mono H (fun r c51 H => ?_))
            obtain ⟨rfl, H⟩ := H
            refine ⟨rfl, ?_⟩
            refine kw_iconst dX7_opened_84 ?_
            refine k2_zret dX7_opened_85 rfl (Or.inr rfl) H
          · have H := H.2 h46
            refine kw_aload_n dX7_opened_47 rfl ?_
            refine kw_iconst dX7_opened_48 ?_
            refine kw_aload_n dX7_opened_49 rfl ?_
            refine k2_getI fd_X7_9 dX7_opened_50 wf_X7_47 (lsh_170 hL) ?_
            refine k2_callV2I (ci := 6) (N := 12) (T := TX7) rfl (lsh_170 hL) m_X7_fails dX7_opened_53 wl_X7_84 (Nat.le_of_ble_eq_true rfl) (kC2_mono H (fun r c53 H => ?_))
            obtain ⟨z52, rfl, H⟩ := H
            refine ⟨z52, rfl, ?_⟩
            have o54 := H.1
            have H := H.2
            refine k2_zret dX7_opened_56 rfl o54 H
        · have H := H.2 h42
          refine kw_iconst dX7_opened_36 ?_
          refine k2_zret dX7_opened_37 rfl (Or.inl rfl) H
    · have H := H.2 h5
      refine kw_aload_n dX7_opened_10 rfl ?_
      refine kw_iconst dX7_opened_11 ?_
      refine kw_aload_n dX7_opened_12 rfl ?_
      refine k2_getI fd_X7_9 dX7_opened_13 wf_X7_47 (lsh_170 hL) ?_
      refine k2_callV2I (ci := 6) (N := 12) (T := TX7) rfl (lsh_170 hL) m_X7_fails dX7_opened_16 wl_X7_84 (Nat.le_of_ble_eq_true rfl) (kC2_mono H (fun r c56 H => ?_))
      obtain ⟨z55, rfl, H⟩ := H
      refine ⟨z55, rfl, ?_⟩
      have o57 := H.1
      have H := H.2
      refine k2_zret dX7_opened_19 rfl o57 H
set_option maxRecDepth 4000 in
theorem v_X7_factor {G : KG} {S0 : KSh} (hL : kLay S0) {d : Nat} {P : Option AV → KMem → Prop} {c : KMem} {x1 : Int} (r1 : -2147483648 ≤ x1 ∧ x1 < 2147483648) (H : (x1 < 0 → (kC2 G S0 kM_X7_fails (d + 7) [kA 170, kI 5, kI (c 170 9)] c (kRI (fun z2 c3 => (z2 = 0 ∨ z2 = 1) ∧ (P (some (kI z2)) c3))))) ∧ (0 ≤ x1 → ((x1 ≤ 6 → (kC2 G S0 kM_X7_next (d + 7) [kA 170] c (kRI (fun z6 c7 => kC2 G S0 kM_X7_isOpener (d + 7) [kI z6] c7 (kRI (fun z8 c9 => (k32 z8) ∧ ((z8 = 0 → ((k32 z6) ∧ ((z6 < 65 → ((z6 ≠ 64 → (kC2 G S0 kM_X7_isDigit (d + 7) [kI z6] c9 (kRI (fun z15 c16 => (k32 z15) ∧ ((z15 = 0 → (kC2 G S0 kM_X7_unit (d + 7) [kA 170, kI z6, kA (202 + 1 + x1)] c16 (kRI (fun z20 c21 => (z20 = 0 ∨ z20 = 1) ∧ (P (some (kI z20)) c21))))) ∧ (z15 ≠ 0 → (kC2 G S0 kM_X7_counted (d + 7) [kA 170, kA (202 + 1 + x1)] c16 (kRI (fun z24 c25 => (z24 = 0 ∨ z24 = 1) ∧ (P (some (kI z24)) c25)))))))))) ∧ (z6 = 64 → (kC2 G S0 kM_X7_spotted (d + 7) [kA 170, kA (202 + 1 + x1)] c9 (kRI (fun z28 c29 => (z28 = 0 ∨ z28 = 1) ∧ (P (some (kI z28)) c29))))))) ∧ (65 ≤ z6 → ((77 ≤ z6 → ((z6 ≠ 64 → (kC2 G S0 kM_X7_isDigit (d + 7) [kI z6] c9 (kRI (fun z33 c34 => (k32 z33) ∧ ((z33 = 0 → (kC2 G S0 kM_X7_unit (d + 7) [kA 170, kI z6, kA (202 + 1 + x1)] c34 (kRI (fun z38 c39 => (z38 = 0 ∨ z38 = 1) ∧ (P (some (kI z38)) c39))))) ∧ (z33 ≠ 0 → (kC2 G S0 kM_X7_counted (d + 7) [kA 170, kA (202 + 1 + x1)] c34 (kRI (fun z42 c43 => (z42 = 0 ∨ z42 = 1) ∧ (P (some (kI z42)) c43)))))))))) ∧ (z6 = 64 → (kC2 G S0 kM_X7_spotted (d + 7) [kA 170, kA (202 + 1 + x1)] c9 (kRI (fun z46 c47 => (z46 = 0 ∨ z46 = 1) ∧ (P (some (kI z46)) c47))))))) ∧ (z6 < 77 → (kC2 G S0 kM_X7_letter (d + 7) [kA 170, kI (z6 - 65), kA (202 + 1 + x1)] c9 (kRI (fun z50 c51 => (z50 = 0 ∨ z50 = 1) ∧ (P (some (kI z50)) c51)))))))))) ∧ (z8 ≠ 0 → ((x1 ≠ 6 → (kC2 G S0 kM_X7_opened (d + 7) [kA 170, kI z6, kI x1] (kup c9 170 9 ((c9 170 9) + 1)) (kRI (fun z54 c55 => (z54 = 0 ∨ z54 = 1) ∧ (P (some (kI z54)) c55))))) ∧ (x1 = 6 → (kC2 G S0 kM_X7_fails (d + 7) [kA 170, kI 5, kI (c9 170 9)] c9 (kRI (fun z57 c58 => (z57 = 0 ∨ z57 = 1) ∧ (P (some (kI z57)) c58)))))))))))))) ∧ (6 < x1 → (kC2 G S0 kM_X7_fails (d + 7) [kA 170, kI 5, kI (c 170 9)] c (kRI (fun z60 c61 => (z60 = 0 ∨ z60 = 1) ∧ (P (some (kI z60)) c61)))))))) : kC2 G S0 kM_X7_factor (d + 8) [kA 170, kI x1] c P := by
  refine k2_met (by decide) rfl (Nat.le_of_ble_eq_true rfl) (l0 := [some (kA 170), some (kI x1), none]) rfl ?_
  refine kw_iload_n dX7_factor_0 rfl ?_
  refine kw_if_lt 10 dX7_factor_1 (by decide) (k32i (by omega)) (fun h1 => ?_) (fun h1 => ?_)
  · have H := H.1 h1
    refine kw_aload_n dX7_factor_10 rfl ?_
    refine kw_iconst dX7_factor_11 ?_
    refine kw_aload_n dX7_factor_12 rfl ?_
    refine k2_getI fd_X7_9 dX7_factor_13 wf_X7_47 (lsh_170 hL) ?_
    refine k2_callV2I (ci := 6) (N := 12) (T := TX7) rfl (lsh_170 hL) m_X7_fails dX7_factor_16 wl_X7_84 (Nat.le_of_ble_eq_true rfl) (kC2_mono H (fun r c3 H => ?_))
    obtain ⟨z2, rfl, H⟩ := H
    refine ⟨z2, rfl, ?_⟩
    have o4 := H.1
    have H := H.2
    refine k2_zret dX7_factor_19 rfl o4 H
  · have H := H.2 h1
    refine kw_iload_n dX7_factor_4 rfl ?_
    refine kw_bipush dX7_factor_5 (by decide) ?_
    refine kw_icmp_le 20 dX7_factor_7 (by decide) (k32i (by omega)) (k32i (by omega)) (fun h5 => ?_) (fun h5 => ?_)
    · have H := H.1 h5
      refine kw_aload_n dX7_factor_20 rfl ?_
      refine k2_callV0I (ci := 6) (N := 12) (T := TX7) rfl (lsh_170 hL) m_X7_next dX7_factor_21 wl_X7_81 (Nat.le_of_ble_eq_true rfl) (kC2_mono H (fun r c7 H => ?_))
      obtain ⟨z6, rfl, H⟩ := H
      refine ⟨z6, rfl, ?_⟩
      refine kw_istore_n dX7_factor_24 (Nat.le_of_ble_eq_true rfl) ?_
      refine kw_iload_n dX7_factor_25 rfl ?_
      refine k2_callS1I m_X7_isOpener dX7_factor_26 wl_X7_128 (Nat.le_of_ble_eq_true rfl) (kC2_mono H (fun r c9 H => ?_))
      obtain ⟨z8, rfl, H⟩ := H
      refine ⟨z8, rfl, ?_⟩
      have o11 := H.1
      have H := H.2
      refine kw_if_eq 65 dX7_factor_29 (by decide) o11 (fun h10 => ?_) (fun h10 => ?_)
      · have H := H.1 h10
        refine kw_iload_n dX7_factor_65 rfl ?_
        refine kw_bipush dX7_factor_66 (by decide) ?_
        have o13 := H.1
        have H := H.2
        refine kw_icmp_lt 92 dX7_factor_68 (by decide) o13 (k32i (by omega)) (fun h12 => ?_) (fun h12 => ?_)
        · have H := H.1 h12
          refine kw_iload_n dX7_factor_92 rfl ?_
          refine kw_bipush dX7_factor_93 (by decide) ?_
          refine kw_icmp_ne 109 dX7_factor_95 (by decide) o13 (k32i (by omega)) (fun h14 => ?_) (fun h14 => ?_)
          · have H := H.1 h14
            refine kw_iload_n dX7_factor_109 rfl ?_
            refine k2_callS1I m_X7_isDigit dX7_factor_110 wl_X7_141 (Nat.le_of_ble_eq_true rfl) (kC2_mono H (fun r c16 H => ?_))
            obtain ⟨z15, rfl, H⟩ := H
            refine ⟨z15, rfl, ?_⟩
            have o18 := H.1
            have H := H.2
            refine kw_if_eq 127 dX7_factor_113 (by decide) o18 (fun h17 => ?_) (fun h17 => ?_)
            · have H := H.1 h17
              refine kw_aload_n dX7_factor_127 rfl ?_
              refine kw_iload_n dX7_factor_128 rfl ?_
              refine kw_aload_n dX7_factor_129 rfl ?_
              refine k2_getR fd_X7_3 dX7_factor_130 wf_X7_26 (lsh_170 hL) (lrf_170_3 hL) ?_
              refine kw_iload_n dX7_factor_133 rfl ?_
              have q19 : 0 ≤ x1 ∧ x1 < 7 := (by omega)
              refine k2_aald5 dX7_factor_134 (lsh_202 hL) (by omega) q19 (lrw_202 hL q19).1 (by omega) ?_
              refine k2_callV2I (ci := 6) (N := 12) (T := TX7) rfl (lsh_170 hL) m_X7_unit dX7_factor_135 wl_X7_147 (Nat.le_of_ble_eq_true rfl) (kC2_mono H (fun r c21 H => ?_))
              obtain ⟨z20, rfl, H⟩ := H
              refine ⟨z20, rfl, ?_⟩
              have o22 := H.1
              have H := H.2
              refine k2_zret dX7_factor_138 rfl o22 H
            · have H := H.2 h17
              refine kw_aload_n dX7_factor_116 rfl ?_
              refine kw_aload_n dX7_factor_117 rfl ?_
              refine k2_getR fd_X7_3 dX7_factor_118 wf_X7_26 (lsh_170 hL) (lrf_170_3 hL) ?_
              refine kw_iload_n dX7_factor_121 rfl ?_
              have q23 : 0 ≤ x1 ∧ x1 < 7 := (by omega)
              refine k2_aald5 dX7_factor_122 (lsh_202 hL) (by omega) q23 (lrw_202 hL q23).1 (by omega) ?_
              refine k2_callV1I (ci := 6) (N := 12) (T := TX7) rfl (lsh_170 hL) m_X7_counted dX7_factor_123 wl_X7_144 (Nat.le_of_ble_eq_true rfl) (kC2_mono H (fun r c25 H => ?_))
              obtain ⟨z24, rfl, H⟩ := H
              refine ⟨z24, rfl, ?_⟩
              have o26 := H.1
              have H := H.2
              refine k2_zret dX7_factor_126 rfl o26 H
          · have H := H.2 h14
            refine kw_aload_n dX7_factor_98 rfl ?_
            refine kw_aload_n dX7_factor_99 rfl ?_
            refine k2_getR fd_X7_3 dX7_factor_100 wf_X7_26 (lsh_170 hL) (lrf_170_3 hL) ?_
            refine kw_iload_n dX7_factor_103 rfl ?_
            have q27 : 0 ≤ x1 ∧ x1 < 7 := (by omega)
            refine k2_aald5 dX7_factor_104 (lsh_202 hL) (by omega) q27 (lrw_202 hL q27).1 (by omega) ?_
            refine k2_callV1I (ci := 6) (N := 12) (T := TX7) rfl (lsh_170 hL) m_X7_spotted dX7_factor_105 wl_X7_138 (Nat.le_of_ble_eq_true rfl) (kC2_mono H (fun r c29 H => ?_))
            obtain ⟨z28, rfl, H⟩ := H
            refine ⟨z28, rfl, ?_⟩
            have o30 := H.1
            have H := H.2
            refine k2_zret dX7_factor_108 rfl o30 H
        · have H := H.2 h12
          refine kw_iload_n dX7_factor_71 rfl ?_
          refine kw_bipush dX7_factor_72 (by decide) ?_
          refine kw_icmp_ge 92 dX7_factor_74 (by decide) o13 (k32i (by omega)) (fun h31 => ?_) (fun h31 => ?_)
          · have H := H.1 h31
            refine kw_iload_n dX7_factor_92 rfl ?_
            refine kw_bipush dX7_factor_93 (by decide) ?_
            refine kw_icmp_ne 109 dX7_factor_95 (by decide) o13 (k32i (by omega)) (fun h32 => ?_) (fun h32 => ?_)
            · have H := H.1 h32
              refine kw_iload_n dX7_factor_109 rfl ?_
              refine k2_callS1I m_X7_isDigit dX7_factor_110 wl_X7_141 (Nat.le_of_ble_eq_true rfl) (kC2_mono H (fun r c34 H => ?_))
              obtain ⟨z33, rfl, H⟩ := H
              refine ⟨z33, rfl, ?_⟩
              have o36 := H.1
              have H := H.2
              refine kw_if_eq 127 dX7_factor_113 (by decide) o36 (fun h35 => ?_) (fun h35 => ?_)
              · have H := H.1 h35
                refine kw_aload_n dX7_factor_127 rfl ?_
                refine kw_iload_n dX7_factor_128 rfl ?_
                refine kw_aload_n dX7_factor_129 rfl ?_
                refine k2_getR fd_X7_3 dX7_factor_130 wf_X7_26 (lsh_170 hL) (lrf_170_3 hL) ?_
                refine kw_iload_n dX7_factor_133 rfl ?_
                have q37 : 0 ≤ x1 ∧ x1 < 7 := (by omega)
                refine k2_aald5 dX7_factor_134 (lsh_202 hL) (by omega) q37 (lrw_202 hL q37).1 (by omega) ?_
                refine k2_callV2I (ci := 6) (N := 12) (T := TX7) rfl (lsh_170 hL) m_X7_unit dX7_factor_135 wl_X7_147 (Nat.le_of_ble_eq_true rfl) (kC2_mono H (fun r c39 H => ?_))
                obtain ⟨z38, rfl, H⟩ := H
                refine ⟨z38, rfl, ?_⟩
                have o40 := H.1
                have H := H.2
                refine k2_zret dX7_factor_138 rfl o40 H
              · have H := H.2 h35
                refine kw_aload_n dX7_factor_116 rfl ?_
                refine kw_aload_n dX7_factor_117 rfl ?_
                refine k2_getR fd_X7_3 dX7_factor_118 wf_X7_26 (lsh_170 hL) (lrf_170_3 hL) ?_
                refine kw_iload_n dX7_factor_121 rfl ?_
                have q41 : 0 ≤ x1 ∧ x1 < 7 := (by omega)
                refine k2_aald5 dX7_factor_122 (lsh_202 hL) (by omega) q41 (lrw_202 hL q41).1 (by omega) ?_
                refine k2_callV1I (ci := 6) (N := 12) (T := TX7) rfl (lsh_170 hL) m_X7_counted dX7_factor_123 wl_X7_144 (Nat.le_of_ble_eq_true rfl) (kC2_mono H (fun r c43 H => ?_))
                obtain ⟨z42, rfl, H⟩ := H
                refine ⟨z42, rfl, ?_⟩
                have o44 := H.1
                have H := H.2
                refine k2_zret dX7_factor_126 rfl o44 H
            · have H := H.2 h32
              refine kw_aload_n dX7_factor_98 rfl ?_
              refine kw_aload_n dX7_factor_99 rfl ?_
              refine k2_getR fd_X7_3 dX7_factor_100 wf_X7_26 (lsh_170 hL) (lrf_170_3 hL) ?_
              refine kw_iload_n dX7_factor_103 rfl ?_
              have q45 : 0 ≤ x1 ∧ x1 < 7 := (by omega)
              refine k2_aald5 dX7_factor_104 (lsh_202 hL) (by omega) q45 (lrw_202 hL q45).1 (by omega) ?_
              refine k2_callV1I (ci := 6) (N := 12) (T := TX7) rfl (lsh_170 hL) m_X7_spotted dX7_factor_105 wl_X7_138 (Nat.le_of_ble_eq_true rfl) (kC2_mono H (fun r c47 H => ?_))
              obtain ⟨z46, rfl, H⟩ := H
              refine ⟨z46, rfl, ?_⟩
              have o48 := H.1
              have H := H.2
              refine k2_zret dX7_factor_108 rfl o48 H
          · have H := H.2 h31
            refine kw_aload_n dX7_factor_77 rfl ?_
            refine kw_iload_n dX7_factor_78 rfl ?_
            refine kw_bipush dX7_factor_79 (by decide) ?_
            refine kw_isub dX7_factor_81 ?_
            refine kw_aload_n dX7_factor_82 rfl ?_
            refine k2_getR fd_X7_3 dX7_factor_83 wf_X7_26 (lsh_170 hL) (lrf_170_3 hL) ?_
            refine kw_iload_n dX7_factor_86 rfl ?_
            have q49 : 0 ≤ x1 ∧ x1 < 7 := (by omega)
            refine k2_aald5 dX7_factor_87 (lsh_202 hL) (by omega) q49 (lrw_202 hL q49).1 (by omega) ?_
            refine k2_callV2I (ci := 6) (N := 12) (T := TX7) rfl (lsh_170 hL) m_X7_letter dX7_factor_88 wl_X7_134 (Nat.le_of_ble_eq_true rfl) (kC2_mono H (fun r c51 H => ?_))
            obtain ⟨z50, rfl, H⟩ := H
            refine ⟨z50, rfl, ?_⟩
            have o52 := H.1
            have H := H.2
            refine k2_zret dX7_factor_91 rfl o52 H
      · have H := H.2 h10
        refine kw_iload_n dX7_factor_32 rfl ?_
        refine kw_bipush dX7_factor_33 (by decide) ?_
        refine kw_icmp_ne 48 dX7_factor_35 (by decide) (k32i (by omega)) (k32i (by omega)) (fun h53 => ?_) (fun h53 => ?_)
        · have H := H.1 h53
          refine kw_aload_n dX7_factor_48 rfl ?_
          refine kw_dup dX7_factor_49 rfl ?_
          refine k2_getI fd_X7_9 dX7_factor_50 wf_X7_47 (lsh_170 hL) ?_
          refine kw_iconst dX7_factor_53 ?_
          refine kw_iadd dX7_factor_54 ?_
          refine k2_putI fp_X7_9 dX7_factor_55 wf_X7_47 (lsh_170 hL) ?_
          refine kw_aload_n dX7_factor_58 rfl ?_
          refine kw_iload_n dX7_factor_59 rfl ?_
          refine kw_iload_n dX7_factor_60 rfl ?_
          refine k2_callV2I (ci := 6) (N := 12) (T := TX7) rfl (lsh_170 hL) m_X7_opened dX7_factor_61 wl_X7_131 (Nat.le_of_ble_eq_true rfl) (kC2_mono H (fun r c55 H => ?_))
          obtain ⟨z54, rfl, H⟩ := H
          refine ⟨z54, rfl, ?_⟩
          have o56 := H.1
          have H := H.2
          refine k2_zret dX7_factor_64 rfl o56 H
        · have H := H.2 h53
          refine kw_aload_n dX7_factor_38 rfl ?_
          refine kw_iconst dX7_factor_39 ?_
          refine kw_aload_n dX7_factor_40 rfl ?_
          refine k2_getI fd_X7_9 dX7_factor_41 wf_X7_47 (lsh_170 hL) ?_
          refine k2_callV2I (ci := 6) (N := 12) (T := TX7) rfl (lsh_170 hL) m_X7_fails dX7_factor_44 wl_X7_84 (Nat.le_of_ble_eq_true rfl) (kC2_mono H (fun r c58 H => ?_))
          obtain ⟨z57, rfl, H⟩ := H
          refine ⟨z57, rfl, ?_⟩
          have o59 := H.1
          have H := H.2
          refine k2_zret dX7_factor_47 rfl o59 H
    · have H := H.2 h5
      refine kw_aload_n dX7_factor_10 rfl ?_
      refine kw_iconst dX7_factor_11 ?_
      refine kw_aload_n dX7_factor_12 rfl ?_
      refine k2_getI fd_X7_9 dX7_factor_13 wf_X7_47 (lsh_170 hL) ?_
      refine k2_callV2I (ci := 6) (N := 12) (T := TX7) rfl (lsh_170 hL) m_X7_fails dX7_factor_16 wl_X7_84 (Nat.le_of_ble_eq_true rfl) (kC2_mono H (fun r c61 H => ?_))
      obtain ⟨z60, rfl, H⟩ := H
      refine ⟨z60, rfl, ?_⟩
      have o62 := H.1
      have H := H.2
      refine k2_zret dX7_factor_19 rfl o62 H
set_option maxRecDepth 4000 in
theorem v_X7_term {G : KG} {S0 : KSh} (hL : kLay S0) {d : Nat} {P : Option AV → KMem → Prop} {c : KMem} {x1 : Int} (r1 : -2147483648 ≤ x1 ∧ x1 < 2147483648) (H : (x1 < 0 → (kC2 G S0 kM_X7_fails (d + 8) [kA 170, kI 5, kI (c 170 9)] c (kRI (fun z2 c3 => (z2 = 0 ∨ z2 = 1) ∧ (P (some (kI z2)) c3))))) ∧ (0 ≤ x1 → ((x1 ≤ 6 → (kC2 G S0 kM_X7_factor (d + 8) [kA 170, kI x1] c (kRI (fun z6 c7 => (k32 z6) ∧ ((z6 ≠ 0 → (kC2 G S0 kM_X0_copy (d + 8) [kA (202 + 1 + x1), kA (194 + 1 + x1)] c7 (kRN (fun c13 => kW2 G S0 kM_X7_term (d + 9) 55 [some (kA 170), some (kI x1), some (kI ((c13 170 8) - (c13 170 9))), none, none] [] c13 P)))) ∧ (z6 = 0 → (P (some (kI 0)) c7))))))) ∧ (6 < x1 → (kC2 G S0 kM_X7_fails (d + 8) [kA 170, kI 5, kI (c 170 9)] c (kRI (fun z14 c15 => (z14 = 0 ∨ z14 = 1) ∧ (P (some (kI z14)) c15)))))))) : kC2 G S0 kM_X7_term (d + 9) [kA 170, kI x1] c P := by
  refine k2_met (by decide) rfl (Nat.le_of_ble_eq_true rfl) (l0 := [some (kA 170), some (kI x1), none, none, none]) rfl ?_
  refine kw_iload_n dX7_term_0 rfl ?_
  refine kw_if_lt 10 dX7_term_1 (by decide) (k32i (by omega)) (fun h1 => ?_) (fun h1 => ?_)
  · have H := H.1 h1
    refine kw_aload_n dX7_term_10 rfl ?_
    refine kw_iconst dX7_term_11 ?_
    refine kw_aload_n dX7_term_12 rfl ?_
    refine k2_getI fd_X7_9 dX7_term_13 wf_X7_47 (lsh_170 hL) ?_
    refine k2_callV2I (ci := 6) (N := 12) (T := TX7) rfl (lsh_170 hL) m_X7_fails dX7_term_16 wl_X7_84 (Nat.le_of_ble_eq_true rfl) (kC2_mono H (fun r c3 H => ?_))
    obtain ⟨z2, rfl, H⟩ := H
    refine ⟨z2, rfl, ?_⟩
    have o4 := H.1
    have H := H.2
    refine k2_zret dX7_term_19 rfl o4 H
  · have H := H.2 h1
    refine kw_iload_n dX7_term_4 rfl ?_
    refine kw_bipush dX7_term_5 (by decide) ?_
    refine kw_icmp_le 20 dX7_term_7 (by decide) (k32i (by omega)) (k32i (by omega)) (fun h5 => ?_) (fun h5 => ?_)
    · have H := H.1 h5
      refine kw_aload_n dX7_term_20 rfl ?_
      refine kw_iload_n dX7_term_21 rfl ?_
      refine k2_callV1I (ci := 6) (N := 12) (T := TX7) rfl (lsh_170 hL) m_X7_factor dX7_term_22 wl_X7_105 (Nat.le_of_ble_eq_true rfl) (kC2_mono H (fun r c7 H => ?_))
      obtain ⟨z6, rfl, H⟩ := H
      refine ⟨z6, rfl, ?_⟩
      have o9 := H.1
      have H := H.2
      refine kw_if_ne 30 dX7_term_25 (by decide) o9 (fun h8 => ?_) (fun h8 => ?_)
      · have H := H.1 h8
        refine kw_aload_n dX7_term_30 rfl ?_
        refine k2_getR fd_X7_3 dX7_term_31 wf_X7_26 (lsh_170 hL) (lrf_170_3 hL) ?_
        refine kw_iload_n dX7_term_34 rfl ?_
        have q10 : 0 ≤ x1 ∧ x1 < 7 := (by omega)
        refine k2_aald5 dX7_term_35 (lsh_202 hL) (by omega) q10 (lrw_202 hL q10).1 (by omega) ?_
        refine kw_aload_n dX7_term_36 rfl ?_
        refine k2_getR fd_X7_2 dX7_term_37 wf_X7_23 (lsh_170 hL) (lrf_170_2 hL) ?_
        refine kw_iload_n dX7_term_40 rfl ?_
        have q11 : 0 ≤ x1 ∧ x1 < 7 := (by omega)
        refine k2_aald5 dX7_term_41 (lsh_194 hL) (by omega) q11 (lrw_194 hL q11).1 (by omega) ?_
        refine k2_callS2N m_X0_copy dX7_term_42 wl_X7_91 (Nat.le_of_ble_eq_true rfl) (kC2_mono H (fun r c13 H => ?_))
        obtain ⟨rfl, H⟩ := H
        refine ⟨rfl, ?_⟩
        refine kw_aload_n dX7_term_45 rfl ?_
        refine k2_getI fd_X7_8 dX7_term_46 wf_X7_43 (lsh_170 hL) ?_
        refine kw_aload_n dX7_term_49 rfl ?_
        refine k2_getI fd_X7_9 dX7_term_50 wf_X7_47 (lsh_170 hL) ?_
        refine kw_isub dX7_term_53 ?_
        refine kw_istore_n dX7_term_54 (Nat.le_of_ble_eq_true rfl) ?_
        exact kw_forget (ls' := [some (kA 170), some (kI x1), some (kI ((c13 170 8) - (c13 170 9))), none, none]) ⟨Or.inr rfl, ⟨Or.inr rfl, ⟨Or.inr rfl, ⟨Or.inr rfl, ⟨Or.inr rfl, trivial⟩⟩⟩⟩⟩ H
      · have H := H.2 h8
        refine kw_iconst dX7_term_28 ?_
        refine k2_zret dX7_term_29 rfl (Or.inl rfl) H
    · have H := H.2 h5
      refine kw_aload_n dX7_term_10 rfl ?_
      refine kw_iconst dX7_term_11 ?_
      refine kw_aload_n dX7_term_12 rfl ?_
      refine k2_getI fd_X7_9 dX7_term_13 wf_X7_47 (lsh_170 hL) ?_
      refine k2_callV2I (ci := 6) (N := 12) (T := TX7) rfl (lsh_170 hL) m_X7_fails dX7_term_16 wl_X7_84 (Nat.le_of_ble_eq_true rfl) (kC2_mono H (fun r c15 H => ?_))
      obtain ⟨z14, rfl, H⟩ := H
      refine ⟨z14, rfl, ?_⟩
      have o16 := H.1
      have H := H.2
      refine k2_zret dX7_term_19 rfl o16 H
set_option maxRecDepth 4000 in
theorem v_X7_term_55 {G : KG} {S0 : KSh} (hL : kLay S0) {d : Nat} {P : Option AV → KMem → Prop} {c : KMem} {x1 x2 : Int} (r1 : -2147483648 ≤ x1 ∧ x1 < 2147483648) (r2 : -2147483648 ≤ x2 ∧ x2 < 2147483648) (hp : 0 ≤ x1 ∧ x1 < 7) (H : (x2 ≤ 0 → (P (some (kI 1)) c)) ∧ (0 < x2 → (kC2 G S0 kM_X7_next (d + 8) [kA 170] c (kRI (fun z18 c19 => kC2 G S0 kM_X7_isSign (d + 8) [kI z18] c19 (kRI (fun z20 c21 => (k32 z20) ∧ ((z20 ≠ 0 → (kC2 G S0 kM_X7_factor (d + 8) [kA 170, kI x1] (kup c21 170 9 ((c21 170 9) + 1)) (kRI (fun z24 c25 => (k32 z24) ∧ ((z24 ≠ 0 → (kC2 G S0 kM_X7_combine (d + 8) [kA 170, kI z18, kA (194 + 1 + x1), kA (202 + 1 + x1)] c25 (kRI (fun z30 c31 => (k32 z30) ∧ ((z30 ≠ 0 → (kC2 G S0 kM_X0_copy (d + 8) [kA 212, kA (194 + 1 + x1)] c31 (kRN (fun c36 => kW2 G S0 kM_X7_term (d + 9) 55 [some (kA 170), some (kI x1), some (kI (x2 + -1)), none, none] [] c36 P)))) ∧ (z30 = 0 → (kC2 G S0 kM_X7_fails (d + 8) [kA 170, kI 8, kI (c21 170 9)] c31 (kRI (fun z37 c38 => (z37 = 0 ∨ z37 = 1) ∧ (P (some (kI z37)) c38)))))))))) ∧ (z24 = 0 → (P (some (kI 0)) c25))))))) ∧ (z20 = 0 → (P (some (kI 1)) c21)))))))))) : kW2 G S0 kM_X7_term (d + 9) 55 [some (kA 170), some (kI x1), some (kI x2), none, none] [] c P := by
  refine kw_iload_n dX7_term_55 rfl ?_
  refine kw_if_le 147 dX7_term_56 (by decide) (k32i (by omega)) (fun h17 => ?_) (fun h17 => ?_)
  · have H := H.1 h17
    refine kw_iconst dX7_term_147 ?_
    refine k2_zret dX7_term_148 rfl (Or.inr rfl) H
  · have H := H.2 h17
    refine kw_aload_n dX7_term_59 rfl ?_
    refine k2_callV0I (ci := 6) (N := 12) (T := TX7) rfl (lsh_170 hL) m_X7_next dX7_term_60 wl_X7_81 (Nat.le_of_ble_eq_true rfl) (kC2_mono H (fun r c19 H => ?_))
    obtain ⟨z18, rfl, H⟩ := H
    refine ⟨z18, rfl, ?_⟩
    refine kw_istore_n dX7_term_63 (Nat.le_of_ble_eq_true rfl) ?_
    refine kw_iload_n dX7_term_64 rfl ?_
    refine k2_callS1I m_X7_isSign dX7_term_65 wl_X7_108 (Nat.le_of_ble_eq_true rfl) (kC2_mono H (fun r c21 H => ?_))
    obtain ⟨z20, rfl, H⟩ := H
    refine ⟨z20, rfl, ?_⟩
    have o23 := H.1
    have H := H.2
    refine kw_if_ne 73 dX7_term_68 (by decide) o23 (fun h22 => ?_) (fun h22 => ?_)
    · have H := H.1 h22
      refine kw_aload_n dX7_term_73 rfl ?_
      refine k2_getI fd_X7_9 dX7_term_74 wf_X7_47 (lsh_170 hL) ?_
      refine kw_istore dX7_term_77 (Nat.le_of_ble_eq_true rfl) ?_
      refine kw_aload_n dX7_term_79 rfl ?_
      refine kw_dup dX7_term_80 rfl ?_
      refine k2_getI fd_X7_9 dX7_term_81 wf_X7_47 (lsh_170 hL) ?_
      refine kw_iconst dX7_term_84 ?_
      refine kw_iadd dX7_term_85 ?_
      refine k2_putI fp_X7_9 dX7_term_86 wf_X7_47 (lsh_170 hL) ?_
      refine kw_aload_n dX7_term_89 rfl ?_
      refine kw_iload_n dX7_term_90 rfl ?_
      refine k2_callV1I (ci := 6) (N := 12) (T := TX7) rfl (lsh_170 hL) m_X7_factor dX7_term_91 wl_X7_105 (Nat.le_of_ble_eq_true rfl) (kC2_mono H (fun r c25 H => ?_))
      obtain ⟨z24, rfl, H⟩ := H
      refine ⟨z24, rfl, ?_⟩
      have o27 := H.1
      have H := H.2
      refine kw_if_ne 99 dX7_term_94 (by decide) o27 (fun h26 => ?_) (fun h26 => ?_)
      · have H := H.1 h26
        refine kw_aload_n dX7_term_99 rfl ?_
        refine kw_iload_n dX7_term_100 rfl ?_
        refine kw_aload_n dX7_term_101 rfl ?_
        refine k2_getR fd_X7_2 dX7_term_102 wf_X7_23 (lsh_170 hL) (lrf_170_2 hL) ?_
        refine kw_iload_n dX7_term_105 rfl ?_
        have q28 : 0 ≤ x1 ∧ x1 < 7 := (by omega)
        refine k2_aald5 dX7_term_106 (lsh_194 hL) (by omega) q28 (lrw_194 hL q28).1 (by omega) ?_
        refine kw_aload_n dX7_term_107 rfl ?_
        refine k2_getR fd_X7_3 dX7_term_108 wf_X7_26 (lsh_170 hL) (lrf_170_3 hL) ?_
        refine kw_iload_n dX7_term_111 rfl ?_
        have q29 : 0 ≤ x1 ∧ x1 < 7 := (by omega)
        refine k2_aald5 dX7_term_112 (lsh_202 hL) (by omega) q29 (lrw_202 hL q29).1 (by omega) ?_
        refine k2_callV3I (ci := 6) (N := 12) (T := TX7) rfl (lsh_170 hL) m_X7_combine dX7_term_113 wl_X7_111 (Nat.le_of_ble_eq_true rfl) (kC2_mono H (fun r c31 H => ?_))
        obtain ⟨z30, rfl, H⟩ := H
        refine ⟨z30, rfl, ?_⟩
        have o33 := H.1
        have H := H.2
        refine kw_if_ne 128 dX7_term_116 (by decide) o33 (fun h32 => ?_) (fun h32 => ?_)
        · have H := H.1 h32
          refine kw_aload_n dX7_term_128 rfl ?_
          refine k2_getR fd_X7_6 dX7_term_129 wf_X7_36 (lsh_170 hL) (lrf_170_6 hL) ?_
          refine kw_aload_n dX7_term_132 rfl ?_
          refine k2_getR fd_X7_2 dX7_term_133 wf_X7_23 (lsh_170 hL) (lrf_170_2 hL) ?_
          refine kw_iload_n dX7_term_136 rfl ?_
          have q34 : 0 ≤ x1 ∧ x1 < 7 := (by omega)
          refine k2_aald5 dX7_term_137 (lsh_194 hL) (by omega) q34 (lrw_194 hL q34).1 (by omega) ?_
          refine k2_callS2N m_X0_copy dX7_term_138 wl_X7_91 (Nat.le_of_ble_eq_true rfl) (kC2_mono H (fun r c36 H => ?_))
          obtain ⟨rfl, H⟩ := H
          refine ⟨rfl, ?_⟩
          refine kw_iinc dX7_term_141 rfl ?_
          refine kw_goto 55 dX7_term_144 (by decide) ?_
          exact kw_forget (ls' := [some (kA 170), some (kI x1), some (kI (x2 + -1)), none, none]) ⟨Or.inr rfl, ⟨Or.inr rfl, ⟨Or.inr rfl, ⟨Or.inl rfl, ⟨Or.inl rfl, trivial⟩⟩⟩⟩⟩ H
        · have H := H.2 h32
          refine kw_aload_n dX7_term_119 rfl ?_
          refine kw_bipush dX7_term_120 (by decide) ?_
          refine kw_iload dX7_term_122 rfl ?_
          refine k2_callV2I (ci := 6) (N := 12) (T := TX7) rfl (lsh_170 hL) m_X7_fails dX7_term_124 wl_X7_84 (Nat.le_of_ble_eq_true rfl) (kC2_mono H (fun r c38 H => ?_))
          obtain ⟨z37, rfl, H⟩ := H
          refine ⟨z37, rfl, ?_⟩
          have o39 := H.1
          have H := H.2
          refine k2_zret dX7_term_127 rfl o39 H
      · have H := H.2 h26
        refine kw_iconst dX7_term_97 ?_
        refine k2_zret dX7_term_98 rfl (Or.inl rfl) H
    · have H := H.2 h22
      refine kw_iconst dX7_term_71 ?_
      refine k2_zret dX7_term_72 rfl (Or.inr rfl) H
set_option maxRecDepth 4000 in
theorem v_X7_sum {G : KG} {S0 : KSh} (hL : kLay S0) {d : Nat} {P : Option AV → KMem → Prop} {c : KMem} {x1 : Int} (r1 : -2147483648 ≤ x1 ∧ x1 < 2147483648) (H : (x1 < 0 → (kC2 G S0 kM_X7_fails (d + 9) [kA 170, kI 5, kI (c 170 9)] c (kRI (fun z2 c3 => (z2 = 0 ∨ z2 = 1) ∧ (P (some (kI z2)) c3))))) ∧ (0 ≤ x1 → ((x1 ≤ 6 → (kC2 G S0 kM_X7_term (d + 9) [kA 170, kI x1] c (kRI (fun z6 c7 => (k32 z6) ∧ ((z6 ≠ 0 → (kC2 G S0 kM_X0_copy (d + 9) [kA (194 + 1 + x1), kA (186 + 1 + x1)] c7 (kRN (fun c13 => kW2 G S0 kM_X7_sum (d + 10) 55 [some (kA 170), some (kI x1), some (kI ((c13 170 8) - (c13 170 9))), none, none] [] c13 P)))) ∧ (z6 = 0 → (P (some (kI 0)) c7))))))) ∧ (6 < x1 → (kC2 G S0 kM_X7_fails (d + 9) [kA 170, kI 5, kI (c 170 9)] c (kRI (fun z14 c15 => (z14 = 0 ∨ z14 = 1) ∧ (P (some (kI z14)) c15)))))))) : kC2 G S0 kM_X7_sum (d + 10) [kA 170, kI x1] c P := by
  refine k2_met (by decide) rfl (Nat.le_of_ble_eq_true rfl) (l0 := [some (kA 170), some (kI x1), none, none, none]) rfl ?_
  refine kw_iload_n dX7_sum_0 rfl ?_
  refine kw_if_lt 10 dX7_sum_1 (by decide) (k32i (by omega)) (fun h1 => ?_) (fun h1 => ?_)
  · have H := H.1 h1
    refine kw_aload_n dX7_sum_10 rfl ?_
    refine kw_iconst dX7_sum_11 ?_
    refine kw_aload_n dX7_sum_12 rfl ?_
    refine k2_getI fd_X7_9 dX7_sum_13 wf_X7_47 (lsh_170 hL) ?_
    refine k2_callV2I (ci := 6) (N := 12) (T := TX7) rfl (lsh_170 hL) m_X7_fails dX7_sum_16 wl_X7_84 (Nat.le_of_ble_eq_true rfl) (kC2_mono H (fun r c3 H => ?_))
    obtain ⟨z2, rfl, H⟩ := H
    refine ⟨z2, rfl, ?_⟩
    have o4 := H.1
    have H := H.2
    refine k2_zret dX7_sum_19 rfl o4 H
  · have H := H.2 h1
    refine kw_iload_n dX7_sum_4 rfl ?_
    refine kw_bipush dX7_sum_5 (by decide) ?_
    refine kw_icmp_le 20 dX7_sum_7 (by decide) (k32i (by omega)) (k32i (by omega)) (fun h5 => ?_) (fun h5 => ?_)
    · have H := H.1 h5
      refine kw_aload_n dX7_sum_20 rfl ?_
      refine kw_iload_n dX7_sum_21 rfl ?_
      refine k2_callV1I (ci := 6) (N := 12) (T := TX7) rfl (lsh_170 hL) m_X7_term dX7_sum_22 wl_X7_88 (Nat.le_of_ble_eq_true rfl) (kC2_mono H (fun r c7 H => ?_))
      obtain ⟨z6, rfl, H⟩ := H
      refine ⟨z6, rfl, ?_⟩
      have o9 := H.1
      have H := H.2
      refine kw_if_ne 30 dX7_sum_25 (by decide) o9 (fun h8 => ?_) (fun h8 => ?_)
      · have H := H.1 h8
        refine kw_aload_n dX7_sum_30 rfl ?_
        refine k2_getR fd_X7_2 dX7_sum_31 wf_X7_23 (lsh_170 hL) (lrf_170_2 hL) ?_
        refine kw_iload_n dX7_sum_34 rfl ?_
        have q10 : 0 ≤ x1 ∧ x1 < 7 := (by omega)
        refine k2_aald5 dX7_sum_35 (lsh_194 hL) (by omega) q10 (lrw_194 hL q10).1 (by omega) ?_
        refine kw_aload_n dX7_sum_36 rfl ?_
        refine k2_getR fd_X7_1 dX7_sum_37 wf_X7_20 (lsh_170 hL) (lrf_170_1 hL) ?_
        refine kw_iload_n dX7_sum_40 rfl ?_
        have q11 : 0 ≤ x1 ∧ x1 < 7 := (by omega)
        refine k2_aald5 dX7_sum_41 (lsh_186 hL) (by omega) q11 (lrw_186 hL q11).1 (by omega) ?_
        refine k2_callS2N m_X0_copy dX7_sum_42 wl_X7_91 (Nat.le_of_ble_eq_true rfl) (kC2_mono H (fun r c13 H => ?_))
        obtain ⟨rfl, H⟩ := H
        refine ⟨rfl, ?_⟩
        refine kw_aload_n dX7_sum_45 rfl ?_
        refine k2_getI fd_X7_8 dX7_sum_46 wf_X7_43 (lsh_170 hL) ?_
        refine kw_aload_n dX7_sum_49 rfl ?_
        refine k2_getI fd_X7_9 dX7_sum_50 wf_X7_47 (lsh_170 hL) ?_
        refine kw_isub dX7_sum_53 ?_
        refine kw_istore_n dX7_sum_54 (Nat.le_of_ble_eq_true rfl) ?_
        exact kw_forget (ls' := [some (kA 170), some (kI x1), some (kI ((c13 170 8) - (c13 170 9))), none, none]) ⟨Or.inr rfl, ⟨Or.inr rfl, ⟨Or.inr rfl, ⟨Or.inr rfl, ⟨Or.inr rfl, trivial⟩⟩⟩⟩⟩ H
      · have H := H.2 h8
        refine kw_iconst dX7_sum_28 ?_
        refine k2_zret dX7_sum_29 rfl (Or.inl rfl) H
    · have H := H.2 h5
      refine kw_aload_n dX7_sum_10 rfl ?_
      refine kw_iconst dX7_sum_11 ?_
      refine kw_aload_n dX7_sum_12 rfl ?_
      refine k2_getI fd_X7_9 dX7_sum_13 wf_X7_47 (lsh_170 hL) ?_
      refine k2_callV2I (ci := 6) (N := 12) (T := TX7) rfl (lsh_170 hL) m_X7_fails dX7_sum_16 wl_X7_84 (Nat.le_of_ble_eq_true rfl) (kC2_mono H (fun r c15 H => ?_))
      obtain ⟨z14, rfl, H⟩ := H
      refine ⟨z14, rfl, ?_⟩
      have o16 := H.1
      have H := H.2
      refine k2_zret dX7_sum_19 rfl o16 H
set_option maxRecDepth 4000 in
theorem v_X7_sum_55 {G : KG} {S0 : KSh} (hL : kLay S0) {d : Nat} {P : Option AV → KMem → Prop} {c : KMem} {x1 x2 : Int} (r1 : -2147483648 ≤ x1 ∧ x1 < 2147483648) (r2 : -2147483648 ≤ x2 ∧ x2 < 2147483648) (hp : 0 ≤ x1 ∧ x1 < 7) (H : (x2 ≤ 0 → (P (some (kI 1)) c)) ∧ (0 < x2 → (kC2 G S0 kM_X7_next (d + 9) [kA 170] c (kRI (fun z18 c19 => (k32 z18) ∧ ((z18 = 43 → (kC2 G S0 kM_X7_term (d + 9) [kA 170, kI x1] (kup c19 170 9 ((c19 170 9) + 1)) (kRI (fun z22 c23 => (k32 z22) ∧ ((z22 ≠ 0 → ((z18 ≠ 45 → (kC2 G S0 kM_X0_add (d + 9) [kA (194 + 1 + x1), kA (186 + 1 + x1), kI 0] c23 (kRN (fun c30 => kC2 G S0 kM_X0_isWithinBound (d + 9) [kA (186 + 1 + x1)] c30 (kRI (fun z32 c33 => (k32 z32) ∧ ((z32 ≠ 0 → (kW2 G S0 kM_X7_sum (d + 10) 55 [some (kA 170), some (kI x1), some (kI (x2 + -1)), none, none] [] c33 P)) ∧ (z32 = 0 → (kC2 G S0 kM_X7_fails (d + 9) [kA 170, kI 8, kI (c19 170 9)] c33 (kRI (fun z36 c37 => (z36 = 0 ∨ z36 = 1) ∧ (P (some (kI z36)) c37)))))))))))) ∧ (z18 = 45 → (kC2 G S0 kM_X0_add (d + 9) [kA (194 + 1 + x1), kA (186 + 1 + x1), kI 1] c23 (kRN (fun c40 => kC2 G S0 kM_X0_isWithinBound (d + 9) [kA (186 + 1 + x1)] c40 (kRI (fun z42 c43 => (k32 z42) ∧ ((z42 ≠ 0 → (kW2 G S0 kM_X7_sum (d + 10) 55 [some (kA 170), some (kI x1), some (kI (x2 + -1)), none, none] [] c43 P)) ∧ (z42 = 0 → (kC2 G S0 kM_X7_fails (d + 9) [kA 170, kI 8, kI (c19 170 9)] c43 (kRI (fun z46 c47 => (z46 = 0 ∨ z46 = 1) ∧ (P (some (kI z46)) c47)))))))))))))) ∧ (z22 = 0 → (P (some (kI 0)) c23))))))) ∧ (z18 ≠ 43 → ((z18 = 45 → (kC2 G S0 kM_X7_term (d + 9) [kA 170, kI x1] (kup c19 170 9 ((c19 170 9) + 1)) (kRI (fun z50 c51 => (k32 z50) ∧ ((z50 ≠ 0 → ((z18 ≠ 45 → (kC2 G S0 kM_X0_add (d + 9) [kA (194 + 1 + x1), kA (186 + 1 + x1), kI 0] c51 (kRN (fun c58 => kC2 G S0 kM_X0_isWithinBound (d + 9) [kA (186 + 1 + x1)] c58 (kRI (fun z60 c61 => (k32 z60) ∧ ((z60 ≠ 0 → (kW2 G S0 kM_X7_sum (d + 10) 55 [some (kA 170), some (kI x1), some (kI (x2 + -1)), none, none] [] c61 P)) ∧ (z60 = 0 → (kC2 G S0 kM_X7_fails (d + 9) [kA 170, kI 8, kI (c19 170 9)] c61 (kRI (fun z64 c65 => (z64 = 0 ∨ z64 = 1) ∧ (P (some (kI z64)) c65)))))))))))) ∧ (z18 = 45 → (kC2 G S0 kM_X0_add (d + 9) [kA (194 + 1 + x1), kA (186 + 1 + x1), kI 1] c51 (kRN (fun c68 => kC2 G S0 kM_X0_isWithinBound (d + 9) [kA (186 + 1 + x1)] c68 (kRI (fun z70 c71 => (k32 z70) ∧ ((z70 ≠ 0 → (kW2 G S0 kM_X7_sum (d + 10) 55 [some (kA 170), some (kI x1), some (kI (x2 + -1)), none, none] [] c71 P)) ∧ (z70 = 0 → (kC2 G S0 kM_X7_fails (d + 9) [kA 170, kI 8, kI (c19 170 9)] c71 (kRI (fun z74 c75 => (z74 = 0 ∨ z74 = 1) ∧ (P (some (kI z74)) c75)))))))))))))) ∧ (z50 = 0 → (P (some (kI 0)) c51))))))) ∧ (z18 ≠ 45 → (P (some (kI 1)) c19)))))))))) : kW2 G S0 kM_X7_sum (d + 10) 55 [some (kA 170), some (kI x1), some (kI x2), none, none] [] c P := by
  refine kw_iload_n dX7_sum_55 rfl ?_
  refine kw_if_le 157 dX7_sum_56 (by decide) (k32i (by omega)) (fun h17 => ?_) (fun h17 => ?_)
  · have H := H.1 h17
    refine kw_iconst dX7_sum_157 ?_
    refine k2_zret dX7_sum_158 rfl (Or.inr rfl) H
  · have H := H.2 h17
    refine kw_aload_n dX7_sum_59 rfl ?_
    refine k2_callV0I (ci := 6) (N := 12) (T := TX7) rfl (lsh_170 hL) m_X7_next dX7_sum_60 wl_X7_81 (Nat.le_of_ble_eq_true rfl) (kC2_mono H (fun r c19 H => ?_))
    obtain ⟨z18, rfl, H⟩ := H
    refine ⟨z18, rfl, ?_⟩
    refine kw_istore_n dX7_sum_63 (Nat.le_of_ble_eq_true rfl) ?_
    refine kw_iload_n dX7_sum_64 rfl ?_
    refine kw_bipush dX7_sum_65 (by decide) ?_
    have o21 := H.1
    have H := H.2
    refine kw_icmp_eq 78 dX7_sum_67 (by decide) o21 (k32i (by omega)) (fun h20 => ?_) (fun h20 => ?_)
    · have H := H.1 h20
      refine kw_aload_n dX7_sum_78 rfl ?_
      refine k2_getI fd_X7_9 dX7_sum_79 wf_X7_47 (lsh_170 hL) ?_
      refine kw_istore dX7_sum_82 (Nat.le_of_ble_eq_true rfl) ?_
      refine kw_aload_n dX7_sum_84 rfl ?_
      refine kw_dup dX7_sum_85 rfl ?_
      refine k2_getI fd_X7_9 dX7_sum_86 wf_X7_47 (lsh_170 hL) ?_
      refine kw_iconst dX7_sum_89 ?_
      refine kw_iadd dX7_sum_90 ?_
      refine k2_putI fp_X7_9 dX7_sum_91 wf_X7_47 (lsh_170 hL) ?_
      refine kw_aload_n dX7_sum_94 rfl ?_
      refine kw_iload_n dX7_sum_95 rfl ?_
      refine k2_callV1I (ci := 6) (N := 12) (T := TX7) rfl (lsh_170 hL) m_X7_term dX7_sum_96 wl_X7_88 (Nat.le_of_ble_eq_true rfl) (kC2_mono H (fun r c23 H => ?_))
      obtain ⟨z22, rfl, H⟩ := H
      refine ⟨z22, rfl, ?_⟩
      have o25 := H.1
      have H := H.2
      refine kw_if_ne 104 dX7_sum_99 (by decide) o25 (fun h24 => ?_) (fun h24 => ?_)
      · have H := H.1 h24
        refine kw_aload_n dX7_sum_104 rfl ?_
        refine k2_getR fd_X7_2 dX7_sum_105 wf_X7_23 (lsh_170 hL) (lrf_170_2 hL) ?_
        refine kw_iload_n dX7_sum_108 rfl ?_
        have q26 : 0 ≤ x1 ∧ x1 < 7 := (by omega)
        refine k2_aald5 dX7_sum_109 (lsh_194 hL) (by omega) q26 (lrw_194 hL q26).1 (by omega) ?_
        refine kw_aload_n dX7_sum_110 rfl ?_
        refine k2_getR fd_X7_1 dX7_sum_111 wf_X7_20 (lsh_170 hL) (lrf_170_1 hL) ?_
        refine kw_iload_n dX7_sum_114 rfl ?_
        have q27 : 0 ≤ x1 ∧ x1 < 7 := (by omega)
        refine k2_aald5 dX7_sum_115 (lsh_186 hL) (by omega) q27 (lrw_186 hL q27).1 (by omega) ?_
        refine kw_iload_n dX7_sum_116 rfl ?_
        refine kw_bipush dX7_sum_117 (by decide) ?_
        refine kw_icmp_ne 126 dX7_sum_119 (by decide) o21 (k32i (by omega)) (fun h28 => ?_) (fun h28 => ?_)
        · have H := H.1 h28
          refine kw_iconst dX7_sum_126 ?_
          refine k2_callS3N m_X0_add dX7_sum_127 wl_X7_97 (Nat.le_of_ble_eq_true rfl) (kC2_mono H (fun r c30 H => ?_))
          obtain ⟨rfl, H⟩ := H
          refine ⟨rfl, ?_⟩
          refine kw_aload_n dX7_sum_130 rfl ?_
          refine k2_getR fd_X7_1 dX7_sum_131 wf_X7_20 (lsh_170 hL) (lrf_170_1 hL) ?_
          refine kw_iload_n dX7_sum_134 rfl ?_
          have q31 : 0 ≤ x1 ∧ x1 < 7 := (by omega)
          refine k2_aald5 dX7_sum_135 (lsh_186 hL) (by omega) q31 (lrw_186 hL q31).1 (by omega) ?_
          refine k2_callS1I m_X0_isWithinBound dX7_sum_136 wl_X7_101 (Nat.le_of_ble_eq_true rfl) (kC2_mono H (fun r c33 H => ?_))
          obtain ⟨z32, rfl, H⟩ := H
          refine ⟨z32, rfl, ?_⟩
          have o35 := H.1
          have H := H.2
          refine kw_if_ne 151 dX7_sum_139 (by decide) o35 (fun h34 => ?_) (fun h34 => ?_)
          · have H := H.1 h34
            refine kw_iinc dX7_sum_151 rfl ?_
            refine kw_goto 55 dX7_sum_154 (by decide) ?_
            exact kw_forget (ls' := [some (kA 170), some (kI x1), some (kI (x2 + -1)), none, none]) ⟨Or.inr rfl, ⟨Or.inr rfl, ⟨Or.inr rfl, ⟨Or.inl rfl, ⟨Or.inl rfl, trivial⟩⟩⟩⟩⟩ H
          · have H := H.2 h34
            refine kw_aload_n dX7_sum_142 rfl ?_
            refine kw_bipush dX7_sum_143 (by decide) ?_
            refine kw_iload dX7_sum_145 rfl ?_
            refine k2_callV2I (ci := 6) (N := 12) (T := TX7) rfl (lsh_170 hL) m_X7_fails dX7_sum_147 wl_X7_84 (Nat.le_of_ble_eq_true rfl) (kC2_mono H (fun r c37 H => ?_))
            obtain ⟨z36, rfl, H⟩ := H
            refine ⟨z36, rfl, ?_⟩
            have o38 := H.1
            have H := H.2
            refine k2_zret dX7_sum_150 rfl o38 H
        · have H := H.2 h28
          refine kw_iconst dX7_sum_122 ?_
          refine kw_goto 127 dX7_sum_123 (by decide) ?_
          refine k2_callS3N m_X0_add dX7_sum_127 wl_X7_97 (Nat.le_of_ble_eq_true rfl) (kC2_mono H (fun r c40 H => ?_))
          obtain ⟨rfl, H⟩ := H
          refine ⟨rfl, ?_⟩
          refine kw_aload_n dX7_sum_130 rfl ?_
          refine k2_getR fd_X7_1 dX7_sum_131 wf_X7_20 (lsh_170 hL) (lrf_170_1 hL) ?_
          refine kw_iload_n dX7_sum_134 rfl ?_
          have q41 : 0 ≤ x1 ∧ x1 < 7 := (by omega)
          refine k2_aald5 dX7_sum_135 (lsh_186 hL) (by omega) q41 (lrw_186 hL q41).1 (by omega) ?_
          refine k2_callS1I m_X0_isWithinBound dX7_sum_136 wl_X7_101 (Nat.le_of_ble_eq_true rfl) (kC2_mono H (fun r c43 H => ?_))
          obtain ⟨z42, rfl, H⟩ := H
          refine ⟨z42, rfl, ?_⟩
          have o45 := H.1
          have H := H.2
          refine kw_if_ne 151 dX7_sum_139 (by decide) o45 (fun h44 => ?_) (fun h44 => ?_)
          · have H := H.1 h44
            refine kw_iinc dX7_sum_151 rfl ?_
            refine kw_goto 55 dX7_sum_154 (by decide) ?_
            exact kw_forget (ls' := [some (kA 170), some (kI x1), some (kI (x2 + -1)), none, none]) ⟨Or.inr rfl, ⟨Or.inr rfl, ⟨Or.inr rfl, ⟨Or.inl rfl, ⟨Or.inl rfl, trivial⟩⟩⟩⟩⟩ H
          · have H := H.2 h44
            refine kw_aload_n dX7_sum_142 rfl ?_
            refine kw_bipush dX7_sum_143 (by decide) ?_
            refine kw_iload dX7_sum_145 rfl ?_
            refine k2_callV2I (ci := 6) (N := 12) (T := TX7) rfl (lsh_170 hL) m_X7_fails dX7_sum_147 wl_X7_84 (Nat.le_of_ble_eq_true rfl) (kC2_mono H (fun r c47 H => ?_))
            obtain ⟨z46, rfl, H⟩ := H
            refine ⟨z46, rfl, ?_⟩
            have o48 := H.1
            have H := H.2
            refine k2_zret dX7_sum_150 rfl o48 H
      · have H := H.2 h24
        refine kw_iconst dX7_sum_102 ?_
        refine k2_zret dX7_sum_103 rfl (Or.inl rfl) H
    · have H := H.2 h20
      refine kw_iload_n dX7_sum_70 rfl ?_
      refine kw_bipush dX7_sum_71 (by decide) ?_
      refine kw_icmp_eq 78 dX7_sum_73 (by decide) o21 (k32i (by omega)) (fun h49 => ?_) (fun h49 => ?_)
      · have H := H.1 h49
        refine kw_aload_n dX7_sum_78 rfl ?_
        refine k2_getI fd_X7_9 dX7_sum_79 wf_X7_47 (lsh_170 hL) ?_
        refine kw_istore dX7_sum_82 (Nat.le_of_ble_eq_true rfl) ?_
        refine kw_aload_n dX7_sum_84 rfl ?_
        refine kw_dup dX7_sum_85 rfl ?_
        refine k2_getI fd_X7_9 dX7_sum_86 wf_X7_47 (lsh_170 hL) ?_
        refine kw_iconst dX7_sum_89 ?_
        refine kw_iadd dX7_sum_90 ?_
        refine k2_putI fp_X7_9 dX7_sum_91 wf_X7_47 (lsh_170 hL) ?_
        refine kw_aload_n dX7_sum_94 rfl ?_
        refine kw_iload_n dX7_sum_95 rfl ?_
        refine k2_callV1I (ci := 6) (N := 12) (T := TX7) rfl (lsh_170 hL) m_X7_term dX7_sum_96 wl_X7_88 (Nat.le_of_ble_eq_true rfl) (kC2_mono H (fun r c51 H => ?_))
        obtain ⟨z50, rfl, H⟩ := H
        refine ⟨z50, rfl, ?_⟩
        have o53 := H.1
        have H := H.2
        refine kw_if_ne 104 dX7_sum_99 (by decide) o53 (fun h52 => ?_) (fun h52 => ?_)
        · have H := H.1 h52
          refine kw_aload_n dX7_sum_104 rfl ?_
          refine k2_getR fd_X7_2 dX7_sum_105 wf_X7_23 (lsh_170 hL) (lrf_170_2 hL) ?_
          refine kw_iload_n dX7_sum_108 rfl ?_
          have q54 : 0 ≤ x1 ∧ x1 < 7 := (by omega)
          refine k2_aald5 dX7_sum_109 (lsh_194 hL) (by omega) q54 (lrw_194 hL q54).1 (by omega) ?_
          refine kw_aload_n dX7_sum_110 rfl ?_
          refine k2_getR fd_X7_1 dX7_sum_111 wf_X7_20 (lsh_170 hL) (lrf_170_1 hL) ?_
          refine kw_iload_n dX7_sum_114 rfl ?_
          have q55 : 0 ≤ x1 ∧ x1 < 7 := (by omega)
          refine k2_aald5 dX7_sum_115 (lsh_186 hL) (by omega) q55 (lrw_186 hL q55).1 (by omega) ?_
          refine kw_iload_n dX7_sum_116 rfl ?_
          refine kw_bipush dX7_sum_117 (by decide) ?_
          refine kw_icmp_ne 126 dX7_sum_119 (by decide) o21 (k32i (by omega)) (fun h56 => ?_) (fun h56 => ?_)
          · have H := H.1 h56
            refine kw_iconst dX7_sum_126 ?_
            refine k2_callS3N m_X0_add dX7_sum_127 wl_X7_97 (Nat.le_of_ble_eq_true rfl) (kC2_mono H (fun r c58 H => ?_))
            obtain ⟨rfl, H⟩ := H
            refine ⟨rfl, ?_⟩
            refine kw_aload_n dX7_sum_130 rfl ?_
            refine k2_getR fd_X7_1 dX7_sum_131 wf_X7_20 (lsh_170 hL) (lrf_170_1 hL) ?_
            refine kw_iload_n dX7_sum_134 rfl ?_
            have q59 : 0 ≤ x1 ∧ x1 < 7 := (by omega)
            refine k2_aald5 dX7_sum_135 (lsh_186 hL) (by omega) q59 (lrw_186 hL q59).1 (by omega) ?_
            refine k2_callS1I m_X0_isWithinBound dX7_sum_136 wl_X7_101 (Nat.le_of_ble_eq_true rfl) (kC2_mono H (fun r c61 H => ?_))
            obtain ⟨z60, rfl, H⟩ := H
            refine ⟨z60, rfl, ?_⟩
            have o63 := H.1
            have H := H.2
            refine kw_if_ne 151 dX7_sum_139 (by decide) o63 (fun h62 => ?_) (fun h62 => ?_)
            · have H := H.1 h62
              refine kw_iinc dX7_sum_151 rfl ?_
              refine kw_goto 55 dX7_sum_154 (by decide) ?_
              exact kw_forget (ls' := [some (kA 170), some (kI x1), some (kI (x2 + -1)), none, none]) ⟨Or.inr rfl, ⟨Or.inr rfl, ⟨Or.inr rfl, ⟨Or.inl rfl, ⟨Or.inl rfl, trivial⟩⟩⟩⟩⟩ H
            · have H := H.2 h62
              refine kw_aload_n dX7_sum_142 rfl ?_
              refine kw_bipush dX7_sum_143 (by decide) ?_
              refine kw_iload dX7_sum_145 rfl ?_
              refine k2_callV2I (ci := 6) (N := 12) (T := TX7) rfl (lsh_170 hL) m_X7_fails dX7_sum_147 wl_X7_84 (Nat.le_of_ble_eq_true rfl) (kC2_mono H (fun r c65 H => ?_))
              obtain ⟨z64, rfl, H⟩ := H
              refine ⟨z64, rfl, ?_⟩
              have o66 := H.1
              have H := H.2
              refine k2_zret dX7_sum_150 rfl o66 H
          · have H := H.2 h56
            refine kw_iconst dX7_sum_122 ?_
            refine kw_goto 127 dX7_sum_123 (by decide) ?_
            refine k2_callS3N m_X0_add dX7_sum_127 wl_X7_97 (Nat.le_of_ble_eq_true rfl) (kC2_mono H (fun r c68 H => ?_))
            obtain ⟨rfl, H⟩ := H
            refine ⟨rfl, ?_⟩
            refine kw_aload_n dX7_sum_130 rfl ?_
            refine k2_getR fd_X7_1 dX7_sum_131 wf_X7_20 (lsh_170 hL) (lrf_170_1 hL) ?_
            refine kw_iload_n dX7_sum_134 rfl ?_
            have q69 : 0 ≤ x1 ∧ x1 < 7 := (by omega)
            refine k2_aald5 dX7_sum_135 (lsh_186 hL) (by omega) q69 (lrw_186 hL q69).1 (by omega) ?_
            refine k2_callS1I m_X0_isWithinBound dX7_sum_136 wl_X7_101 (Nat.le_of_ble_eq_true rfl) (kC2_mono H (fun r c71 H => ?_))
            obtain ⟨z70, rfl, H⟩ := H
            refine ⟨z70, rfl, ?_⟩
            have o73 := H.1
            have H := H.2
            refine kw_if_ne 151 dX7_sum_139 (by decide) o73 (fun h72 => ?_) (fun h72 => ?_)
            · have H := H.1 h72
              refine kw_iinc dX7_sum_151 rfl ?_
              refine kw_goto 55 dX7_sum_154 (by decide) ?_
              exact kw_forget (ls' := [some (kA 170), some (kI x1), some (kI (x2 + -1)), none, none]) ⟨Or.inr rfl, ⟨Or.inr rfl, ⟨Or.inr rfl, ⟨Or.inl rfl, ⟨Or.inl rfl, trivial⟩⟩⟩⟩⟩ H
            · have H := H.2 h72
              refine kw_aload_n dX7_sum_142 rfl ?_
              refine kw_bipush dX7_sum_143 (by decide) ?_
              refine kw_iload dX7_sum_145 rfl ?_
              refine k2_callV2I (ci := 6) (N := 12) (T := TX7) rfl (lsh_170 hL) m_X7_fails dX7_sum_147 wl_X7_84 (Nat.le_of_ble_eq_true rfl) (kC2_mono H (fun r c75 H => ?_))
              obtain ⟨z74, rfl, H⟩ := H
              refine ⟨z74, rfl, ?_⟩
              have o76 := H.1
              have H := H.2
              refine k2_zret dX7_sum_150 rfl o76 H
        · have H := H.2 h52
          refine kw_iconst dX7_sum_102 ?_
          refine k2_zret dX7_sum_103 rfl (Or.inl rfl) H
      · have H := H.2 h49
        refine kw_iconst dX7_sum_76 ?_
        refine k2_zret dX7_sum_77 rfl (Or.inr rfl) H
set_option maxRecDepth 4000 in
theorem v_X7_read {G : KG} {S0 : KSh} (hL : kLay S0) {d : Nat} {P : Option AV → KMem → Prop} {c : KMem} {x1 x2 x3 : Int} {n1 : Nat} (hn1 : n1 < 1073741824) (hx1 : S0.2.1 x1 = (1, n1)) (r2 : -2147483648 ≤ x2 ∧ x2 < 2147483648) (hx3 : kLet S0 x3) (H : kC2 G S0 kM_J9_min_7cf53 (d + 10) [kI x2, kI (n1 : Int)] (kup c 170 7 x1) (kRI (fun z1 c2 => kC2 G S0 kM_X1_become (d + 10) [kA 171, kA x3] (kup (kup c2 170 8 z1) 170 9 0) (kRN (fun c4 => kW2 G S0 kM_X7_read (d + 11) 31 [some (kA 170), none, none, none, some (kI 1), none] [] c4 P))))) : kC2 G S0 kM_X7_read (d + 11) [kA 170, kA x1, kI x2, kA x3] c P := by
  refine k2_met (by decide) rfl (Nat.le_of_ble_eq_true rfl) (l0 := [some (kA 170), some (kA x1), some (kI x2), some (kA x3), none, none]) rfl ?_
  refine kw_aload_n dX7_read_0 rfl ?_
  refine kw_aload_n dX7_read_1 rfl ?_
  refine k2_putD fp_X7_7 dX7_read_2 wf_X7_39 (lsh_170 hL) ?_
  refine kw_aload_n dX7_read_5 rfl ?_
  refine kw_iload_n dX7_read_6 rfl ?_
  refine kw_aload_n dX7_read_7 rfl ?_
  refine kw_alen dX7_read_8 hx1 ?_
  refine k2_callS2I m_J9_min_7cf53 dX7_read_9 wl_X7_56 (Nat.le_of_ble_eq_true rfl) (kC2_mono H (fun r c2 H => ?_))
  obtain ⟨z1, rfl, H⟩ := H
  refine ⟨z1, rfl, ?_⟩
  refine k2_putI fp_X7_8 dX7_read_12 wf_X7_43 (lsh_170 hL) ?_
  refine kw_aload_n dX7_read_15 rfl ?_
  refine kw_iconst dX7_read_16 ?_
  refine k2_putI fp_X7_9 dX7_read_17 wf_X7_47 (lsh_170 hL) ?_
  refine kw_aload_n dX7_read_20 rfl ?_
  refine k2_getR fd_X7_0 dX7_read_21 wf_X7_12 (lsh_170 hL) (lrf_170_0 hL) ?_
  refine kw_aload_n dX7_read_24 rfl ?_
  refine k2_callV1N (ci := 0) (N := 2) (T := TX1) rfl (llt_171 hL).1 m_X1_become dX7_read_25 wl_X7_62 (Nat.le_of_ble_eq_true rfl) (kC2_mono H (fun r c4 H => ?_))
  obtain ⟨rfl, H⟩ := H
  refine ⟨rfl, ?_⟩
  refine kw_iconst dX7_read_28 ?_
  refine kw_istore dX7_read_29 (Nat.le_of_ble_eq_true rfl) ?_
  exact kw_forget (ls' := [some (kA 170), none, none, none, some (kI 1), none]) ⟨Or.inr rfl, ⟨Or.inl rfl, ⟨Or.inl rfl, ⟨Or.inl rfl, ⟨Or.inr rfl, ⟨Or.inr rfl, trivial⟩⟩⟩⟩⟩⟩ H
set_option maxRecDepth 4000 in
theorem v_X7_read_31 {G : KG} {S0 : KSh} (hL : kLay S0) {d : Nat} {P : Option AV → KMem → Prop} {c : KMem} {x4 : Int} (r4 : 0 ≤ x4 ∧ x4 < 2147483648) (H : (12 < x4 → (kC2 G S0 kM_X7_fails (d + 10) [kA 170, kI 4, kI (c 170 9)] c (kRI (fun z6 c7 => kC2 G S0 kM_X7_toldFault (d + 10) [kA 170] c7 (kRI (fun z8 c9 => P (some (kI z8)) c9)))))) ∧ (x4 ≤ 12 → (kC2 G S0 kM_X7_target (d + 10) [kA 170] c (kRI (fun z10 c11 => (k32 z10) ∧ ((z10 = (-1) → (kC2 G S0 kM_X7_toldFault (d + 10) [kA 170] c11 (kRI (fun z14 c15 => P (some (kI z14)) c15)))) ∧ (z10 ≠ (-1) → (kC2 G S0 kM_X7_sum (d + 10) [kA 170, kI 0] c11 (kRI (fun z16 c17 => (k32 z16) ∧ ((z16 ≠ 0 → (kC2 G S0 kM_X1_put (d + 10) [kA 171, kI z10, kA 187] c17 (kRN (fun c22 => (k32 (c22 170 9)) ∧ ((k32 (c22 170 8)) ∧ (((c22 170 9) < (c22 170 8) → (kC2 G S0 kM_X7_next (d + 10) [kA 170] c22 (kRI (fun z26 c27 => (k32 z26) ∧ ((z26 = 59 → (kW2 G S0 kM_X7_read (d + 11) 31 [some (kA 170), none, none, none, some (kI (x4 + 1)), none] [] (kup c27 170 9 ((c27 170 9) + 1)) P)) ∧ (z26 ≠ 59 → (kC2 G S0 kM_X7_fails (d + 10) [kA 170, kI 1, kI (c27 170 9)] c27 (kRI (fun z30 c31 => kC2 G S0 kM_X7_toldFault (d + 10) [kA 170] c31 (kRI (fun z32 c33 => P (some (kI z32)) c33))))))))))) ∧ ((c22 170 8) ≤ (c22 170 9) → (P (some (kI x4)) c22)))))))) ∧ (z16 = 0 → (kC2 G S0 kM_X7_toldFault (d + 10) [kA 170] c17 (kRI (fun z34 c35 => P (some (kI z34)) c35))))))))))))))) : kW2 G S0 kM_X7_read (d + 11) 31 [some (kA 170), none, none, none, some (kI x4), none] [] c P := by
  refine kw_iload dX7_read_31 rfl ?_
  refine kw_bipush dX7_read_33 (by decide) ?_
  refine kw_icmp_gt 132 dX7_read_35 (by decide) (k32i (by omega)) (k32i (by omega)) (fun h5 => ?_) (fun h5 => ?_)
  · have H := H.1 h5
    refine kw_aload_n dX7_read_132 rfl ?_
    refine kw_iconst dX7_read_133 ?_
    refine kw_aload_n dX7_read_134 rfl ?_
    refine k2_getI fd_X7_9 dX7_read_135 wf_X7_47 (lsh_170 hL) ?_
    refine k2_callV2I (ci := 6) (N := 12) (T := TX7) rfl (lsh_170 hL) m_X7_fails dX7_read_138 wl_X7_84 (Nat.le_of_ble_eq_true rfl) (kC2_mono H (fun r c7 H => ?_))
    obtain ⟨z6, rfl, H⟩ := H
    refine ⟨z6, rfl, ?_⟩
    refine kw_pop dX7_read_141 rfl ?_
    refine kw_aload_n dX7_read_142 rfl ?_
    refine k2_callV0I (ci := 6) (N := 12) (T := TX7) rfl (lsh_170 hL) m_X7_toldFault dX7_read_143 wl_X7_74 (Nat.le_of_ble_eq_true rfl) (kC2_mono H (fun r c9 H => ?_))
    obtain ⟨z8, rfl, H⟩ := H
    refine ⟨z8, rfl, ?_⟩
    refine k2_iret dX7_read_146 rfl H
  · have H := H.2 h5
    refine kw_aload_n dX7_read_38 rfl ?_
    refine k2_callV0I (ci := 6) (N := 12) (T := TX7) rfl (lsh_170 hL) m_X7_target dX7_read_39 wl_X7_66 (Nat.le_of_ble_eq_true rfl) (kC2_mono H (fun r c11 H => ?_))
    obtain ⟨z10, rfl, H⟩ := H
    refine ⟨z10, rfl, ?_⟩
    refine kw_istore dX7_read_42 (Nat.le_of_ble_eq_true rfl) ?_
    refine kw_iload dX7_read_44 rfl ?_
    refine kw_iconst dX7_read_46 ?_
    have o13 := H.1
    have H := H.2
    refine kw_icmp_eq 58 dX7_read_47 (by decide) o13 (k32i (by omega)) (fun h12 => ?_) (fun h12 => ?_)
    · have H := H.1 h12
      refine kw_aload_n dX7_read_58 rfl ?_
      refine k2_callV0I (ci := 6) (N := 12) (T := TX7) rfl (lsh_170 hL) m_X7_toldFault dX7_read_59 wl_X7_74 (Nat.le_of_ble_eq_true rfl) (kC2_mono H (fun r c15 H => ?_))
      obtain ⟨z14, rfl, H⟩ := H
      refine ⟨z14, rfl, ?_⟩
      refine k2_iret dX7_read_62 rfl H
    · have H := H.2 h12
      refine kw_aload_n dX7_read_50 rfl ?_
      refine kw_iconst dX7_read_51 ?_
      refine k2_callV1I (ci := 6) (N := 12) (T := TX7) rfl (lsh_170 hL) m_X7_sum dX7_read_52 wl_X7_70 (Nat.le_of_ble_eq_true rfl) (kC2_mono H (fun r c17 H => ?_))
      obtain ⟨z16, rfl, H⟩ := H
      refine ⟨z16, rfl, ?_⟩
      have o19 := H.1
      have H := H.2
      refine kw_if_ne 63 dX7_read_55 (by decide) o19 (fun h18 => ?_) (fun h18 => ?_)
      · have H := H.1 h18
        refine kw_aload_n dX7_read_63 rfl ?_
        refine k2_getR fd_X7_0 dX7_read_64 wf_X7_12 (lsh_170 hL) (lrf_170_0 hL) ?_
        refine kw_iload dX7_read_67 rfl ?_
        refine kw_aload_n dX7_read_69 rfl ?_
        refine k2_getR fd_X7_1 dX7_read_70 wf_X7_20 (lsh_170 hL) (lrf_170_1 hL) ?_
        refine kw_iconst dX7_read_73 ?_
        have q20 : (0 : Int) ≤ 0 ∧ (0 : Int) < 7 := (by omega)
        refine k2_aald5 (v := 187) dX7_read_74 (lsh_186 hL) (by omega) q20 (lrw_186 hL q20).1 (by omega) ?_
        refine k2_callV2N (ci := 0) (N := 2) (T := TX1) rfl (llt_171 hL).1 m_X1_put dX7_read_75 wl_X7_77 (Nat.le_of_ble_eq_true rfl) (kC2_mono H (fun r c22 H => ?_))
        obtain ⟨rfl, H⟩ := H
        refine ⟨rfl, ?_⟩
        refine kw_aload_n dX7_read_78 rfl ?_
        refine k2_getI fd_X7_9 dX7_read_79 wf_X7_47 (lsh_170 hL) ?_
        refine kw_aload_n dX7_read_82 rfl ?_
        refine k2_getI fd_X7_8 dX7_read_83 wf_X7_43 (lsh_170 hL) ?_
        have o24 := H.1
        have H := H.2
        have o25 := H.1
        have H := H.2
        refine kw_icmp_lt 92 dX7_read_86 (by decide) o24 o25 (fun h23 => ?_) (fun h23 => ?_)
        · have H := H.1 h23
          refine kw_aload_n dX7_read_92 rfl ?_
          refine k2_callV0I (ci := 6) (N := 12) (T := TX7) rfl (lsh_170 hL) m_X7_next dX7_read_93 wl_X7_81 (Nat.le_of_ble_eq_true rfl) (kC2_mono H (fun r c27 H => ?_))
          obtain ⟨z26, rfl, H⟩ := H
          refine ⟨z26, rfl, ?_⟩
          refine kw_bipush dX7_read_96 (by decide) ?_
          have o29 := H.1
          have H := H.2
          refine kw_icmp_eq 116 dX7_read_98 (by decide) o29 (k32i (by omega)) (fun h28 => ?_) (fun h28 => ?_)
          · have H := H.1 h28
            refine kw_aload_n dX7_read_116 rfl ?_
            refine kw_dup dX7_read_117 rfl ?_
            refine k2_getI fd_X7_9 dX7_read_118 wf_X7_47 (lsh_170 hL) ?_
            refine kw_iconst dX7_read_121 ?_
            refine kw_iadd dX7_read_122 ?_
            refine k2_putI fp_X7_9 dX7_read_123 wf_X7_47 (lsh_170 hL) ?_
            refine kw_iinc dX7_read_126 rfl ?_
            refine kw_goto 31 dX7_read_129 (by decide) ?_
            exact kw_forget (ls' := [some (kA 170), none, none, none, some (kI (x4 + 1)), none]) ⟨Or.inr rfl, ⟨Or.inr rfl, ⟨Or.inr rfl, ⟨Or.inr rfl, ⟨Or.inr rfl, ⟨Or.inl rfl, trivial⟩⟩⟩⟩⟩⟩ H
          · have H := H.2 h28
            refine kw_aload_n dX7_read_101 rfl ?_
            refine kw_iconst dX7_read_102 ?_
            refine kw_aload_n dX7_read_103 rfl ?_
            refine k2_getI fd_X7_9 dX7_read_104 wf_X7_47 (lsh_170 hL) ?_
            refine k2_callV2I (ci := 6) (N := 12) (T := TX7) rfl (lsh_170 hL) m_X7_fails dX7_read_107 wl_X7_84 (Nat.le_of_ble_eq_true rfl) (kC2_mono H (fun r c31 H => ?_))
            obtain ⟨z30, rfl, H⟩ := H
            refine ⟨z30, rfl, ?_⟩
            refine kw_pop dX7_read_110 rfl ?_
            refine kw_aload_n dX7_read_111 rfl ?_
            refine k2_callV0I (ci := 6) (N := 12) (T := TX7) rfl (lsh_170 hL) m_X7_toldFault dX7_read_112 wl_X7_74 (Nat.le_of_ble_eq_true rfl) (kC2_mono H (fun r c33 H => ?_))
            obtain ⟨z32, rfl, H⟩ := H
            refine ⟨z32, rfl, ?_⟩
            refine k2_iret dX7_read_115 rfl H
        · have H := H.2 h23
          refine kw_iload dX7_read_89 rfl ?_
          refine k2_iret dX7_read_91 rfl H
      · have H := H.2 h18
        refine kw_aload_n dX7_read_58 rfl ?_
        refine k2_callV0I (ci := 6) (N := 12) (T := TX7) rfl (lsh_170 hL) m_X7_toldFault dX7_read_59 wl_X7_74 (Nat.le_of_ble_eq_true rfl) (kC2_mono H (fun r c35 H => ?_))
        obtain ⟨z34, rfl, H⟩ := H
        refine ⟨z34, rfl, ?_⟩
        refine k2_iret dX7_read_62 rfl H
set_option maxRecDepth 4000 in
theorem v_X10_perform {G : KG} {S0 : KSh} (hL : kLay S0) {d : Nat} {P : Option AV → KMem → Prop} {c : KMem} {x1 x2 : Int} {n1 : Nat} (hn1 : n1 < 1073741824) (hx1 : S0.2.1 x1 = (1, n1)) (r2 : -2147483648 ≤ x2 ∧ x2 < 2147483648) (H : kC2 G S0 kM_X7_read (d + 11) [kA 170, kA x1, kI x2, kA 3] c (kRI (fun z1 c2 => (k32 z1) ∧ ((z1 ≤ 0 → (P (some (kI z1)) c2)) ∧ (0 < z1 → (kC2 G S0 kM_X5_remember (d + 11) [kA 48, kA 3] c2 (kRN (fun c6 => kC2 G S0 kM_X1_become (d + 11) [kA 3, kA 171] c6 (kRN (fun c8 => P (some (kI z1)) c8)))))))))) : kC2 G S0 kM_X10_perform (d + 12) [kA 0, kA x1, kI x2] c P := by
  refine k2_met (by decide) rfl (Nat.le_of_ble_eq_true rfl) (l0 := [some (kA 0), some (kA x1), some (kI x2), none]) rfl ?_
  refine kw_aload_n dX10_perform_0 rfl ?_
  refine k2_getR fd_X10_11 dX10_perform_1 wf_X10_56 (lsh_0 hL) (lrf_0_11 hL) ?_
  refine kw_aload_n dX10_perform_4 rfl ?_
  refine kw_iload_n dX10_perform_5 rfl ?_
  refine kw_aload_n dX10_perform_6 rfl ?_
  refine k2_getR fd_X10_5 dX10_perform_7 wf_X10_29 (lsh_0 hL) (lrf_0_5 hL) ?_
  refine k2_callV3I (ci := 6) (N := 12) (T := TX7) rfl (lsh_170 hL) m_X7_read dX10_perform_10 wl_X10_109 (Nat.le_of_ble_eq_true rfl) (kC2_mono H (fun r c2 H => ?_))
  obtain ⟨z1, rfl, H⟩ := H
  refine ⟨z1, rfl, ?_⟩
  refine kw_istore_n dX10_perform_13 (Nat.le_of_ble_eq_true rfl) ?_
  refine kw_iload_n dX10_perform_14 rfl ?_
  have o4 := H.1
  have H := H.2
  refine kw_if_le 43 dX10_perform_15 (by decide) o4 (fun h3 => ?_) (fun h3 => ?_)
  · have H := H.1 h3
    refine kw_iload_n dX10_perform_43 rfl ?_
    refine k2_iret dX10_perform_44 rfl H
  · have H := H.2 h3
    refine kw_aload_n dX10_perform_18 rfl ?_
    refine k2_getR fd_X10_10 dX10_perform_19 wf_X10_49 (lsh_0 hL) (lrf_0_10 hL) ?_
    refine kw_aload_n dX10_perform_22 rfl ?_
    refine k2_getR fd_X10_5 dX10_perform_23 wf_X10_29 (lsh_0 hL) (lrf_0_5 hL) ?_
    refine k2_callV1N (ci := 4) (N := 3) (T := TX5) rfl (lsh_48 hL) m_X5_remember dX10_perform_26 wl_X10_113 (Nat.le_of_ble_eq_true rfl) (kC2_mono H (fun r c6 H => ?_))
    obtain ⟨rfl, H⟩ := H
    refine ⟨rfl, ?_⟩
    refine kw_aload_n dX10_perform_29 rfl ?_
    refine k2_getR fd_X10_5 dX10_perform_30 wf_X10_29 (lsh_0 hL) (lrf_0_5 hL) ?_
    refine kw_aload_n dX10_perform_33 rfl ?_
    refine k2_getR fd_X10_11 dX10_perform_34 wf_X10_56 (lsh_0 hL) (lrf_0_11 hL) ?_
    refine k2_callV0A (ci := 6) (N := 12) (T := TX7) rfl (lsh_170 hL) m_X7_outcome dX10_perform_37 wl_X10_117 (Nat.le_of_ble_eq_true rfl) (v_X7_outcome hL ⟨_, rfl, ?_⟩)
    refine k2_callV1N (ci := 0) (N := 2) (T := TX1) rfl (llt_3 hL).1 m_X1_become dX10_perform_40 wl_X10_121 (Nat.le_of_ble_eq_true rfl) (kC2_mono H (fun r c8 H => ?_))
    obtain ⟨rfl, H⟩ := H
    refine ⟨rfl, ?_⟩
    refine kw_iload_n dX10_perform_43 rfl ?_
    refine k2_iret dX10_perform_44 rfl H
set_option maxRecDepth 4000 in
theorem v_X10_work {G : KG} {S0 : KSh} (hL : kLay S0) {d : Nat} {P : Option AV → KMem → Prop} {c : KMem} {x1 : Int} (r1 : -2147483648 ≤ x1 ∧ x1 < 2147483648) (H : (x1 < 1 → (P (some (kI (-1))) c)) ∧ (1 ≤ x1 → ((120 < x1 → (P (some (kI (-1))) c)) ∧ (x1 ≤ 120 → ((k32 (c 0 1)) ∧ ((x1 ≤ (c 0 1) → (kC2 G S0 kM_X10_perform (d + 12) [kA 0, kA 1, kI x1] (kup c 0 1 0) (kRI (fun z5 c6 => P (some (kI z5)) c6)))) ∧ ((c 0 1) < x1 → (P (some (kI (-1))) c)))))))) : kC2 G S0 kM_X10_work (d + 13) [kA 0, kI x1] c P := by
  refine k2_met (by decide) rfl (Nat.le_of_ble_eq_true rfl) (l0 := [some (kA 0), some (kI x1)]) rfl ?_
  refine kw_iload_n dX10_work_0 rfl ?_
  refine kw_iconst dX10_work_1 ?_
  refine kw_icmp_lt 19 dX10_work_2 (by decide) (k32i (by omega)) (k32i (by omega)) (fun h1 => ?_) (fun h1 => ?_)
  · have H := H.1 h1
    refine kw_iconst dX10_work_19 ?_
    refine k2_iret dX10_work_20 rfl H
  · have H := H.2 h1
    refine kw_iload_n dX10_work_5 rfl ?_
    refine kw_bipush dX10_work_6 (by decide) ?_
    refine kw_icmp_gt 19 dX10_work_8 (by decide) (k32i (by omega)) (k32i (by omega)) (fun h2 => ?_) (fun h2 => ?_)
    · have H := H.1 h2
      refine kw_iconst dX10_work_19 ?_
      refine k2_iret dX10_work_20 rfl H
    · have H := H.2 h2
      refine kw_iload_n dX10_work_11 rfl ?_
      refine kw_aload_n dX10_work_12 rfl ?_
      refine k2_getI fd_X10_1 dX10_work_13 wf_X10_13 (lsh_0 hL) ?_
      have o4 := H.1
      have H := H.2
      refine kw_icmp_le 21 dX10_work_16 (by decide) (k32i (by omega)) o4 (fun h3 => ?_) (fun h3 => ?_)
      · have H := H.1 h3
        refine kw_aload_n dX10_work_21 rfl ?_
        refine kw_iconst dX10_work_22 ?_
        refine k2_putI fp_X10_1 dX10_work_23 wf_X10_13 (lsh_0 hL) ?_
        refine kw_aload_n dX10_work_26 rfl ?_
        refine kw_aload_n dX10_work_27 rfl ?_
        refine k2_getR fd_X10_0 dX10_work_28 wf_X10_9 (lsh_0 hL) (lrf_0_0 hL) ?_
        refine kw_iload_n dX10_work_31 rfl ?_
        refine k2_callV2I (ci := 8) (N := 20) (T := TX10) rfl (lsh_0 hL) m_X10_perform dX10_work_32 wl_X10_105 (Nat.le_of_ble_eq_true rfl) (kC2_mono H (fun r c6 H => ?_))
        obtain ⟨z5, rfl, H⟩ := H
        refine ⟨z5, rfl, ?_⟩
        refine k2_iret dX10_work_35 rfl H
      · have H := H.2 h3
        refine kw_iconst dX10_work_19 ?_
        refine k2_iret dX10_work_20 rfl H
set_option maxRecDepth 4000 in
theorem v_X10_run {G : KG} {S0 : KSh} (hL : kLay S0) {d : Nat} {P : Option AV → KMem → Prop} {c : KMem}  (H : (k32 (c 0 3)) ∧ (((c 0 3) ≠ 0 → (kC2 G S0 kM_X10_perform (d + 12) [kA 0, kA 2, kI (c 0 3)] c (kRI (fun z3 c4 => P (some (kI z3)) c4)))) ∧ ((c 0 3) = 0 → (P (some (kI (-2))) c)))) : kC2 G S0 kM_X10_run (d + 13) [kA 0] c P := by
  refine k2_met (by decide) rfl (Nat.le_of_ble_eq_true rfl) (l0 := [some (kA 0)]) rfl ?_
  refine kw_aload_n dX10_run_0 rfl ?_
  refine k2_getI fd_X10_3 dX10_run_1 wf_X10_20 (lsh_0 hL) ?_
  have o2 := H.1
  have H := H.2
  refine kw_if_ne 10 dX10_run_4 (by decide) o2 (fun h1 => ?_) (fun h1 => ?_)
  · have H := H.1 h1
    refine kw_aload_n dX10_run_10 rfl ?_
    refine kw_aload_n dX10_run_11 rfl ?_
    refine k2_getR fd_X10_2 dX10_run_12 wf_X10_17 (lsh_0 hL) (lrf_0_2 hL) ?_
    refine kw_aload_n dX10_run_15 rfl ?_
    refine k2_getI fd_X10_3 dX10_run_16 wf_X10_20 (lsh_0 hL) ?_
    refine k2_callV2I (ci := 8) (N := 20) (T := TX10) rfl (lsh_0 hL) m_X10_perform dX10_run_19 wl_X10_105 (Nat.le_of_ble_eq_true rfl) (kC2_mono H (fun r c4 H => ?_))
    obtain ⟨z3, rfl, H⟩ := H
    refine ⟨z3, rfl, ?_⟩
    refine k2_iret dX10_run_22 rfl H
  · have H := H.2 h1
    refine kw_bipush dX10_run_7 (by decide) ?_
    refine k2_iret dX10_run_9 rfl H
set_option maxRecDepth 4000 in
theorem v_X10_hitsInTrial {G : KG} {S0 : KSh} (hL : kLay S0) {d : Nat} {P : Option AV → KMem → Prop} {c : KMem} {x1 x2 x3 : Int} (r1 : -2147483648 ≤ x1 ∧ x1 < 2147483648) (r2 : -2147483648 ≤ x2 ∧ x2 < 2147483648) (r3 : -2147483648 ≤ x3 ∧ x3 < 2147483648) (H : kC2 G S0 kM_X1_become (d + 11) [kA 33, kA 3] c (kRN (fun c2 => kC2 G S0 kM_X10_drawInto (d + 11) [kA 0, kA 33, kI x1] c2 (kRN (fun c4 => kC2 G S0 kM_X7_read (d + 11) [kA 170, kA 2, kI (c4 0 3), kA 33] c4 (kRI (fun z5 c6 => (k32 z5) ∧ ((0 ≤ z5 → ((x3 = (-1) → ((x3 ≠ (-1) → (P (some (kI 0)) c6)) ∧ (x3 = (-1) → (P (some (kI 0)) c6)))) ∧ (x3 ≠ (-1) → ((kStT c6 171) ∧ (((kHs c6 171 x2) → ((0 ≤ x2 ∧ x2 < 12) ∧ (kC2 G S0 kM_X8_kindOf (d + 11) [kA (171 + 2 + x2)] c6 (kRI (fun z17 c18 => (k32 z17) ∧ ((z17 ≠ x3 → (P (some (kI 0)) c18)) ∧ (z17 = x3 → (P (some (kI 1)) c18)))))))) ∧ (¬ (kHs c6 171 x2) → (P (some (kI 0)) c6))))))) ∧ (z5 < 0 → ((x3 = (-1) → ((x3 ≠ (-1) → (P (some (kI 0)) c6)) ∧ (x3 = (-1) → (P (some (kI 1)) c6)))) ∧ (x3 ≠ (-1) → ((x3 ≠ (-1) → (P (some (kI 0)) c6)) ∧ (x3 = (-1) → (P (some (kI 1)) c6)))))))))))))) : kC2 G S0 kM_X10_hitsInTrial (d + 12) [kA 0, kI x1, kI x2, kI x3] c P := by
  refine k2_met (by decide) rfl (Nat.le_of_ble_eq_true rfl) (l0 := [some (kA 0), some (kI x1), some (kI x2), some (kI x3), none, none]) rfl ?_
  refine kw_aload_n dX10_hitsInTrial_0 rfl ?_
  refine k2_getR fd_X10_9 dX10_hitsInTrial_1 wf_X10_43 (lsh_0 hL) (lrf_0_9 hL) ?_
  refine kw_aload_n dX10_hitsInTrial_4 rfl ?_
  refine k2_getR fd_X10_5 dX10_hitsInTrial_5 wf_X10_29 (lsh_0 hL) (lrf_0_5 hL) ?_
  refine k2_callV1N (ci := 0) (N := 2) (T := TX1) rfl (llt_33 hL).1 m_X1_become dX10_hitsInTrial_8 wl_X10_121 (Nat.le_of_ble_eq_true rfl) (kC2_mono H (fun r c2 H => ?_))
  obtain ⟨rfl, H⟩ := H
  refine ⟨rfl, ?_⟩
  refine kw_aload_n dX10_hitsInTrial_11 rfl ?_
  refine kw_aload_n dX10_hitsInTrial_12 rfl ?_
  refine k2_getR fd_X10_9 dX10_hitsInTrial_13 wf_X10_43 (lsh_0 hL) (lrf_0_9 hL) ?_
  refine kw_iload_n dX10_hitsInTrial_16 rfl ?_
  refine k2_callV2N (ci := 8) (N := 20) (T := TX10) rfl (lsh_0 hL) m_X10_drawInto dX10_hitsInTrial_17 wl_X10_134 (Nat.le_of_ble_eq_true rfl) (kC2_mono H (fun r c4 H => ?_))
  obtain ⟨rfl, H⟩ := H
  refine ⟨rfl, ?_⟩
  refine kw_aload_n dX10_hitsInTrial_20 rfl ?_
  refine k2_getR fd_X10_11 dX10_hitsInTrial_21 wf_X10_56 (lsh_0 hL) (lrf_0_11 hL) ?_
  refine kw_aload_n dX10_hitsInTrial_24 rfl ?_
  refine k2_getR fd_X10_2 dX10_hitsInTrial_25 wf_X10_17 (lsh_0 hL) (lrf_0_2 hL) ?_
  refine kw_aload_n dX10_hitsInTrial_28 rfl ?_
  refine k2_getI fd_X10_3 dX10_hitsInTrial_29 wf_X10_20 (lsh_0 hL) ?_
  refine kw_aload_n dX10_hitsInTrial_32 rfl ?_
  refine k2_getR fd_X10_9 dX10_hitsInTrial_33 wf_X10_43 (lsh_0 hL) (lrf_0_9 hL) ?_
  refine k2_callV3I (ci := 6) (N := 12) (T := TX7) rfl (lsh_170 hL) m_X7_read dX10_hitsInTrial_36 wl_X10_109 (Nat.le_of_ble_eq_true rfl) (kC2_mono H (fun r c6 H => ?_))
  obtain ⟨z5, rfl, H⟩ := H
  refine ⟨z5, rfl, ?_⟩
  have o8 := H.1
  have H := H.2
  refine kw_if_ge 46 dX10_hitsInTrial_39 (by decide) o8 (fun h7 => ?_) (fun h7 => ?_)
  · have H := H.1 h7
    refine kw_iconst dX10_hitsInTrial_46 ?_
    refine kw_istore dX10_hitsInTrial_47 (Nat.le_of_ble_eq_true rfl) ?_
    refine kw_iload_n dX10_hitsInTrial_49 rfl ?_
    refine kw_iconst dX10_hitsInTrial_50 ?_
    refine kw_icmp_eq 59 dX10_hitsInTrial_51 (by decide) (k32i (by omega)) (k32i (by omega)) (fun h9 => ?_) (fun h9 => ?_)
    · have H := H.1 h9
      refine kw_iload_n dX10_hitsInTrial_59 rfl ?_
      refine kw_iconst dX10_hitsInTrial_60 ?_
      refine kw_icmp_ne 73 dX10_hitsInTrial_61 (by decide) (k32i (by omega)) (k32i (by omega)) (fun h10 => ?_) (fun h10 => ?_)
      · have H := H.1 h10
        refine kw_iconst dX10_hitsInTrial_73 ?_
        refine k2_zret dX10_hitsInTrial_74 rfl (Or.inl rfl) H
      · have H := H.2 h10
        refine kw_iload dX10_hitsInTrial_64 rfl ?_
        refine kw_if_eq 73 dX10_hitsInTrial_66 (by decide) (k32i (by omega)) (fun _ => ?_) (fun h11 => absurd h11 (by decide))
        refine kw_iconst dX10_hitsInTrial_73 ?_
        refine k2_zret dX10_hitsInTrial_74 rfl (Or.inl rfl) H
    · have H := H.2 h9
      refine kw_iload dX10_hitsInTrial_54 rfl ?_
      refine kw_if_eq 75 dX10_hitsInTrial_56 (by decide) (k32i (by omega)) (fun _ => ?_) (fun h12 => absurd h12 (by decide))
      refine kw_aload_n dX10_hitsInTrial_75 rfl ?_
      refine k2_getR fd_X10_11 dX10_hitsInTrial_76 wf_X10_56 (lsh_0 hL) (lrf_0_11 hL) ?_
      refine k2_callV0A (ci := 6) (N := 12) (T := TX7) rfl (lsh_170 hL) m_X7_outcome dX10_hitsInTrial_79 wl_X10_117 (Nat.le_of_ble_eq_true rfl) (v_X7_outcome hL ⟨_, rfl, ?_⟩)
      refine kw_astore dX10_hitsInTrial_82 (Nat.le_of_ble_eq_true rfl) ?_
      refine kw_aload dX10_hitsInTrial_84 rfl ?_
      refine kw_iload_n dX10_hitsInTrial_86 rfl ?_
      have o13 := H.1
      have H := H.2
      refine k2_callV1I (ci := 0) (N := 2) (T := TX1) rfl (llt_171 hL).1 m_X1_has dX10_hitsInTrial_87 wl_X10_138 (Nat.le_of_ble_eq_true rfl) (s_X1_has hL (llt_171 hL) o13 (k32i (by omega)) (fun h14 => ⟨_, rfl, ?_⟩) (fun h14 => ⟨_, rfl, ?_⟩))
      · have H := H.1 h14
        refine kw_if_eq 110 dX10_hitsInTrial_90 (by decide) (k32i (by omega)) (fun h15 => absurd h15 (by decide)) (fun _ => ?_)
        refine kw_aload dX10_hitsInTrial_93 rfl ?_
        refine kw_iload_n dX10_hitsInTrial_95 rfl ?_
        have o16 := H.1
        have H := H.2
        refine k2_callV1A (ci := 0) (N := 2) (T := TX1) rfl (llt_171 hL).1 m_X1_form dX10_hitsInTrial_96 wl_X10_142 (Nat.le_of_ble_eq_true rfl) (s_X1_form hL (llt_171 hL) (by omega) o16 ⟨_, rfl, ?_⟩)
        refine k2_callS1I m_X8_kindOf dX10_hitsInTrial_99 wl_X10_146 (Nat.le_of_ble_eq_true rfl) (kC2_mono H (fun r c18 H => ?_))
        obtain ⟨z17, rfl, H⟩ := H
        refine ⟨z17, rfl, ?_⟩
        refine kw_iload_n dX10_hitsInTrial_102 rfl ?_
        have o20 := H.1
        have H := H.2
        refine kw_icmp_ne 110 dX10_hitsInTrial_103 (by decide) o20 (k32i (by omega)) (fun h19 => ?_) (fun h19 => ?_)
        · have H := H.1 h19
          refine kw_iconst dX10_hitsInTrial_110 ?_
          refine k2_zret dX10_hitsInTrial_111 rfl (Or.inl rfl) H
        · have H := H.2 h19
          refine kw_iconst dX10_hitsInTrial_106 ?_
          refine kw_goto 111 dX10_hitsInTrial_107 (by decide) ?_
          refine k2_zret dX10_hitsInTrial_111 rfl (Or.inr rfl) H
      · have H := H.2 h14
        refine kw_if_eq 110 dX10_hitsInTrial_90 (by decide) (k32i (by omega)) (fun _ => ?_) (fun h21 => absurd h21 (by decide))
        refine kw_iconst dX10_hitsInTrial_110 ?_
        refine k2_zret dX10_hitsInTrial_111 rfl (Or.inl rfl) H
  · have H := H.2 h7
    refine kw_iconst dX10_hitsInTrial_42 ?_
    refine kw_goto 47 dX10_hitsInTrial_43 (by decide) ?_
    refine kw_istore dX10_hitsInTrial_47 (Nat.le_of_ble_eq_true rfl) ?_
    refine kw_iload_n dX10_hitsInTrial_49 rfl ?_
    refine kw_iconst dX10_hitsInTrial_50 ?_
    refine kw_icmp_eq 59 dX10_hitsInTrial_51 (by decide) (k32i (by omega)) (k32i (by omega)) (fun h22 => ?_) (fun h22 => ?_)
    · have H := H.1 h22
      refine kw_iload_n dX10_hitsInTrial_59 rfl ?_
      refine kw_iconst dX10_hitsInTrial_60 ?_
      refine kw_icmp_ne 73 dX10_hitsInTrial_61 (by decide) (k32i (by omega)) (k32i (by omega)) (fun h23 => ?_) (fun h23 => ?_)
      · have H := H.1 h23
        refine kw_iconst dX10_hitsInTrial_73 ?_
        refine k2_zret dX10_hitsInTrial_74 rfl (Or.inl rfl) H
      · have H := H.2 h23
        refine kw_iload dX10_hitsInTrial_64 rfl ?_
        refine kw_if_eq 73 dX10_hitsInTrial_66 (by decide) (k32i (by omega)) (fun h24 => absurd h24 (by decide)) (fun _ => ?_)
        refine kw_iconst dX10_hitsInTrial_69 ?_
        refine kw_goto 74 dX10_hitsInTrial_70 (by decide) ?_
        refine k2_zret dX10_hitsInTrial_74 rfl (Or.inr rfl) H
    · have H := H.2 h22
      refine kw_iload dX10_hitsInTrial_54 rfl ?_
      refine kw_if_eq 75 dX10_hitsInTrial_56 (by decide) (k32i (by omega)) (fun h25 => absurd h25 (by decide)) (fun _ => ?_)
      refine kw_iload_n dX10_hitsInTrial_59 rfl ?_
      refine kw_iconst dX10_hitsInTrial_60 ?_
      refine kw_icmp_ne 73 dX10_hitsInTrial_61 (by decide) (k32i (by omega)) (k32i (by omega)) (fun h26 => ?_) (fun h26 => ?_)
      · have H := H.1 h26
        refine kw_iconst dX10_hitsInTrial_73 ?_
        refine k2_zret dX10_hitsInTrial_74 rfl (Or.inl rfl) H
      · have H := H.2 h26
        refine kw_iload dX10_hitsInTrial_64 rfl ?_
        refine kw_if_eq 73 dX10_hitsInTrial_66 (by decide) (k32i (by omega)) (fun h27 => absurd h27 (by decide)) (fun _ => ?_)
        refine kw_iconst dX10_hitsInTrial_69 ?_
        refine kw_goto 74 dX10_hitsInTrial_70 (by decide) ?_
        refine k2_zret dX10_hitsInTrial_74 rfl (Or.inr rfl) H
set_option maxRecDepth 4000 in
theorem v_X10_trials {G : KG} {S0 : KSh} (hL : kLay S0) {d : Nat} {P : Option AV → KMem → Prop} {c : KMem} {x1 x2 x3 x4 : Int} (r1 : -2147483648 ≤ x1 ∧ x1 < 2147483648) (r2 : -2147483648 ≤ x2 ∧ x2 < 2147483648) (r3 : -2147483648 ≤ x3 ∧ x3 < 2147483648) (r4 : -2147483648 ≤ x4 ∧ x4 < 2147483648) (H : (x1 < 0 → (P (some (kI (-1))) c)) ∧ (0 ≤ x1 → ((6 < x1 → (P (some (kI (-1))) c)) ∧ (x1 ≤ 6 → ((x2 < 1 → (P (some (kI (-1))) c)) ∧ (1 ≤ x2 → ((x2 ≤ 20 → ((x3 < 0 → (P (some (kI (-1))) c)) ∧ (0 ≤ x3 → ((12 ≤ x3 → (P (some (kI (-1))) c)) ∧ (x3 < 12 → ((x4 < (-1) → (P (some (kI (-1))) c)) ∧ ((-1) ≤ x4 → ((x4 ≤ 42 → ((k32 (c 0 3)) ∧ (((c 0 3) ≠ 0 → (kW2 G S0 kM_X10_trials (d + 13) 70 [some (kA 0), some (kI x1), some (kI x2), some (kI x3), some (kI x4), some (kI (c 0 4)), some (kI 0), some (kI 0)] [] c P)) ∧ ((c 0 3) = 0 → (P (some (kI (-2))) c))))) ∧ (42 < x4 → (P (some (kI (-1))) c)))))))))) ∧ (20 < x2 → (P (some (kI (-1))) c))))))))) : kC2 G S0 kM_X10_trials (d + 13) [kA 0, kI x1, kI x2, kI x3, kI x4] c P := by
  refine k2_met (by decide) rfl (Nat.le_of_ble_eq_true rfl) (l0 := [some (kA 0), some (kI x1), some (kI x2), some (kI x3), some (kI x4), none, none, none]) rfl ?_
  refine kw_iload_n dX10_trials_0 rfl ?_
  refine kw_if_lt 21 dX10_trials_1 (by decide) (k32i (by omega)) (fun h1 => ?_) (fun h1 => ?_)
  · have H := H.1 h1
    refine kw_iconst dX10_trials_21 ?_
    refine k2_iret dX10_trials_22 rfl H
  · have H := H.2 h1
    refine kw_iload_n dX10_trials_4 rfl ?_
    refine kw_bipush dX10_trials_5 (by decide) ?_
    refine kw_icmp_gt 21 dX10_trials_7 (by decide) (k32i (by omega)) (k32i (by omega)) (fun h2 => ?_) (fun h2 => ?_)
    · have H := H.1 h2
      refine kw_iconst dX10_trials_21 ?_
      refine k2_iret dX10_trials_22 rfl H
    · have H := H.2 h2
      refine kw_iload_n dX10_trials_10 rfl ?_
      refine kw_iconst dX10_trials_11 ?_
      refine kw_icmp_lt 21 dX10_trials_12 (by decide) (k32i (by omega)) (k32i (by omega)) (fun h3 => ?_) (fun h3 => ?_)
      · have H := H.1 h3
        refine kw_iconst dX10_trials_21 ?_
        refine k2_iret dX10_trials_22 rfl H
      · have H := H.2 h3
        refine kw_iload_n dX10_trials_15 rfl ?_
        refine kw_bipush dX10_trials_16 (by decide) ?_
        refine kw_icmp_le 23 dX10_trials_18 (by decide) (k32i (by omega)) (k32i (by omega)) (fun h4 => ?_) (fun h4 => ?_)
        · have H := H.1 h4
          refine kw_iload_n dX10_trials_23 rfl ?_
          refine kw_if_lt 46 dX10_trials_24 (by decide) (k32i (by omega)) (fun h5 => ?_) (fun h5 => ?_)
          · have H := H.1 h5
            refine kw_iconst dX10_trials_46 ?_
            refine k2_iret dX10_trials_47 rfl H
          · have H := H.2 h5
            refine kw_iload_n dX10_trials_27 rfl ?_
            refine kw_bipush dX10_trials_28 (by decide) ?_
            refine kw_icmp_ge 46 dX10_trials_30 (by decide) (k32i (by omega)) (k32i (by omega)) (fun h6 => ?_) (fun h6 => ?_)
            · have H := H.1 h6
              refine kw_iconst dX10_trials_46 ?_
              refine k2_iret dX10_trials_47 rfl H
            · have H := H.2 h6
              refine kw_iload dX10_trials_33 rfl ?_
              refine kw_iconst dX10_trials_35 ?_
              refine kw_icmp_lt 46 dX10_trials_36 (by decide) (k32i (by omega)) (k32i (by omega)) (fun h7 => ?_) (fun h7 => ?_)
              · have H := H.1 h7
                refine kw_iconst dX10_trials_46 ?_
                refine k2_iret dX10_trials_47 rfl H
              · have H := H.2 h7
                refine kw_iload dX10_trials_39 rfl ?_
                refine kw_bipush dX10_trials_41 (by decide) ?_
                refine kw_icmp_le 48 dX10_trials_43 (by decide) (k32i (by omega)) (k32i (by omega)) (fun h8 => ?_) (fun h8 => ?_)
                · have H := H.1 h8
                  refine kw_aload_n dX10_trials_48 rfl ?_
                  refine k2_getI fd_X10_3 dX10_trials_49 wf_X10_20 (lsh_0 hL) ?_
                  have o10 := H.1
                  have H := H.2
                  refine kw_if_ne 58 dX10_trials_52 (by decide) o10 (fun h9 => ?_) (fun h9 => ?_)
                  · have H := H.1 h9
                    refine kw_aload_n dX10_trials_58 rfl ?_
                    refine k2_getI fd_X10_4 dX10_trials_59 wf_X10_23 (lsh_0 hL) ?_
                    refine kw_istore dX10_trials_62 (Nat.le_of_ble_eq_true rfl) ?_
                    refine kw_iconst dX10_trials_64 ?_
                    refine kw_istore dX10_trials_65 (Nat.le_of_ble_eq_true rfl) ?_
                    refine kw_iconst dX10_trials_67 ?_
                    refine kw_istore dX10_trials_68 (Nat.le_of_ble_eq_true rfl) ?_
                    exact kw_forget (ls' := [some (kA 0), some (kI x1), some (kI x2), some (kI x3), some (kI x4), some (kI (c 0 4)), some (kI 0), some (kI 0)]) ⟨Or.inr rfl, ⟨Or.inr rfl, ⟨Or.inr rfl, ⟨Or.inr rfl, ⟨Or.inr rfl, ⟨Or.inr rfl, ⟨Or.inr rfl, ⟨Or.inr rfl, trivial⟩⟩⟩⟩⟩⟩⟩⟩ H
                  · have H := H.2 h9
                    refine kw_bipush dX10_trials_55 (by decide) ?_
                    refine k2_iret dX10_trials_57 rfl H
                · have H := H.2 h8
                  refine kw_iconst dX10_trials_46 ?_
                  refine k2_iret dX10_trials_47 rfl H
        · have H := H.2 h4
          refine kw_iconst dX10_trials_21 ?_
          refine k2_iret dX10_trials_22 rfl H
set_option maxRecDepth 4000 in
theorem v_X10_trials_70 {G : KG} {S0 : KSh} (hL : kLay S0) {d : Nat} {P : Option AV → KMem → Prop} {c : KMem} {x1 x2 x3 x4 x5 x6 x7 : Int} (r1 : -2147483648 ≤ x1 ∧ x1 < 2147483648) (r2 : -2147483648 ≤ x2 ∧ x2 < 2147483648) (r3 : -2147483648 ≤ x3 ∧ x3 < 2147483648) (r4 : -2147483648 ≤ x4 ∧ x4 < 2147483648) (r5 : -2147483648 ≤ x5 ∧ x5 < 2147483648) (r6 : 0 ≤ x6 ∧ x6 < 2147483648) (r7 : 0 ≤ x7 ∧ x7 < 2147483648) (H : (x2 ≤ x7 → (P (some (kI x6)) (kup c 0 4 x5))) ∧ (x7 < x2 → (kC2 G S0 kM_X10_hitsInTrial (d + 12) [kA 0, kI x1, kI x3, kI x4] c (kRI (fun z12 c13 => (k32 z12) ∧ ((z12 = 0 → (kW2 G S0 kM_X10_trials (d + 13) 70 [some (kA 0), some (kI x1), some (kI x2), some (kI x3), some (kI x4), some (kI x5), some (kI x6), some (kI (x7 + 1))] [] c13 P)) ∧ (z12 ≠ 0 → (kW2 G S0 kM_X10_trials (d + 13) 70 [some (kA 0), some (kI x1), some (kI x2), some (kI x3), some (kI x4), some (kI x5), some (kI (x6 + 1)), some (kI (x7 + 1))] [] c13 P)))))))) : kW2 G S0 kM_X10_trials (d + 13) 70 [some (kA 0), some (kI x1), some (kI x2), some (kI x3), some (kI x4), some (kI x5), some (kI x6), some (kI x7)] [] c P := by
  refine kw_iload dX10_trials_70 rfl ?_
  refine kw_iload_n dX10_trials_72 rfl ?_
  refine kw_icmp_ge 96 dX10_trials_73 (by decide) (k32i (by omega)) (k32i (by omega)) (fun h11 => ?_) (fun h11 => ?_)
  · have H := H.1 h11
    refine kw_aload_n dX10_trials_96 rfl ?_
    refine kw_iload dX10_trials_97 rfl ?_
    refine k2_putI fp_X10_4 dX10_trials_99 wf_X10_23 (lsh_0 hL) ?_
    refine kw_iload dX10_trials_102 rfl ?_
    refine k2_iret dX10_trials_104 rfl H
  · have H := H.2 h11
    refine kw_aload_n dX10_trials_76 rfl ?_
    refine kw_iload_n dX10_trials_77 rfl ?_
    refine kw_iload_n dX10_trials_78 rfl ?_
    refine kw_iload dX10_trials_79 rfl ?_
    refine k2_callV3I (ci := 8) (N := 20) (T := TX10) rfl (lsh_0 hL) m_X10_hitsInTrial dX10_trials_81 wl_X10_130 (Nat.le_of_ble_eq_true rfl) (kC2_mono H (fun r c13 H => ?_))
    obtain ⟨z12, rfl, H⟩ := H
    refine ⟨z12, rfl, ?_⟩
    have o15 := H.1
    have H := H.2
    refine kw_if_eq 90 dX10_trials_84 (by decide) o15 (fun h14 => ?_) (fun h14 => ?_)
    · have H := H.1 h14
      refine kw_iinc dX10_trials_90 rfl ?_
      refine kw_goto 70 dX10_trials_93 (by decide) ?_
      exact kw_forget (ls' := [some (kA 0), some (kI x1), some (kI x2), some (kI x3), some (kI x4), some (kI x5), some (kI x6), some (kI (x7 + 1))]) ⟨Or.inr rfl, ⟨Or.inr rfl, ⟨Or.inr rfl, ⟨Or.inr rfl, ⟨Or.inr rfl, ⟨Or.inr rfl, ⟨Or.inr rfl, ⟨Or.inr rfl, trivial⟩⟩⟩⟩⟩⟩⟩⟩ H
    · have H := H.2 h14
      refine kw_iinc dX10_trials_87 rfl ?_
      refine kw_iinc dX10_trials_90 rfl ?_
      refine kw_goto 70 dX10_trials_93 (by decide) ?_
      exact kw_forget (ls' := [some (kA 0), some (kI x1), some (kI x2), some (kI x3), some (kI x4), some (kI x5), some (kI (x6 + 1)), some (kI (x7 + 1))]) ⟨Or.inr rfl, ⟨Or.inr rfl, ⟨Or.inr rfl, ⟨Or.inr rfl, ⟨Or.inr rfl, ⟨Or.inr rfl, ⟨Or.inr rfl, ⟨Or.inr rfl, trivial⟩⟩⟩⟩⟩⟩⟩⟩ H
