set_option maxRecDepth 4000 in
theorem v_X2_tellKinds {G : KG} {S0 : KSh} (hL : kLay S0) {d : Nat} {P : Option AV → KMem → Prop} {c : KMem}  (H : kW2 G S0 kM_X2_tellKinds (d + 5) 2 [some (kA 533), some (kA 3), some (kI 0)] [] c P) : kC2 G S0 kM_X2_tellKinds (d + 5) [kA 533, kA 3] c P := by
  refine k2_met (by decide) rfl (Nat.le_of_ble_eq_true rfl) (l0 := [some (kA 533), some (kA 3), none]) rfl ?_
  refine kw_iconst dX2_tellKinds_0 ?_
  refine kw_istore_n dX2_tellKinds_1 (Nat.le_of_ble_eq_true rfl) ?_
  exact kw_forget (ls' := [some (kA 533), some (kA 3), some (kI 0)]) ⟨Or.inr rfl, ⟨Or.inr rfl, ⟨Or.inr rfl, trivial⟩⟩⟩ H
set_option maxRecDepth 4000 in
theorem v_X2_tellKinds_2 {G : KG} {S0 : KSh} (hL : kLay S0) {d : Nat} {P : Option AV → KMem → Prop} {c : KMem} {x2 : Int} (r2 : 0 ≤ x2 ∧ x2 < 2147483648) (H : (12 ≤ x2 → (P none c)) ∧ (x2 < 12 → ((kStT c 3) ∧ (((kHs c 3 x2) → ((0 ≤ x2 ∧ x2 < 12) ∧ (kC2 G S0 kM_X8_kindOf (d + 4) [kA (3 + 2 + x2)] c (kRI (fun z6 c7 => kW2 G S0 kM_X2_tellKinds (d + 5) 2 [some (kA 533), some (kA 3), some (kI (x2 + 1))] [] (kup c7 548 x2 z6) P))))) ∧ (¬ (kHs c 3 x2) → (kW2 G S0 kM_X2_tellKinds (d + 5) 2 [some (kA 533), some (kA 3), some (kI (x2 + 1))] [] (kup c 548 x2 (-1)) P)))))) : kW2 G S0 kM_X2_tellKinds (d + 5) 2 [some (kA 533), some (kA 3), some (kI x2)] [] c P := by
  refine kw_iload_n dX2_tellKinds_2 rfl ?_
  refine kw_bipush dX2_tellKinds_3 (by decide) ?_
  refine kw_icmp_ge 40 dX2_tellKinds_5 (by decide) (k32i (by omega)) (k32i (by omega)) (fun h1 => ?_) (fun h1 => ?_)
  · have H := H.1 h1
    refine k2_ret dX2_tellKinds_40 rfl H
  · have H := H.2 h1
    refine kw_aload_n dX2_tellKinds_8 rfl ?_
    refine k2_getR fd_X2_2 dX2_tellKinds_9 wf_X2_20 (lsh_533 hL) (lrf_533_2 hL) ?_
    refine kw_iload_n dX2_tellKinds_12 rfl ?_
    refine kw_aload_n dX2_tellKinds_13 rfl ?_
    refine kw_iload_n dX2_tellKinds_14 rfl ?_
    have o2 := H.1
    have H := H.2
    refine k2_callV1I (ci := 0) (N := 2) (T := TX1) rfl (llt_3 hL).1 m_X1_has dX2_tellKinds_15 wl_X2_36 (Nat.le_of_ble_eq_true rfl) (s_X1_has hL (llt_3 hL) o2 (k32i (by omega)) (fun h3 => ⟨_, rfl, ?_⟩) (fun h3 => ⟨_, rfl, ?_⟩))
    · have H := H.1 h3
      refine kw_if_eq 32 dX2_tellKinds_18 (by decide) (k32i (by omega)) (fun h4 => absurd h4 (by decide)) (fun _ => ?_)
      refine kw_aload_n dX2_tellKinds_21 rfl ?_
      refine kw_iload_n dX2_tellKinds_22 rfl ?_
      have o5 := H.1
      have H := H.2
      refine k2_callV1A (ci := 0) (N := 2) (T := TX1) rfl (llt_3 hL).1 m_X1_form dX2_tellKinds_23 wl_X2_42 (Nat.le_of_ble_eq_true rfl) (s_X1_form hL (llt_3 hL) (by omega) o5 ⟨_, rfl, ?_⟩)
      refine k2_callS1I m_X8_kindOf dX2_tellKinds_26 wl_X2_46 (Nat.le_of_ble_eq_true rfl) (kC2_mono H (fun r c7 H => ?_))
      obtain ⟨z6, rfl, H⟩ := H
      refine ⟨z6, rfl, ?_⟩
      refine kw_goto 33 dX2_tellKinds_29 (by decide) ?_
      refine k2_iast dX2_tellKinds_33 (lsh_548 hL) (by omega) (by omega) ?_
      refine kw_iinc dX2_tellKinds_34 rfl ?_
      refine kw_goto 2 dX2_tellKinds_37 (by decide) ?_
      exact kw_forget (ls' := [some (kA 533), some (kA 3), some (kI (x2 + 1))]) ⟨Or.inr rfl, ⟨Or.inr rfl, ⟨Or.inr rfl, trivial⟩⟩⟩ H
    · have H := H.2 h3
      refine kw_if_eq 32 dX2_tellKinds_18 (by decide) (k32i (by omega)) (fun _ => ?_) (fun h8 => absurd h8 (by decide))
      refine kw_iconst dX2_tellKinds_32 ?_
      refine k2_iast dX2_tellKinds_33 (lsh_548 hL) (by omega) (by omega) ?_
      refine kw_iinc dX2_tellKinds_34 rfl ?_
      refine kw_goto 2 dX2_tellKinds_37 (by decide) ?_
      exact kw_forget (ls' := [some (kA 533), some (kA 3), some (kI (x2 + 1))]) ⟨Or.inr rfl, ⟨Or.inr rfl, ⟨Or.inr rfl, trivial⟩⟩⟩ H
set_option maxRecDepth 4000 in
theorem v_X2_isBearer {G : KG} {S0 : KSh} (hL : kLay S0) {d : Nat} {P : Option AV → KMem → Prop} {c : KMem} {x1 : Int} (r1 : -2147483648 ≤ x1 ∧ x1 < 2147483648) (hp : (0 ≤ x1 ∧ x1 < 12) ∧ -1 ≤ c 548 x1 ∧ c 548 x1 ≤ 42) (H : (k32 (c 548 x1)) ∧ (((c 548 x1) = 2 → (P (some (kI 0)) c)) ∧ ((c 548 x1) ≠ 2 → (((kObj (c 548 x1)) → (P (some (kI 1)) c)) ∧ (¬ (kObj (c 548 x1)) → (P (some (kI 0)) c)))))) : kC2 G S0 kM_X2_isBearer (d + 1) [kA 533, kI x1] c P := by
  refine k2_met (by decide) rfl (Nat.le_of_ble_eq_true rfl) (l0 := [some (kA 533), some (kI x1)]) rfl ?_
  refine kw_aload_n dX2_isBearer_0 rfl ?_
  refine k2_getR fd_X2_2 dX2_isBearer_1 wf_X2_20 (lsh_533 hL) (lrf_533_2 hL) ?_
  refine kw_iload_n dX2_isBearer_4 rfl ?_
  refine k2_iald dX2_isBearer_5 (lsh_548 hL) (by omega) (by omega) ?_
  refine kw_iconst dX2_isBearer_6 ?_
  have o2 := H.1
  have H := H.2
  refine kw_icmp_eq 26 dX2_isBearer_7 (by decide) o2 (k32i (by omega)) (fun h1 => ?_) (fun h1 => ?_)
  · have H := H.1 h1
    refine kw_iconst dX2_isBearer_26 ?_
    refine k2_zret dX2_isBearer_27 rfl (Or.inl rfl) H
  · have H := H.2 h1
    refine kw_aload_n dX2_isBearer_10 rfl ?_
    refine k2_getR fd_X2_2 dX2_isBearer_11 wf_X2_20 (lsh_533 hL) (lrf_533_2 hL) ?_
    refine kw_iload_n dX2_isBearer_14 rfl ?_
    refine k2_iald dX2_isBearer_15 (lsh_548 hL) (by omega) (by omega) ?_
    refine k2_callS1I m_X8_isObject dX2_isBearer_16 wl_X2_52 (Nat.le_of_ble_eq_true rfl) (s_X8_isObject hL o2 (fun h3 => ⟨_, rfl, ?_⟩) (fun h3 => ⟨_, rfl, ?_⟩))
    · have H := H.1 h3
      refine kw_if_eq 26 dX2_isBearer_19 (by decide) (k32i (by omega)) (fun h4 => absurd h4 (by decide)) (fun _ => ?_)
      refine kw_iconst dX2_isBearer_22 ?_
      refine kw_goto 27 dX2_isBearer_23 (by decide) ?_
      refine k2_zret dX2_isBearer_27 rfl (Or.inr rfl) H
    · have H := H.2 h3
      refine kw_if_eq 26 dX2_isBearer_19 (by decide) (k32i (by omega)) (fun _ => ?_) (fun h5 => absurd h5 (by decide))
      refine kw_iconst dX2_isBearer_26 ?_
      refine k2_zret dX2_isBearer_27 rfl (Or.inl rfl) H
set_option maxRecDepth 4000 in
theorem v_X2_pointsOn {G : KG} {S0 : KSh} (hL : kLay S0) {d : Nat} {P : Option AV → KMem → Prop} {c : KMem} {x2 : Int} (r2 : -2147483648 ≤ x2 ∧ x2 < 2147483648) (hp : 0 ≤ x2 ∧ x2 < 12) (H : kW2 G S0 kM_X2_pointsOn (d + 4) 5 [some (kA 533), some (kA 3), some (kI x2), some (kI 0), some (kI 0)] [] c P) : kC2 G S0 kM_X2_pointsOn (d + 4) [kA 533, kA 3, kI x2] c P := by
  refine k2_met (by decide) rfl (Nat.le_of_ble_eq_true rfl) (l0 := [some (kA 533), some (kA 3), some (kI x2), none, none]) rfl ?_
  refine kw_iconst dX2_pointsOn_0 ?_
  refine kw_istore_n dX2_pointsOn_1 (Nat.le_of_ble_eq_true rfl) ?_
  refine kw_iconst dX2_pointsOn_2 ?_
  refine kw_istore dX2_pointsOn_3 (Nat.le_of_ble_eq_true rfl) ?_
  exact kw_forget (ls' := [some (kA 533), some (kA 3), some (kI x2), some (kI 0), some (kI 0)]) ⟨Or.inr rfl, ⟨Or.inr rfl, ⟨Or.inr rfl, ⟨Or.inr rfl, ⟨Or.inr rfl, trivial⟩⟩⟩⟩⟩ H
set_option maxRecDepth 4000 in
theorem v_X2_pointsOn_5 {G : KG} {S0 : KSh} (hL : kLay S0) {d : Nat} {P : Option AV → KMem → Prop} {c : KMem} {x2 x3 x4 : Int} (r2 : -2147483648 ≤ x2 ∧ x2 < 2147483648) (r3 : 0 ≤ x3 ∧ x3 < 2147483648) (r4 : 0 ≤ x4 ∧ x4 < 2147483648) (hp : 0 ≤ x2 ∧ x2 < 12) (H : (12 ≤ x4 → (P (some (kI x3)) c)) ∧ (x4 < 12 → ((k32 (c 548 x4)) ∧ (((c 548 x4) ≠ 2 → (kW2 G S0 kM_X2_pointsOn (d + 4) 49 [some (kA 533), some (kA 3), some (kI x2), some (kI x3), some (kI x4)] [] c P)) ∧ ((c 548 x4) = 2 → ((0 ≤ x2 ∧ x2 < 12) ∧ ((0 ≤ x4 ∧ x4 < 12) ∧ (kC2 G S0 kM_X8_bears (d + 3) [kA (3 + 2 + x2), kI (c 548 x2), kA (3 + 2 + x4)] c (kRI (fun z6 c7 => (k32 z6) ∧ ((z6 = 0 → (kW2 G S0 kM_X2_pointsOn (d + 4) 49 [some (kA 533), some (kA 3), some (kI x2), some (kI x3), some (kI x4)] [] c7 P)) ∧ (z6 ≠ 0 → (kW2 G S0 kM_X2_pointsOn (d + 4) 49 [some (kA 533), some (kA 3), some (kI x2), some (kI (x3 + 1)), some (kI x4)] [] c7 P))))))))))))) : kW2 G S0 kM_X2_pointsOn (d + 4) 5 [some (kA 533), some (kA 3), some (kI x2), some (kI x3), some (kI x4)] [] c P := by
  refine kw_iload dX2_pointsOn_5 rfl ?_
  refine kw_bipush dX2_pointsOn_7 (by decide) ?_
  refine kw_icmp_ge 55 dX2_pointsOn_9 (by decide) (k32i (by omega)) (k32i (by omega)) (fun h1 => ?_) (fun h1 => ?_)
  · have H := H.1 h1
    refine kw_iload_n dX2_pointsOn_55 rfl ?_
    refine k2_iret dX2_pointsOn_56 rfl H
  · have H := H.2 h1
    refine kw_aload_n dX2_pointsOn_12 rfl ?_
    refine k2_getR fd_X2_2 dX2_pointsOn_13 wf_X2_20 (lsh_533 hL) (lrf_533_2 hL) ?_
    refine kw_iload dX2_pointsOn_16 rfl ?_
    refine k2_iald dX2_pointsOn_18 (lsh_548 hL) (by omega) (by omega) ?_
    refine kw_iconst dX2_pointsOn_19 ?_
    have o3 := H.1
    have H := H.2
    refine kw_icmp_ne 49 dX2_pointsOn_20 (by decide) o3 (k32i (by omega)) (fun h2 => ?_) (fun h2 => ?_)
    · have H := H.1 h2
      exact kw_forget (ls' := [some (kA 533), some (kA 3), some (kI x2), some (kI x3), some (kI x4)]) ⟨Or.inr rfl, ⟨Or.inr rfl, ⟨Or.inr rfl, ⟨Or.inr rfl, ⟨Or.inr rfl, trivial⟩⟩⟩⟩⟩ H
    · have H := H.2 h2
      refine kw_aload_n dX2_pointsOn_23 rfl ?_
      refine kw_iload_n dX2_pointsOn_24 rfl ?_
      have o4 := H.1
      have H := H.2
      refine k2_callV1A (ci := 0) (N := 2) (T := TX1) rfl (llt_3 hL).1 m_X1_form dX2_pointsOn_25 wl_X2_42 (Nat.le_of_ble_eq_true rfl) (s_X1_form hL (llt_3 hL) (by omega) o4 ⟨_, rfl, ?_⟩)
      refine kw_aload_n dX2_pointsOn_28 rfl ?_
      refine k2_getR fd_X2_2 dX2_pointsOn_29 wf_X2_20 (lsh_533 hL) (lrf_533_2 hL) ?_
      refine kw_iload_n dX2_pointsOn_32 rfl ?_
      refine k2_iald dX2_pointsOn_33 (lsh_548 hL) (by omega) (by omega) ?_
      refine kw_aload_n dX2_pointsOn_34 rfl ?_
      refine kw_iload dX2_pointsOn_35 rfl ?_
      have o5 := H.1
      have H := H.2
      refine k2_callV1A (ci := 0) (N := 2) (T := TX1) rfl (llt_3 hL).1 m_X1_form dX2_pointsOn_37 wl_X2_42 (Nat.le_of_ble_eq_true rfl) (s_X1_form hL (llt_3 hL) (by omega) o5 ⟨_, rfl, ?_⟩)
      refine k2_callS3I m_X8_bears dX2_pointsOn_40 wl_X2_55 (Nat.le_of_ble_eq_true rfl) (kC2_mono H (fun r c7 H => ?_))
      obtain ⟨z6, rfl, H⟩ := H
      refine ⟨z6, rfl, ?_⟩
      have o9 := H.1
      have H := H.2
      refine kw_if_eq 49 dX2_pointsOn_43 (by decide) o9 (fun h8 => ?_) (fun h8 => ?_)
      · have H := H.1 h8
        exact kw_forget (ls' := [some (kA 533), some (kA 3), some (kI x2), some (kI x3), some (kI x4)]) ⟨Or.inr rfl, ⟨Or.inr rfl, ⟨Or.inr rfl, ⟨Or.inr rfl, ⟨Or.inr rfl, trivial⟩⟩⟩⟩⟩ H
      · have H := H.2 h8
        refine kw_iinc dX2_pointsOn_46 rfl ?_
        exact kw_forget (ls' := [some (kA 533), some (kA 3), some (kI x2), some (kI (x3 + 1)), some (kI x4)]) ⟨Or.inr rfl, ⟨Or.inr rfl, ⟨Or.inr rfl, ⟨Or.inr rfl, ⟨Or.inr rfl, trivial⟩⟩⟩⟩⟩ H
set_option maxRecDepth 4000 in
theorem v_X2_pointsOn_49 {G : KG} {S0 : KSh} (hL : kLay S0) {d : Nat} {P : Option AV → KMem → Prop} {c : KMem} {x2 x3 x4 : Int} (r2 : -2147483648 ≤ x2 ∧ x2 < 2147483648) (r3 : 0 ≤ x3 ∧ x3 < 2147483648) (r4 : 0 ≤ x4 ∧ x4 < 2147483648) (H : kW2 G S0 kM_X2_pointsOn (d + 4) 5 [some (kA 533), some (kA 3), some (kI x2), some (kI x3), some (kI (x4 + 1))] [] c P) : kW2 G S0 kM_X2_pointsOn (d + 4) 49 [some (kA 533), some (kA 3), some (kI x2), some (kI x3), some (kI x4)] [] c P := by
  refine kw_iinc dX2_pointsOn_49 rfl ?_
  refine kw_goto 5 dX2_pointsOn_52 (by decide) ?_
  exact kw_forget (ls' := [some (kA 533), some (kA 3), some (kI x2), some (kI x3), some (kI (x4 + 1))]) ⟨Or.inr rfl, ⟨Or.inr rfl, ⟨Or.inr rfl, ⟨Or.inr rfl, ⟨Or.inr rfl, trivial⟩⟩⟩⟩⟩ H
set_option maxRecDepth 4000 in
theorem v_X2_pointsOnObjects {G : KG} {S0 : KSh} (hL : kLay S0) {d : Nat} {P : Option AV → KMem → Prop} {c : KMem}  (H : kC2 G S0 kM_X2_tellKinds (d + 5) [kA 533, kA 3] c (kRN (fun c2 => kW2 G S0 kM_X2_pointsOnObjects (d + 6) 9 [some (kA 533), some (kA 3), some (kI 0), some (kI 0)] [] c2 P))) : kC2 G S0 kM_X2_pointsOnObjects (d + 6) [kA 533, kA 3] c P := by
  refine k2_met (by decide) rfl (Nat.le_of_ble_eq_true rfl) (l0 := [some (kA 533), some (kA 3), none, none]) rfl ?_
  refine kw_aload_n dX2_pointsOnObjects_0 rfl ?_
  refine kw_aload_n dX2_pointsOnObjects_1 rfl ?_
  refine k2_callV1N (ci := 1) (N := 7) (T := TX2) rfl (lsh_533 hL) m_X2_tellKinds dX2_pointsOnObjects_2 wl_X2_59 (Nat.le_of_ble_eq_true rfl) (kC2_mono H (fun r c2 H => ?_))
  obtain ⟨rfl, H⟩ := H
  refine ⟨rfl, ?_⟩
  refine kw_iconst dX2_pointsOnObjects_5 ?_
  refine kw_istore_n dX2_pointsOnObjects_6 (Nat.le_of_ble_eq_true rfl) ?_
  refine kw_iconst dX2_pointsOnObjects_7 ?_
  refine kw_istore_n dX2_pointsOnObjects_8 (Nat.le_of_ble_eq_true rfl) ?_
  exact kw_forget (ls' := [some (kA 533), some (kA 3), some (kI 0), some (kI 0)]) ⟨Or.inr rfl, ⟨Or.inr rfl, ⟨Or.inr rfl, ⟨Or.inr rfl, trivial⟩⟩⟩⟩ H
set_option maxRecDepth 4000 in
theorem v_X2_pointsOnObjects_9 {G : KG} {S0 : KSh} (hL : kLay S0) {d : Nat} {P : Option AV → KMem → Prop} {c : KMem} {x2 x3 : Int} (r2 : -2147483648 ≤ x2 ∧ x2 < 2147483648) (r3 : 0 ≤ x3 ∧ x3 < 2147483648) (H : (12 ≤ x3 → (P (some (kI x2)) c)) ∧ (x3 < 12 → (kC2 G S0 kM_X2_isBearer (d + 5) [kA 533, kI x3] c (kRI (fun z4 c5 => (k32 z4) ∧ ((z4 = 0 → (kW2 G S0 kM_X2_pointsOnObjects (d + 6) 9 [some (kA 533), some (kA 3), some (kI x2), some (kI (x3 + 1))] [] c5 P)) ∧ (z4 ≠ 0 → (kC2 G S0 kM_X2_pointsOn (d + 5) [kA 533, kA 3, kI x3] c5 (kRI (fun z8 c9 => kW2 G S0 kM_X2_pointsOnObjects (d + 6) 9 [some (kA 533), some (kA 3), some (kI (x2 + z8)), some (kI (x3 + 1))] [] c9 P)))))))))) : kW2 G S0 kM_X2_pointsOnObjects (d + 6) 9 [some (kA 533), some (kA 3), some (kI x2), some (kI x3)] [] c P := by
  refine kw_iload_n dX2_pointsOnObjects_9 rfl ?_
  refine kw_bipush dX2_pointsOnObjects_10 (by decide) ?_
  refine kw_icmp_ge 38 dX2_pointsOnObjects_12 (by decide) (k32i (by omega)) (k32i (by omega)) (fun h3 => ?_) (fun h3 => ?_)
  · have H := H.1 h3
    refine kw_iload_n dX2_pointsOnObjects_38 rfl ?_
    refine k2_iret dX2_pointsOnObjects_39 rfl H
  · have H := H.2 h3
    refine kw_aload_n dX2_pointsOnObjects_15 rfl ?_
    refine kw_iload_n dX2_pointsOnObjects_16 rfl ?_
    refine k2_callV1I (ci := 1) (N := 7) (T := TX2) rfl (lsh_533 hL) m_X2_isBearer dX2_pointsOnObjects_17 wl_X2_63 (Nat.le_of_ble_eq_true rfl) (kC2_mono H (fun r c5 H => ?_))
    obtain ⟨z4, rfl, H⟩ := H
    refine ⟨z4, rfl, ?_⟩
    have o7 := H.1
    have H := H.2
    refine kw_if_eq 32 dX2_pointsOnObjects_20 (by decide) o7 (fun h6 => ?_) (fun h6 => ?_)
    · have H := H.1 h6
      refine kw_iinc dX2_pointsOnObjects_32 rfl ?_
      refine kw_goto 9 dX2_pointsOnObjects_35 (by decide) ?_
      exact kw_forget (ls' := [some (kA 533), some (kA 3), some (kI x2), some (kI (x3 + 1))]) ⟨Or.inr rfl, ⟨Or.inr rfl, ⟨Or.inr rfl, ⟨Or.inr rfl, trivial⟩⟩⟩⟩ H
    · have H := H.2 h6
      refine kw_iload_n dX2_pointsOnObjects_23 rfl ?_
      refine kw_aload_n dX2_pointsOnObjects_24 rfl ?_
      refine kw_aload_n dX2_pointsOnObjects_25 rfl ?_
      refine kw_iload_n dX2_pointsOnObjects_26 rfl ?_
      refine k2_callV2I (ci := 1) (N := 7) (T := TX2) rfl (lsh_533 hL) m_X2_pointsOn dX2_pointsOnObjects_27 wl_X2_66 (Nat.le_of_ble_eq_true rfl) (kC2_mono H (fun r c9 H => ?_))
      obtain ⟨z8, rfl, H⟩ := H
      refine ⟨z8, rfl, ?_⟩
      refine kw_iadd dX2_pointsOnObjects_30 ?_
      refine kw_istore_n dX2_pointsOnObjects_31 (Nat.le_of_ble_eq_true rfl) ?_
      refine kw_iinc dX2_pointsOnObjects_32 rfl ?_
      refine kw_goto 9 dX2_pointsOnObjects_35 (by decide) ?_
      exact kw_forget (ls' := [some (kA 533), some (kA 3), some (kI (x2 + z8)), some (kI (x3 + 1))]) ⟨Or.inr rfl, ⟨Or.inr rfl, ⟨Or.inr rfl, ⟨Or.inr rfl, trivial⟩⟩⟩⟩ H
set_option maxRecDepth 4000 in
theorem v_X2_fullestObject {G : KG} {S0 : KSh} (hL : kLay S0) {d : Nat} {P : Option AV → KMem → Prop} {c : KMem}  (H : kC2 G S0 kM_X2_tellKinds (d + 5) [kA 533, kA 3] c (kRN (fun c2 => kW2 G S0 kM_X2_fullestObject (d + 6) 13 [some (kA 533), some (kA 3), some (kI (-2)), some (kI (-1)), some (kI 0), none] [] c2 P))) : kC2 G S0 kM_X2_fullestObject (d + 6) [kA 533, kA 3] c P := by
  refine k2_met (by decide) rfl (Nat.le_of_ble_eq_true rfl) (l0 := [some (kA 533), some (kA 3), none, none, none, none]) rfl ?_
  refine kw_aload_n dX2_fullestObject_0 rfl ?_
  refine kw_aload_n dX2_fullestObject_1 rfl ?_
  refine k2_callV1N (ci := 1) (N := 7) (T := TX2) rfl (lsh_533 hL) m_X2_tellKinds dX2_fullestObject_2 wl_X2_59 (Nat.le_of_ble_eq_true rfl) (kC2_mono H (fun r c2 H => ?_))
  obtain ⟨rfl, H⟩ := H
  refine ⟨rfl, ?_⟩
  refine kw_bipush dX2_fullestObject_5 (by decide) ?_
  refine kw_istore_n dX2_fullestObject_7 (Nat.le_of_ble_eq_true rfl) ?_
  refine kw_iconst dX2_fullestObject_8 ?_
  refine kw_istore_n dX2_fullestObject_9 (Nat.le_of_ble_eq_true rfl) ?_
  refine kw_iconst dX2_fullestObject_10 ?_
  refine kw_istore dX2_fullestObject_11 (Nat.le_of_ble_eq_true rfl) ?_
  exact kw_forget (ls' := [some (kA 533), some (kA 3), some (kI (-2)), some (kI (-1)), some (kI 0), none]) ⟨Or.inr rfl, ⟨Or.inr rfl, ⟨Or.inr rfl, ⟨Or.inr rfl, ⟨Or.inr rfl, ⟨Or.inr rfl, trivial⟩⟩⟩⟩⟩⟩ H
set_option maxRecDepth 4000 in
theorem v_X2_fullestObject_13 {G : KG} {S0 : KSh} (hL : kLay S0) {d : Nat} {P : Option AV → KMem → Prop} {c : KMem} {x2 x3 x4 : Int} (r2 : -2147483648 ≤ x2 ∧ x2 < 2147483648) (r3 : -2147483648 ≤ x3 ∧ x3 < 2147483648) (r4 : 0 ≤ x4 ∧ x4 < 2147483648) (H : (12 ≤ x4 → (P (some (kI x2)) c)) ∧ (x4 < 12 → (kC2 G S0 kM_X2_isBearer (d + 5) [kA 533, kI x4] c (kRI (fun z4 c5 => (k32 z4) ∧ ((z4 = 0 → (((-1) ≤ x3 → (kW2 G S0 kM_X2_fullestObject (d + 6) 13 [some (kA 533), some (kA 3), some (kI x2), some (kI x3), some (kI (x4 + 1)), none] [] c5 P)) ∧ (x3 < (-1) → (kW2 G S0 kM_X2_fullestObject (d + 6) 13 [some (kA 533), some (kA 3), some (kI x4), some (kI (-1)), some (kI (x4 + 1)), none] [] c5 P)))) ∧ (z4 ≠ 0 → (kC2 G S0 kM_X2_pointsOn (d + 5) [kA 533, kA 3, kI x4] c5 (kRI (fun z9 c10 => (k32 z9) ∧ ((z9 ≤ x3 → (kW2 G S0 kM_X2_fullestObject (d + 6) 13 [some (kA 533), some (kA 3), some (kI x2), some (kI x3), some (kI (x4 + 1)), none] [] c10 P)) ∧ (x3 < z9 → (kW2 G S0 kM_X2_fullestObject (d + 6) 13 [some (kA 533), some (kA 3), some (kI x4), some (kI z9), some (kI (x4 + 1)), none] [] c10 P))))))))))))) : kW2 G S0 kM_X2_fullestObject (d + 6) 13 [some (kA 533), some (kA 3), some (kI x2), some (kI x3), some (kI x4), none] [] c P := by
  refine kw_iload dX2_fullestObject_13 rfl ?_
  refine kw_bipush dX2_fullestObject_15 (by decide) ?_
  refine kw_icmp_ge 60 dX2_fullestObject_17 (by decide) (k32i (by omega)) (k32i (by omega)) (fun h3 => ?_) (fun h3 => ?_)
  · have H := H.1 h3
    refine kw_iload_n dX2_fullestObject_60 rfl ?_
    refine k2_iret dX2_fullestObject_61 rfl H
  · have H := H.2 h3
    refine kw_aload_n dX2_fullestObject_20 rfl ?_
    refine kw_iload dX2_fullestObject_21 rfl ?_
    refine k2_callV1I (ci := 1) (N := 7) (T := TX2) rfl (lsh_533 hL) m_X2_isBearer dX2_fullestObject_23 wl_X2_63 (Nat.le_of_ble_eq_true rfl) (kC2_mono H (fun r c5 H => ?_))
    obtain ⟨z4, rfl, H⟩ := H
    refine ⟨z4, rfl, ?_⟩
    have o7 := H.1
    have H := H.2
    refine kw_if_eq 39 dX2_fullestObject_26 (by decide) o7 (fun h6 => ?_) (fun h6 => ?_)
    · have H := H.1 h6
      refine kw_iconst dX2_fullestObject_39 ?_
      refine kw_istore dX2_fullestObject_40 (Nat.le_of_ble_eq_true rfl) ?_
      refine kw_iload dX2_fullestObject_42 rfl ?_
      refine kw_iload_n dX2_fullestObject_44 rfl ?_
      refine kw_icmp_le 54 dX2_fullestObject_45 (by decide) (k32i (by omega)) (k32i (by omega)) (fun h8 => ?_) (fun h8 => ?_)
      · have H := H.1 h8
        refine kw_iinc dX2_fullestObject_54 rfl ?_
        refine kw_goto 13 dX2_fullestObject_57 (by decide) ?_
        exact kw_forget (ls' := [some (kA 533), some (kA 3), some (kI x2), some (kI x3), some (kI (x4 + 1)), none]) ⟨Or.inr rfl, ⟨Or.inr rfl, ⟨Or.inr rfl, ⟨Or.inr rfl, ⟨Or.inr rfl, ⟨Or.inl rfl, trivial⟩⟩⟩⟩⟩⟩ H
      · have H := H.2 h8
        refine kw_iload dX2_fullestObject_48 rfl ?_
        refine kw_istore_n dX2_fullestObject_50 (Nat.le_of_ble_eq_true rfl) ?_
        refine kw_iload dX2_fullestObject_51 rfl ?_
        refine kw_istore_n dX2_fullestObject_53 (Nat.le_of_ble_eq_true rfl) ?_
        refine kw_iinc dX2_fullestObject_54 rfl ?_
        refine kw_goto 13 dX2_fullestObject_57 (by decide) ?_
        exact kw_forget (ls' := [some (kA 533), some (kA 3), some (kI x4), some (kI (-1)), some (kI (x4 + 1)), none]) ⟨Or.inr rfl, ⟨Or.inr rfl, ⟨Or.inr rfl, ⟨Or.inr rfl, ⟨Or.inr rfl, ⟨Or.inl rfl, trivial⟩⟩⟩⟩⟩⟩ H
    · have H := H.2 h6
      refine kw_aload_n dX2_fullestObject_29 rfl ?_
      refine kw_aload_n dX2_fullestObject_30 rfl ?_
      refine kw_iload dX2_fullestObject_31 rfl ?_
      refine k2_callV2I (ci := 1) (N := 7) (T := TX2) rfl (lsh_533 hL) m_X2_pointsOn dX2_fullestObject_33 wl_X2_66 (Nat.le_of_ble_eq_true rfl) (kC2_mono H (fun r c10 H => ?_))
      obtain ⟨z9, rfl, H⟩ := H
      refine ⟨z9, rfl, ?_⟩
      refine kw_goto 40 dX2_fullestObject_36 (by decide) ?_
      refine kw_istore dX2_fullestObject_40 (Nat.le_of_ble_eq_true rfl) ?_
      refine kw_iload dX2_fullestObject_42 rfl ?_
      refine kw_iload_n dX2_fullestObject_44 rfl ?_
      have o12 := H.1
      have H := H.2
      refine kw_icmp_le 54 dX2_fullestObject_45 (by decide) o12 (k32i (by omega)) (fun h11 => ?_) (fun h11 => ?_)
      · have H := H.1 h11
        refine kw_iinc dX2_fullestObject_54 rfl ?_
        refine kw_goto 13 dX2_fullestObject_57 (by decide) ?_
        exact kw_forget (ls' := [some (kA 533), some (kA 3), some (kI x2), some (kI x3), some (kI (x4 + 1)), none]) ⟨Or.inr rfl, ⟨Or.inr rfl, ⟨Or.inr rfl, ⟨Or.inr rfl, ⟨Or.inr rfl, ⟨Or.inl rfl, trivial⟩⟩⟩⟩⟩⟩ H
      · have H := H.2 h11
        refine kw_iload dX2_fullestObject_48 rfl ?_
        refine kw_istore_n dX2_fullestObject_50 (Nat.le_of_ble_eq_true rfl) ?_
        refine kw_iload dX2_fullestObject_51 rfl ?_
        refine kw_istore_n dX2_fullestObject_53 (Nat.le_of_ble_eq_true rfl) ?_
        refine kw_iinc dX2_fullestObject_54 rfl ?_
        refine kw_goto 13 dX2_fullestObject_57 (by decide) ?_
        exact kw_forget (ls' := [some (kA 533), some (kA 3), some (kI x4), some (kI z9), some (kI (x4 + 1)), none]) ⟨Or.inr rfl, ⟨Or.inr rfl, ⟨Or.inr rfl, ⟨Or.inr rfl, ⟨Or.inr rfl, ⟨Or.inl rfl, trivial⟩⟩⟩⟩⟩⟩ H
set_option maxRecDepth 4000 in
theorem v_X2_areOuter {G : KG} {S0 : KSh} (hL : kLay S0) {d : Nat} {P : Option AV → KMem → Prop} {c : KMem} {x2 x3 : Int} (r2 : -2147483648 ≤ x2 ∧ x2 < 2147483648) (r3 : -2147483648 ≤ x3 ∧ x3 < 2147483648) (hp : 0 ≤ x2 ∧ x2 < 12 ∧ 0 ≤ x3 ∧ x3 < 12) (H : (k32 (c 548 x2)) ∧ (((c 548 x2) ≠ 2 → (P (some (kI 0)) c)) ∧ ((c 548 x2) = 2 → ((k32 (c 548 x3)) ∧ (((c 548 x3) = 2 → ((0 ≤ x2 ∧ x2 < 12) ∧ ((0 ≤ x3 ∧ x3 < 12) ∧ (kC2 G S0 kM_X0_multiply (d + 1) [kI 1, kA (3 + 2 + x2), kA (3 + 2 + x3), kA 550] c (kRN (fun c8 => kC2 G S0 kM_X0_isWithinBound (d + 1) [kA 550] c8 (kRI (fun z9 c10 => (z9 = 0 ∨ z9 = 1) ∧ (P (some (kI z9)) c10))))))))) ∧ ((c 548 x3) ≠ 2 → (P (some (kI 0)) c))))))) : kC2 G S0 kM_X2_areOuter (d + 2) [kA 533, kA 3, kI x2, kI x3] c P := by
  refine k2_met (by decide) rfl (Nat.le_of_ble_eq_true rfl) (l0 := [some (kA 533), some (kA 3), some (kI x2), some (kI x3)]) rfl ?_
  refine kw_aload_n dX2_areOuter_0 rfl ?_
  refine k2_getR fd_X2_2 dX2_areOuter_1 wf_X2_20 (lsh_533 hL) (lrf_533_2 hL) ?_
  refine kw_iload_n dX2_areOuter_4 rfl ?_
  refine k2_iald dX2_areOuter_5 (lsh_548 hL) (by omega) (by omega) ?_
  refine kw_iconst dX2_areOuter_6 ?_
  have o2 := H.1
  have H := H.2
  refine kw_icmp_ne 20 dX2_areOuter_7 (by decide) o2 (k32i (by omega)) (fun h1 => ?_) (fun h1 => ?_)
  · have H := H.1 h1
    refine kw_iconst dX2_areOuter_20 ?_
    refine k2_zret dX2_areOuter_21 rfl (Or.inl rfl) H
  · have H := H.2 h1
    refine kw_aload_n dX2_areOuter_10 rfl ?_
    refine k2_getR fd_X2_2 dX2_areOuter_11 wf_X2_20 (lsh_533 hL) (lrf_533_2 hL) ?_
    refine kw_iload_n dX2_areOuter_14 rfl ?_
    refine k2_iald dX2_areOuter_15 (lsh_548 hL) (by omega) (by omega) ?_
    refine kw_iconst dX2_areOuter_16 ?_
    have o4 := H.1
    have H := H.2
    refine kw_icmp_eq 22 dX2_areOuter_17 (by decide) o4 (k32i (by omega)) (fun h3 => ?_) (fun h3 => ?_)
    · have H := H.1 h3
      refine kw_iconst dX2_areOuter_22 ?_
      refine kw_aload_n dX2_areOuter_23 rfl ?_
      refine kw_iload_n dX2_areOuter_24 rfl ?_
      have o5 := H.1
      have H := H.2
      refine k2_callV1A (ci := 0) (N := 2) (T := TX1) rfl (llt_3 hL).1 m_X1_form dX2_areOuter_25 wl_X2_42 (Nat.le_of_ble_eq_true rfl) (s_X1_form hL (llt_3 hL) (by omega) o5 ⟨_, rfl, ?_⟩)
      refine kw_aload_n dX2_areOuter_28 rfl ?_
      refine kw_iload_n dX2_areOuter_29 rfl ?_
      have o6 := H.1
      have H := H.2
      refine k2_callV1A (ci := 0) (N := 2) (T := TX1) rfl (llt_3 hL).1 m_X1_form dX2_areOuter_30 wl_X2_42 (Nat.le_of_ble_eq_true rfl) (s_X1_form hL (llt_3 hL) (by omega) o6 ⟨_, rfl, ?_⟩)
      refine kw_aload_n dX2_areOuter_33 rfl ?_
      refine k2_getR fd_X2_4 dX2_areOuter_34 wf_X2_27 (lsh_533 hL) (lrf_533_4 hL) ?_
      refine k2_callS4N m_X0_multiply dX2_areOuter_37 wl_X2_80 (Nat.le_of_ble_eq_true rfl) (kC2_mono H (fun r c8 H => ?_))
      obtain ⟨rfl, H⟩ := H
      refine ⟨rfl, ?_⟩
      refine kw_aload_n dX2_areOuter_40 rfl ?_
      refine k2_getR fd_X2_4 dX2_areOuter_41 wf_X2_27 (lsh_533 hL) (lrf_533_4 hL) ?_
      refine k2_callS1I m_X0_isWithinBound dX2_areOuter_44 wl_X2_84 (Nat.le_of_ble_eq_true rfl) (kC2_mono H (fun r c10 H => ?_))
      obtain ⟨z9, rfl, H⟩ := H
      refine ⟨z9, rfl, ?_⟩
      have o11 := H.1
      have H := H.2
      refine k2_zret dX2_areOuter_47 rfl o11 H
    · have H := H.2 h3
      refine kw_iconst dX2_areOuter_20 ?_
      refine k2_zret dX2_areOuter_21 rfl (Or.inl rfl) H
set_option maxRecDepth 4000 in
theorem v_X2_fourthsBehind {G : KG} {S0 : KSh} (hL : kLay S0) {d : Nat} {P : Option AV → KMem → Prop} {c : KMem} {x2 : Int} (r2 : -2147483648 ≤ x2 ∧ x2 < 2147483648) (hp : 0 ≤ x2 ∧ x2 < 12) (H : kW2 G S0 kM_X2_fourthsBehind (d + 3) 7 [some (kA 533), some (kA 3), none, some (kI 0), some (kI (x2 + 1))] [] c P) : kC2 G S0 kM_X2_fourthsBehind (d + 3) [kA 533, kA 3, kI x2] c P := by
  refine k2_met (by decide) rfl (Nat.le_of_ble_eq_true rfl) (l0 := [some (kA 533), some (kA 3), some (kI x2), none, none]) rfl ?_
  refine kw_iconst dX2_fourthsBehind_0 ?_
  refine kw_istore_n dX2_fourthsBehind_1 (Nat.le_of_ble_eq_true rfl) ?_
  refine kw_iload_n dX2_fourthsBehind_2 rfl ?_
  refine kw_iconst dX2_fourthsBehind_3 ?_
  refine kw_iadd dX2_fourthsBehind_4 ?_
  refine kw_istore dX2_fourthsBehind_5 (Nat.le_of_ble_eq_true rfl) ?_
  exact kw_forget (ls' := [some (kA 533), some (kA 3), none, some (kI 0), some (kI (x2 + 1))]) ⟨Or.inr rfl, ⟨Or.inr rfl, ⟨Or.inl rfl, ⟨Or.inr rfl, ⟨Or.inr rfl, trivial⟩⟩⟩⟩⟩ H
set_option maxRecDepth 4000 in
theorem v_X2_fourthsBehind_7 {G : KG} {S0 : KSh} (hL : kLay S0) {d : Nat} {P : Option AV → KMem → Prop} {c : KMem} {x3 x4 : Int} (r3 : 0 ≤ x3 ∧ x3 < 2147483648) (r4 : -2147483648 ≤ x4 ∧ x4 < 2147483648) (hp : 0 ≤ x4) (H : (12 ≤ x4 → (P (some (kI x3)) c)) ∧ (x4 < 12 → ((k32 (c 548 x4)) ∧ (((c 548 x4) ≠ 2 → (kW2 G S0 kM_X2_fourthsBehind (d + 3) 44 [some (kA 533), some (kA 3), none, some (kI x3), some (kI x4)] [] c P)) ∧ ((c 548 x4) = 2 → ((0 ≤ x4 ∧ x4 < 12) ∧ (kC2 G S0 kM_X0_isOuterZero (d + 2) [kA 551, kA (3 + 2 + x4)] c (kRI (fun z5 c6 => (k32 z5) ∧ ((z5 = 0 → (kW2 G S0 kM_X2_fourthsBehind (d + 3) 44 [some (kA 533), some (kA 3), none, some (kI x3), some (kI x4)] [] c6 P)) ∧ (z5 ≠ 0 → (kW2 G S0 kM_X2_fourthsBehind (d + 3) 44 [some (kA 533), some (kA 3), none, some (kI (x3 + 1)), some (kI x4)] [] c6 P)))))))))))) : kW2 G S0 kM_X2_fourthsBehind (d + 3) 7 [some (kA 533), some (kA 3), none, some (kI x3), some (kI x4)] [] c P := by
  refine kw_iload dX2_fourthsBehind_7 rfl ?_
  refine kw_bipush dX2_fourthsBehind_9 (by decide) ?_
  refine kw_icmp_ge 50 dX2_fourthsBehind_11 (by decide) (k32i (by omega)) (k32i (by omega)) (fun h1 => ?_) (fun h1 => ?_)
  · have H := H.1 h1
    refine kw_iload_n dX2_fourthsBehind_50 rfl ?_
    refine k2_iret dX2_fourthsBehind_51 rfl H
  · have H := H.2 h1
    refine kw_aload_n dX2_fourthsBehind_14 rfl ?_
    refine k2_getR fd_X2_2 dX2_fourthsBehind_15 wf_X2_20 (lsh_533 hL) (lrf_533_2 hL) ?_
    refine kw_iload dX2_fourthsBehind_18 rfl ?_
    refine k2_iald dX2_fourthsBehind_20 (lsh_548 hL) (by omega) (by omega) ?_
    refine kw_iconst dX2_fourthsBehind_21 ?_
    have o3 := H.1
    have H := H.2
    refine kw_icmp_ne 44 dX2_fourthsBehind_22 (by decide) o3 (k32i (by omega)) (fun h2 => ?_) (fun h2 => ?_)
    · have H := H.1 h2
      exact kw_forget (ls' := [some (kA 533), some (kA 3), none, some (kI x3), some (kI x4)]) ⟨Or.inr rfl, ⟨Or.inr rfl, ⟨Or.inr rfl, ⟨Or.inr rfl, ⟨Or.inr rfl, trivial⟩⟩⟩⟩⟩ H
    · have H := H.2 h2
      refine kw_aload_n dX2_fourthsBehind_25 rfl ?_
      refine k2_getR fd_X2_5 dX2_fourthsBehind_26 wf_X2_30 (lsh_533 hL) (lrf_533_5 hL) ?_
      refine kw_aload_n dX2_fourthsBehind_29 rfl ?_
      refine kw_iload dX2_fourthsBehind_30 rfl ?_
      have o4 := H.1
      have H := H.2
      refine k2_callV1A (ci := 0) (N := 2) (T := TX1) rfl (llt_3 hL).1 m_X1_form dX2_fourthsBehind_32 wl_X2_42 (Nat.le_of_ble_eq_true rfl) (s_X1_form hL (llt_3 hL) (by omega) o4 ⟨_, rfl, ?_⟩)
      refine k2_callS2I m_X0_isOuterZero dX2_fourthsBehind_35 wl_X2_91 (Nat.le_of_ble_eq_true rfl) (kC2_mono H (fun r c6 H => ?_))
      obtain ⟨z5, rfl, H⟩ := H
      refine ⟨z5, rfl, ?_⟩
      have o8 := H.1
      have H := H.2
      refine kw_if_eq 44 dX2_fourthsBehind_38 (by decide) o8 (fun h7 => ?_) (fun h7 => ?_)
      · have H := H.1 h7
        exact kw_forget (ls' := [some (kA 533), some (kA 3), none, some (kI x3), some (kI x4)]) ⟨Or.inr rfl, ⟨Or.inr rfl, ⟨Or.inr rfl, ⟨Or.inr rfl, ⟨Or.inr rfl, trivial⟩⟩⟩⟩⟩ H
      · have H := H.2 h7
        refine kw_iinc dX2_fourthsBehind_41 rfl ?_
        exact kw_forget (ls' := [some (kA 533), some (kA 3), none, some (kI (x3 + 1)), some (kI x4)]) ⟨Or.inr rfl, ⟨Or.inr rfl, ⟨Or.inr rfl, ⟨Or.inr rfl, ⟨Or.inr rfl, trivial⟩⟩⟩⟩⟩ H
set_option maxRecDepth 4000 in
theorem v_X2_fourthsBehind_44 {G : KG} {S0 : KSh} (hL : kLay S0) {d : Nat} {P : Option AV → KMem → Prop} {c : KMem} {x3 x4 : Int} (r3 : 0 ≤ x3 ∧ x3 < 2147483648) (r4 : -2147483648 ≤ x4 ∧ x4 < 2147483648) (hp : 0 ≤ x4 ∧ x4 < 12) (H : kW2 G S0 kM_X2_fourthsBehind (d + 3) 7 [some (kA 533), some (kA 3), none, some (kI x3), some (kI (x4 + 1))] [] c P) : kW2 G S0 kM_X2_fourthsBehind (d + 3) 44 [some (kA 533), some (kA 3), none, some (kI x3), some (kI x4)] [] c P := by
  refine kw_iinc dX2_fourthsBehind_44 rfl ?_
  refine kw_goto 7 dX2_fourthsBehind_47 (by decide) ?_
  exact kw_forget (ls' := [some (kA 533), some (kA 3), none, some (kI x3), some (kI (x4 + 1))]) ⟨Or.inr rfl, ⟨Or.inr rfl, ⟨Or.inr rfl, ⟨Or.inr rfl, ⟨Or.inr rfl, trivial⟩⟩⟩⟩⟩ H
set_option maxRecDepth 4000 in
theorem v_X2_dependentBehind {G : KG} {S0 : KSh} (hL : kLay S0) {d : Nat} {P : Option AV → KMem → Prop} {c : KMem} {x2 x3 : Int} (r2 : -2147483648 ≤ x2 ∧ x2 < 2147483648) (r3 : -2147483648 ≤ x3 ∧ x3 < 2147483648) (hp : 0 ≤ x2 ∧ x2 < 12) (H : kW2 G S0 kM_X2_dependentBehind (d + 4) 8 [some (kA 533), some (kA 3), none, some (kI x3), some (kI 0), some (kI (x2 + 1))] [] c P) : kC2 G S0 kM_X2_dependentBehind (d + 4) [kA 533, kA 3, kI x2, kI x3] c P := by
  refine k2_met (by decide) rfl (Nat.le_of_ble_eq_true rfl) (l0 := [some (kA 533), some (kA 3), some (kI x2), some (kI x3), none, none]) rfl ?_
  refine kw_iconst dX2_dependentBehind_0 ?_
  refine kw_istore dX2_dependentBehind_1 (Nat.le_of_ble_eq_true rfl) ?_
  refine kw_iload_n dX2_dependentBehind_3 rfl ?_
  refine kw_iconst dX2_dependentBehind_4 ?_
  refine kw_iadd dX2_dependentBehind_5 ?_
  refine kw_istore dX2_dependentBehind_6 (Nat.le_of_ble_eq_true rfl) ?_
  exact kw_forget (ls' := [some (kA 533), some (kA 3), none, some (kI x3), some (kI 0), some (kI (x2 + 1))]) ⟨Or.inr rfl, ⟨Or.inr rfl, ⟨Or.inl rfl, ⟨Or.inr rfl, ⟨Or.inr rfl, ⟨Or.inr rfl, trivial⟩⟩⟩⟩⟩⟩ H
set_option maxRecDepth 4000 in
theorem v_X2_dependentBehind_8 {G : KG} {S0 : KSh} (hL : kLay S0) {d : Nat} {P : Option AV → KMem → Prop} {c : KMem} {x3 x4 x5 : Int} (r3 : -2147483648 ≤ x3 ∧ x3 < 2147483648) (r4 : -2147483648 ≤ x4 ∧ x4 < 2147483648) (r5 : -2147483648 ≤ x5 ∧ x5 < 2147483648) (hp : 0 ≤ x5) (H : (12 ≤ x5 → (P (some (kI x4)) c)) ∧ (x5 < 12 → ((k32 (c 548 x5)) ∧ (((c 548 x5) ≠ 2 → (kW2 G S0 kM_X2_dependentBehind (d + 4) 90 [some (kA 533), some (kA 3), none, some (kI x3), some (kI x4), some (kI x5)] [] c P)) ∧ ((c 548 x5) = 2 → ((0 ≤ x5 ∧ x5 < 12) ∧ (kC2 G S0 kM_X0_multiply (d + 3) [kI 1, kA 550, kA (3 + 2 + x5), kA 551] c (kRN (fun c6 => kC2 G S0 kM_X0_isWithinBound (d + 3) [kA 551] c6 (kRI (fun z7 c8 => (k32 z7) ∧ ((z7 = 0 → (kW2 G S0 kM_X2_dependentBehind (d + 4) 90 [some (kA 533), some (kA 3), none, some (kI x3), some (kI x4), some (kI x5)] [] c8 P)) ∧ (z7 ≠ 0 → ((x3 = 0 → (kC2 G S0 kM_X0_isOuterZero (d + 3) [kA 551, kA 549] c8 (kRI (fun z12 c13 => (k32 z12) ∧ ((z12 = 0 → (kW2 G S0 kM_X2_dependentBehind (d + 4) 90 [some (kA 533), some (kA 3), none, some (kI x3), some (kI x4), some (kI x5)] [] c13 P)) ∧ (z12 ≠ 0 → (kW2 G S0 kM_X2_dependentBehind (d + 4) 90 [some (kA 533), some (kA 3), none, some (kI x3), some (kI (x4 + 1)), some (kI x5)] [] c13 P))))))) ∧ (x3 ≠ 0 → (kC2 G S0 kM_X2_fourthsBehind (d + 3) [kA 533, kA 3, kI x5] c8 (kRI (fun z16 c17 => kW2 G S0 kM_X2_dependentBehind (d + 4) 90 [some (kA 533), some (kA 3), none, some (kI x3), some (kI (x4 + z16)), some (kI x5)] [] c17 P)))))))))))))))))) : kW2 G S0 kM_X2_dependentBehind (d + 4) 8 [some (kA 533), some (kA 3), none, some (kI x3), some (kI x4), some (kI x5)] [] c P := by
  refine kw_iload dX2_dependentBehind_8 rfl ?_
  refine kw_bipush dX2_dependentBehind_10 (by decide) ?_
  refine kw_icmp_ge 96 dX2_dependentBehind_12 (by decide) (k32i (by omega)) (k32i (by omega)) (fun h1 => ?_) (fun h1 => ?_)
  · have H := H.1 h1
    refine kw_iload dX2_dependentBehind_96 rfl ?_
    refine k2_iret dX2_dependentBehind_98 rfl H
  · have H := H.2 h1
    refine kw_aload_n dX2_dependentBehind_15 rfl ?_
    refine k2_getR fd_X2_2 dX2_dependentBehind_16 wf_X2_20 (lsh_533 hL) (lrf_533_2 hL) ?_
    refine kw_iload dX2_dependentBehind_19 rfl ?_
    refine k2_iald dX2_dependentBehind_21 (lsh_548 hL) (by omega) (by omega) ?_
    refine kw_iconst dX2_dependentBehind_22 ?_
    have o3 := H.1
    have H := H.2
    refine kw_icmp_ne 90 dX2_dependentBehind_23 (by decide) o3 (k32i (by omega)) (fun h2 => ?_) (fun h2 => ?_)
    · have H := H.1 h2
      exact kw_forget (ls' := [some (kA 533), some (kA 3), none, some (kI x3), some (kI x4), some (kI x5)]) ⟨Or.inr rfl, ⟨Or.inr rfl, ⟨Or.inr rfl, ⟨Or.inr rfl, ⟨Or.inr rfl, ⟨Or.inr rfl, trivial⟩⟩⟩⟩⟩⟩ H
    · have H := H.2 h2
      refine kw_iconst dX2_dependentBehind_26 ?_
      refine kw_aload_n dX2_dependentBehind_27 rfl ?_
      refine k2_getR fd_X2_4 dX2_dependentBehind_28 wf_X2_27 (lsh_533 hL) (lrf_533_4 hL) ?_
      refine kw_aload_n dX2_dependentBehind_31 rfl ?_
      refine kw_iload dX2_dependentBehind_32 rfl ?_
      have o4 := H.1
      have H := H.2
      refine k2_callV1A (ci := 0) (N := 2) (T := TX1) rfl (llt_3 hL).1 m_X1_form dX2_dependentBehind_34 wl_X2_42 (Nat.le_of_ble_eq_true rfl) (s_X1_form hL (llt_3 hL) (by omega) o4 ⟨_, rfl, ?_⟩)
      refine kw_aload_n dX2_dependentBehind_37 rfl ?_
      refine k2_getR fd_X2_5 dX2_dependentBehind_38 wf_X2_30 (lsh_533 hL) (lrf_533_5 hL) ?_
      refine k2_callS4N m_X0_multiply dX2_dependentBehind_41 wl_X2_80 (Nat.le_of_ble_eq_true rfl) (kC2_mono H (fun r c6 H => ?_))
      obtain ⟨rfl, H⟩ := H
      refine ⟨rfl, ?_⟩
      refine kw_aload_n dX2_dependentBehind_44 rfl ?_
      refine k2_getR fd_X2_5 dX2_dependentBehind_45 wf_X2_30 (lsh_533 hL) (lrf_533_5 hL) ?_
      refine k2_callS1I m_X0_isWithinBound dX2_dependentBehind_48 wl_X2_84 (Nat.le_of_ble_eq_true rfl) (kC2_mono H (fun r c8 H => ?_))
      obtain ⟨z7, rfl, H⟩ := H
      refine ⟨z7, rfl, ?_⟩
      have o10 := H.1
      have H := H.2
      refine kw_if_eq 90 dX2_dependentBehind_51 (by decide) o10 (fun h9 => ?_) (fun h9 => ?_)
      · have H := H.1 h9
        exact kw_forget (ls' := [some (kA 533), some (kA 3), none, some (kI x3), some (kI x4), some (kI x5)]) ⟨Or.inr rfl, ⟨Or.inr rfl, ⟨Or.inr rfl, ⟨Or.inr rfl, ⟨Or.inr rfl, ⟨Or.inr rfl, trivial⟩⟩⟩⟩⟩⟩ H
      · have H := H.2 h9
        refine kw_iload_n dX2_dependentBehind_54 rfl ?_
        refine kw_if_eq 73 dX2_dependentBehind_55 (by decide) (k32i (by omega)) (fun h11 => ?_) (fun h11 => ?_)
        · have H := H.1 h11
          refine kw_aload_n dX2_dependentBehind_73 rfl ?_
          refine k2_getR fd_X2_5 dX2_dependentBehind_74 wf_X2_30 (lsh_533 hL) (lrf_533_5 hL) ?_
          refine kw_aload_n dX2_dependentBehind_77 rfl ?_
          refine k2_getR fd_X2_3 dX2_dependentBehind_78 wf_X2_23 (lsh_533 hL) (lrf_533_3 hL) ?_
          refine k2_callS2I m_X0_isOuterZero dX2_dependentBehind_81 wl_X2_91 (Nat.le_of_ble_eq_true rfl) (kC2_mono H (fun r c13 H => ?_))
          obtain ⟨z12, rfl, H⟩ := H
          refine ⟨z12, rfl, ?_⟩
          have o15 := H.1
          have H := H.2
          refine kw_if_eq 90 dX2_dependentBehind_84 (by decide) o15 (fun h14 => ?_) (fun h14 => ?_)
          · have H := H.1 h14
            exact kw_forget (ls' := [some (kA 533), some (kA 3), none, some (kI x3), some (kI x4), some (kI x5)]) ⟨Or.inr rfl, ⟨Or.inr rfl, ⟨Or.inr rfl, ⟨Or.inr rfl, ⟨Or.inr rfl, ⟨Or.inr rfl, trivial⟩⟩⟩⟩⟩⟩ H
          · have H := H.2 h14
            refine kw_iinc dX2_dependentBehind_87 rfl ?_
            exact kw_forget (ls' := [some (kA 533), some (kA 3), none, some (kI x3), some (kI (x4 + 1)), some (kI x5)]) ⟨Or.inr rfl, ⟨Or.inr rfl, ⟨Or.inr rfl, ⟨Or.inr rfl, ⟨Or.inr rfl, ⟨Or.inr rfl, trivial⟩⟩⟩⟩⟩⟩ H
        · have H := H.2 h11
          refine kw_iload dX2_dependentBehind_58 rfl ?_
          refine kw_aload_n dX2_dependentBehind_60 rfl ?_
          refine kw_aload_n dX2_dependentBehind_61 rfl ?_
          refine kw_iload dX2_dependentBehind_62 rfl ?_
          refine k2_callV2I (ci := 1) (N := 7) (T := TX2) rfl (lsh_533 hL) m_X2_fourthsBehind dX2_dependentBehind_64 wl_X2_88 (Nat.le_of_ble_eq_true rfl) (kC2_mono H (fun r c17 H => ?_))
          obtain ⟨z16, rfl, H⟩ := H
          refine ⟨z16, rfl, ?_⟩
          refine kw_iadd dX2_dependentBehind_67 ?_
          refine kw_istore dX2_dependentBehind_68 (Nat.le_of_ble_eq_true rfl) ?_
          refine kw_goto 90 dX2_dependentBehind_70 (by decide) ?_
          exact kw_forget (ls' := [some (kA 533), some (kA 3), none, some (kI x3), some (kI (x4 + z16)), some (kI x5)]) ⟨Or.inr rfl, ⟨Or.inr rfl, ⟨Or.inr rfl, ⟨Or.inr rfl, ⟨Or.inr rfl, ⟨Or.inr rfl, trivial⟩⟩⟩⟩⟩⟩ H
set_option maxRecDepth 4000 in
theorem v_X2_dependentBehind_90 {G : KG} {S0 : KSh} (hL : kLay S0) {d : Nat} {P : Option AV → KMem → Prop} {c : KMem} {x3 x4 x5 : Int} (r3 : -2147483648 ≤ x3 ∧ x3 < 2147483648) (r4 : -2147483648 ≤ x4 ∧ x4 < 2147483648) (r5 : -2147483648 ≤ x5 ∧ x5 < 2147483648) (hp : 0 ≤ x5 ∧ x5 < 12) (H : kW2 G S0 kM_X2_dependentBehind (d + 4) 8 [some (kA 533), some (kA 3), none, some (kI x3), some (kI x4), some (kI (x5 + 1))] [] c P) : kW2 G S0 kM_X2_dependentBehind (d + 4) 90 [some (kA 533), some (kA 3), none, some (kI x3), some (kI x4), some (kI x5)] [] c P := by
  refine kw_iinc dX2_dependentBehind_90 rfl ?_
  refine kw_goto 8 dX2_dependentBehind_93 (by decide) ?_
  exact kw_forget (ls' := [some (kA 533), some (kA 3), none, some (kI x3), some (kI x4), some (kI (x5 + 1))]) ⟨Or.inr rfl, ⟨Or.inr rfl, ⟨Or.inr rfl, ⟨Or.inr rfl, ⟨Or.inr rfl, ⟨Or.inr rfl, trivial⟩⟩⟩⟩⟩⟩ H
set_option maxRecDepth 4000 in
theorem v_X2_dependent {G : KG} {S0 : KSh} (hL : kLay S0) {d : Nat} {P : Option AV → KMem → Prop} {c : KMem} {x2 : Int} (r2 : -2147483648 ≤ x2 ∧ x2 < 2147483648) (H : kC2 G S0 kM_X2_tellKinds (d + 5) [kA 533, kA 3] c (kRN (fun c2 => kW2 G S0 kM_X2_dependent (d + 6) 10 [some (kA 533), some (kA 3), some (kI x2), some (kI 0), some (kI 0), none] [] c2 P))) : kC2 G S0 kM_X2_dependent (d + 6) [kA 533, kA 3, kI x2] c P := by
  refine k2_met (by decide) rfl (Nat.le_of_ble_eq_true rfl) (l0 := [some (kA 533), some (kA 3), some (kI x2), none, none, none]) rfl ?_
  refine kw_aload_n dX2_dependent_0 rfl ?_
  refine kw_aload_n dX2_dependent_1 rfl ?_
  refine k2_callV1N (ci := 1) (N := 7) (T := TX2) rfl (lsh_533 hL) m_X2_tellKinds dX2_dependent_2 wl_X2_59 (Nat.le_of_ble_eq_true rfl) (kC2_mono H (fun r c2 H => ?_))
  obtain ⟨rfl, H⟩ := H
  refine ⟨rfl, ?_⟩
  refine kw_iconst dX2_dependent_5 ?_
  refine kw_istore_n dX2_dependent_6 (Nat.le_of_ble_eq_true rfl) ?_
  refine kw_iconst dX2_dependent_7 ?_
  refine kw_istore dX2_dependent_8 (Nat.le_of_ble_eq_true rfl) ?_
  exact kw_forget (ls' := [some (kA 533), some (kA 3), some (kI x2), some (kI 0), some (kI 0), none]) ⟨Or.inr rfl, ⟨Or.inr rfl, ⟨Or.inr rfl, ⟨Or.inr rfl, ⟨Or.inr rfl, ⟨Or.inr rfl, trivial⟩⟩⟩⟩⟩⟩ H
set_option maxRecDepth 4000 in
theorem v_X2_dependent_10 {G : KG} {S0 : KSh} (hL : kLay S0) {d : Nat} {P : Option AV → KMem → Prop} {c : KMem} {x2 x3 x4 : Int} (r2 : -2147483648 ≤ x2 ∧ x2 < 2147483648) (r3 : -2147483648 ≤ x3 ∧ x3 < 2147483648) (r4 : 0 ≤ x4 ∧ x4 < 2147483648) (H : (12 ≤ x4 → (P (some (kI x3)) c)) ∧ (x4 < 12 → (kW2 G S0 kM_X2_dependent (d + 6) 23 [some (kA 533), some (kA 3), some (kI x2), some (kI x3), some (kI x4), some (kI (x4 + 1))] [] c P))) : kW2 G S0 kM_X2_dependent (d + 6) 10 [some (kA 533), some (kA 3), some (kI x2), some (kI x3), some (kI x4), none] [] c P := by
  refine kw_iload dX2_dependent_10 rfl ?_
  refine kw_bipush dX2_dependent_12 (by decide) ?_
  refine kw_icmp_ge 65 dX2_dependent_14 (by decide) (k32i (by omega)) (k32i (by omega)) (fun h3 => ?_) (fun h3 => ?_)
  · have H := H.1 h3
    refine kw_iload_n dX2_dependent_65 rfl ?_
    refine k2_iret dX2_dependent_66 rfl H
  · have H := H.2 h3
    refine kw_iload dX2_dependent_17 rfl ?_
    refine kw_iconst dX2_dependent_19 ?_
    refine kw_iadd dX2_dependent_20 ?_
    refine kw_istore dX2_dependent_21 (Nat.le_of_ble_eq_true rfl) ?_
    exact kw_forget (ls' := [some (kA 533), some (kA 3), some (kI x2), some (kI x3), some (kI x4), some (kI (x4 + 1))]) ⟨Or.inr rfl, ⟨Or.inr rfl, ⟨Or.inr rfl, ⟨Or.inr rfl, ⟨Or.inr rfl, ⟨Or.inr rfl, trivial⟩⟩⟩⟩⟩⟩ H
set_option maxRecDepth 4000 in
theorem v_X2_dependent_23 {G : KG} {S0 : KSh} (hL : kLay S0) {d : Nat} {P : Option AV → KMem → Prop} {c : KMem} {x2 x3 x4 x5 : Int} (r2 : -2147483648 ≤ x2 ∧ x2 < 2147483648) (r3 : -2147483648 ≤ x3 ∧ x3 < 2147483648) (r4 : 0 ≤ x4 ∧ x4 < 2147483648) (r5 : -2147483648 ≤ x5 ∧ x5 < 2147483648) (hp : 0 ≤ x5) (H : (12 ≤ x5 → (kW2 G S0 kM_X2_dependent (d + 6) 10 [some (kA 533), some (kA 3), some (kI x2), some (kI x3), some (kI (x4 + 1)), none] [] c P)) ∧ (x5 < 12 → (kC2 G S0 kM_X2_areOuter (d + 5) [kA 533, kA 3, kI x4, kI x5] c (kRI (fun z5 c6 => (k32 z5) ∧ ((z5 = 0 → (kW2 G S0 kM_X2_dependent (d + 6) 23 [some (kA 533), some (kA 3), some (kI x2), some (kI x3), some (kI x4), some (kI (x5 + 1))] [] c6 P)) ∧ (z5 ≠ 0 → (kC2 G S0 kM_X2_dependentBehind (d + 5) [kA 533, kA 3, kI x5, kI x2] c6 (kRI (fun z9 c10 => kW2 G S0 kM_X2_dependent (d + 6) 23 [some (kA 533), some (kA 3), some (kI x2), some (kI (x3 + z9)), some (kI x4), some (kI (x5 + 1))] [] c10 P)))))))))) : kW2 G S0 kM_X2_dependent (d + 6) 23 [some (kA 533), some (kA 3), some (kI x2), some (kI x3), some (kI x4), some (kI x5)] [] c P := by
  refine kw_iload dX2_dependent_23 rfl ?_
  refine kw_bipush dX2_dependent_25 (by decide) ?_
  refine kw_icmp_ge 59 dX2_dependent_27 (by decide) (k32i (by omega)) (k32i (by omega)) (fun h4 => ?_) (fun h4 => ?_)
  · have H := H.1 h4
    refine kw_iinc dX2_dependent_59 rfl ?_
    refine kw_goto 10 dX2_dependent_62 (by decide) ?_
    exact kw_forget (ls' := [some (kA 533), some (kA 3), some (kI x2), some (kI x3), some (kI (x4 + 1)), none]) ⟨Or.inr rfl, ⟨Or.inr rfl, ⟨Or.inr rfl, ⟨Or.inr rfl, ⟨Or.inr rfl, ⟨Or.inl rfl, trivial⟩⟩⟩⟩⟩⟩ H
  · have H := H.2 h4
    refine kw_aload_n dX2_dependent_30 rfl ?_
    refine kw_aload_n dX2_dependent_31 rfl ?_
    refine kw_iload dX2_dependent_32 rfl ?_
    refine kw_iload dX2_dependent_34 rfl ?_
    refine k2_callV3I (ci := 1) (N := 7) (T := TX2) rfl (lsh_533 hL) m_X2_areOuter dX2_dependent_36 wl_X2_70 (Nat.le_of_ble_eq_true rfl) (kC2_mono H (fun r c6 H => ?_))
    obtain ⟨z5, rfl, H⟩ := H
    refine ⟨z5, rfl, ?_⟩
    have o8 := H.1
    have H := H.2
    refine kw_if_eq 53 dX2_dependent_39 (by decide) o8 (fun h7 => ?_) (fun h7 => ?_)
    · have H := H.1 h7
      refine kw_iinc dX2_dependent_53 rfl ?_
      refine kw_goto 23 dX2_dependent_56 (by decide) ?_
      exact kw_forget (ls' := [some (kA 533), some (kA 3), some (kI x2), some (kI x3), some (kI x4), some (kI (x5 + 1))]) ⟨Or.inr rfl, ⟨Or.inr rfl, ⟨Or.inr rfl, ⟨Or.inr rfl, ⟨Or.inr rfl, ⟨Or.inr rfl, trivial⟩⟩⟩⟩⟩⟩ H
    · have H := H.2 h7
      refine kw_iload_n dX2_dependent_42 rfl ?_
      refine kw_aload_n dX2_dependent_43 rfl ?_
      refine kw_aload_n dX2_dependent_44 rfl ?_
      refine kw_iload dX2_dependent_45 rfl ?_
      refine kw_iload_n dX2_dependent_47 rfl ?_
      refine k2_callV3I (ci := 1) (N := 7) (T := TX2) rfl (lsh_533 hL) m_X2_dependentBehind dX2_dependent_48 wl_X2_74 (Nat.le_of_ble_eq_true rfl) (kC2_mono H (fun r c10 H => ?_))
      obtain ⟨z9, rfl, H⟩ := H
      refine ⟨z9, rfl, ?_⟩
      refine kw_iadd dX2_dependent_51 ?_
      refine kw_istore_n dX2_dependent_52 (Nat.le_of_ble_eq_true rfl) ?_
      refine kw_iinc dX2_dependent_53 rfl ?_
      refine kw_goto 23 dX2_dependent_56 (by decide) ?_
      exact kw_forget (ls' := [some (kA 533), some (kA 3), some (kI x2), some (kI (x3 + z9)), some (kI x4), some (kI (x5 + 1))]) ⟨Or.inr rfl, ⟨Or.inr rfl, ⟨Or.inr rfl, ⟨Or.inr rfl, ⟨Or.inr rfl, ⟨Or.inr rfl, trivial⟩⟩⟩⟩⟩⟩ H
set_option maxRecDepth 4000 in
theorem v_X2_likePairs {G : KG} {S0 : KSh} (hL : kLay S0) {d : Nat} {P : Option AV → KMem → Prop} {c : KMem}  (H : kW2 G S0 kM_X2_likePairs (d + 3) 4 [some (kA 533), some (kA 3), some (kI 0), some (kI 0), none] [] c P) : kC2 G S0 kM_X2_likePairs (d + 3) [kA 533, kA 3] c P := by
  refine k2_met (by decide) rfl (Nat.le_of_ble_eq_true rfl) (l0 := [some (kA 533), some (kA 3), none, none, none]) rfl ?_
  refine kw_iconst dX2_likePairs_0 ?_
  refine kw_istore_n dX2_likePairs_1 (Nat.le_of_ble_eq_true rfl) ?_
  refine kw_iconst dX2_likePairs_2 ?_
  refine kw_istore_n dX2_likePairs_3 (Nat.le_of_ble_eq_true rfl) ?_
  exact kw_forget (ls' := [some (kA 533), some (kA 3), some (kI 0), some (kI 0), none]) ⟨Or.inr rfl, ⟨Or.inr rfl, ⟨Or.inr rfl, ⟨Or.inr rfl, ⟨Or.inr rfl, trivial⟩⟩⟩⟩⟩ H
set_option maxRecDepth 4000 in
theorem v_X2_likePairs_4 {G : KG} {S0 : KSh} (hL : kLay S0) {d : Nat} {P : Option AV → KMem → Prop} {c : KMem} {x2 x3 : Int} (r2 : 0 ≤ x2 ∧ x2 < 2147483648) (r3 : 0 ≤ x3 ∧ x3 < 2147483648) (H : (12 ≤ x3 → (P (some (kI x2)) c)) ∧ (x3 < 12 → (kW2 G S0 kM_X2_likePairs (d + 3) 15 [some (kA 533), some (kA 3), some (kI x2), some (kI x3), some (kI (x3 + 1))] [] c P))) : kW2 G S0 kM_X2_likePairs (d + 3) 4 [some (kA 533), some (kA 3), some (kI x2), some (kI x3), none] [] c P := by
  refine kw_iload_n dX2_likePairs_4 rfl ?_
  refine kw_bipush dX2_likePairs_5 (by decide) ?_
  refine kw_icmp_ge 72 dX2_likePairs_7 (by decide) (k32i (by omega)) (k32i (by omega)) (fun h1 => ?_) (fun h1 => ?_)
  · have H := H.1 h1
    refine kw_iload_n dX2_likePairs_72 rfl ?_
    refine k2_iret dX2_likePairs_73 rfl H
  · have H := H.2 h1
    refine kw_iload_n dX2_likePairs_10 rfl ?_
    refine kw_iconst dX2_likePairs_11 ?_
    refine kw_iadd dX2_likePairs_12 ?_
    refine kw_istore dX2_likePairs_13 (Nat.le_of_ble_eq_true rfl) ?_
    exact kw_forget (ls' := [some (kA 533), some (kA 3), some (kI x2), some (kI x3), some (kI (x3 + 1))]) ⟨Or.inr rfl, ⟨Or.inr rfl, ⟨Or.inr rfl, ⟨Or.inr rfl, ⟨Or.inr rfl, trivial⟩⟩⟩⟩⟩ H
set_option maxRecDepth 4000 in
theorem v_X2_likePairs_15 {G : KG} {S0 : KSh} (hL : kLay S0) {d : Nat} {P : Option AV → KMem → Prop} {c : KMem} {x2 x3 x4 : Int} (r2 : 0 ≤ x2 ∧ x2 < 2147483648) (r3 : 0 ≤ x3 ∧ x3 < 2147483648) (r4 : -2147483648 ≤ x4 ∧ x4 < 2147483648) (hp : 0 ≤ x4) (H : (12 ≤ x4 → (kW2 G S0 kM_X2_likePairs (d + 3) 4 [some (kA 533), some (kA 3), some (kI x2), some (kI (x3 + 1)), none] [] c P)) ∧ (x4 < 12 → ((kStT c 3) ∧ (((kHs c 3 x3) → (((kHs c 3 x4) → ((0 ≤ x3 ∧ x3 < 12) ∧ ((0 ≤ x4 ∧ x4 < 12) ∧ (kC2 G S0 kM_X2_areLike (d + 2) [kA 533, kA (3 + 2 + x3), kA (3 + 2 + x4)] c (kRI (fun z10 c11 => (k32 z10) ∧ ((z10 = 0 → (kW2 G S0 kM_X2_likePairs (d + 3) 60 [some (kA 533), some (kA 3), some (kI x2), some (kI x3), some (kI x4)] [] c11 P)) ∧ (z10 ≠ 0 → (kW2 G S0 kM_X2_likePairs (d + 3) 60 [some (kA 533), some (kA 3), some (kI (x2 + 1)), some (kI x3), some (kI x4)] [] c11 P))))))))) ∧ (¬ (kHs c 3 x4) → (kW2 G S0 kM_X2_likePairs (d + 3) 60 [some (kA 533), some (kA 3), some (kI x2), some (kI x3), some (kI x4)] [] c P)))) ∧ (¬ (kHs c 3 x3) → (kW2 G S0 kM_X2_likePairs (d + 3) 60 [some (kA 533), some (kA 3), some (kI x2), some (kI x3), some (kI x4)] [] c P)))))) : kW2 G S0 kM_X2_likePairs (d + 3) 15 [some (kA 533), some (kA 3), some (kI x2), some (kI x3), some (kI x4)] [] c P := by
  refine kw_iload dX2_likePairs_15 rfl ?_
  refine kw_bipush dX2_likePairs_17 (by decide) ?_
  refine kw_icmp_ge 66 dX2_likePairs_19 (by decide) (k32i (by omega)) (k32i (by omega)) (fun h2 => ?_) (fun h2 => ?_)
  · have H := H.1 h2
    refine kw_iinc dX2_likePairs_66 rfl ?_
    refine kw_goto 4 dX2_likePairs_69 (by decide) ?_
    exact kw_forget (ls' := [some (kA 533), some (kA 3), some (kI x2), some (kI (x3 + 1)), none]) ⟨Or.inr rfl, ⟨Or.inr rfl, ⟨Or.inr rfl, ⟨Or.inr rfl, ⟨Or.inl rfl, trivial⟩⟩⟩⟩⟩ H
  · have H := H.2 h2
    refine kw_aload_n dX2_likePairs_22 rfl ?_
    refine kw_iload_n dX2_likePairs_23 rfl ?_
    have o3 := H.1
    have H := H.2
    refine k2_callV1I (ci := 0) (N := 2) (T := TX1) rfl (llt_3 hL).1 m_X1_has dX2_likePairs_24 wl_X2_36 (Nat.le_of_ble_eq_true rfl) (s_X1_has hL (llt_3 hL) o3 (k32i (by omega)) (fun h4 => ⟨_, rfl, ?_⟩) (fun h4 => ⟨_, rfl, ?_⟩))
    · have H := H.1 h4
      refine kw_if_eq 60 dX2_likePairs_27 (by decide) (k32i (by omega)) (fun h5 => absurd h5 (by decide)) (fun _ => ?_)
      refine kw_aload_n dX2_likePairs_30 rfl ?_
      refine kw_iload dX2_likePairs_31 rfl ?_
      refine k2_callV1I (ci := 0) (N := 2) (T := TX1) rfl (llt_3 hL).1 m_X1_has dX2_likePairs_33 wl_X2_36 (Nat.le_of_ble_eq_true rfl) (s_X1_has hL (llt_3 hL) o3 (k32i (by omega)) (fun h6 => ⟨_, rfl, ?_⟩) (fun h6 => ⟨_, rfl, ?_⟩))
      · have H := H.1 h6
        refine kw_if_eq 60 dX2_likePairs_36 (by decide) (k32i (by omega)) (fun h7 => absurd h7 (by decide)) (fun _ => ?_)
        refine kw_aload_n dX2_likePairs_39 rfl ?_
        refine kw_aload_n dX2_likePairs_40 rfl ?_
        refine kw_iload_n dX2_likePairs_41 rfl ?_
        have o8 := H.1
        have H := H.2
        refine k2_callV1A (ci := 0) (N := 2) (T := TX1) rfl (llt_3 hL).1 m_X1_form dX2_likePairs_42 wl_X2_42 (Nat.le_of_ble_eq_true rfl) (s_X1_form hL (llt_3 hL) (by omega) o8 ⟨_, rfl, ?_⟩)
        refine kw_aload_n dX2_likePairs_45 rfl ?_
        refine kw_iload dX2_likePairs_46 rfl ?_
        have o9 := H.1
        have H := H.2
        refine k2_callV1A (ci := 0) (N := 2) (T := TX1) rfl (llt_3 hL).1 m_X1_form dX2_likePairs_48 wl_X2_42 (Nat.le_of_ble_eq_true rfl) (s_X1_form hL (llt_3 hL) (by omega) o9 ⟨_, rfl, ?_⟩)
        refine k2_callV2I (ci := 1) (N := 7) (T := TX2) rfl (lsh_533 hL) m_X2_areLike dX2_likePairs_51 wl_X2_109 (Nat.le_of_ble_eq_true rfl) (kC2_mono H (fun r c11 H => ?_))
        obtain ⟨z10, rfl, H⟩ := H
        refine ⟨z10, rfl, ?_⟩
        have o13 := H.1
        have H := H.2
        refine kw_if_eq 60 dX2_likePairs_54 (by decide) o13 (fun h12 => ?_) (fun h12 => ?_)
        · have H := H.1 h12
          exact kw_forget (ls' := [some (kA 533), some (kA 3), some (kI x2), some (kI x3), some (kI x4)]) ⟨Or.inr rfl, ⟨Or.inr rfl, ⟨Or.inr rfl, ⟨Or.inr rfl, ⟨Or.inr rfl, trivial⟩⟩⟩⟩⟩ H
        · have H := H.2 h12
          refine kw_iinc dX2_likePairs_57 rfl ?_
          exact kw_forget (ls' := [some (kA 533), some (kA 3), some (kI (x2 + 1)), some (kI x3), some (kI x4)]) ⟨Or.inr rfl, ⟨Or.inr rfl, ⟨Or.inr rfl, ⟨Or.inr rfl, ⟨Or.inr rfl, trivial⟩⟩⟩⟩⟩ H
      · have H := H.2 h6
        refine kw_if_eq 60 dX2_likePairs_36 (by decide) (k32i (by omega)) (fun _ => ?_) (fun h14 => absurd h14 (by decide))
        exact kw_forget (ls' := [some (kA 533), some (kA 3), some (kI x2), some (kI x3), some (kI x4)]) ⟨Or.inr rfl, ⟨Or.inr rfl, ⟨Or.inr rfl, ⟨Or.inr rfl, ⟨Or.inr rfl, trivial⟩⟩⟩⟩⟩ H
    · have H := H.2 h4
      refine kw_if_eq 60 dX2_likePairs_27 (by decide) (k32i (by omega)) (fun _ => ?_) (fun h15 => absurd h15 (by decide))
      exact kw_forget (ls' := [some (kA 533), some (kA 3), some (kI x2), some (kI x3), some (kI x4)]) ⟨Or.inr rfl, ⟨Or.inr rfl, ⟨Or.inr rfl, ⟨Or.inr rfl, ⟨Or.inr rfl, trivial⟩⟩⟩⟩⟩ H
set_option maxRecDepth 4000 in
theorem v_X2_likePairs_60 {G : KG} {S0 : KSh} (hL : kLay S0) {d : Nat} {P : Option AV → KMem → Prop} {c : KMem} {x2 x3 x4 : Int} (r2 : 0 ≤ x2 ∧ x2 < 2147483648) (r3 : 0 ≤ x3 ∧ x3 < 2147483648) (r4 : -2147483648 ≤ x4 ∧ x4 < 2147483648) (hp : 0 ≤ x4 ∧ x4 < 12) (H : kW2 G S0 kM_X2_likePairs (d + 3) 15 [some (kA 533), some (kA 3), some (kI x2), some (kI x3), some (kI (x4 + 1))] [] c P) : kW2 G S0 kM_X2_likePairs (d + 3) 60 [some (kA 533), some (kA 3), some (kI x2), some (kI x3), some (kI x4)] [] c P := by
  refine kw_iinc dX2_likePairs_60 rfl ?_
  refine kw_goto 15 dX2_likePairs_63 (by decide) ?_
  exact kw_forget (ls' := [some (kA 533), some (kA 3), some (kI x2), some (kI x3), some (kI (x4 + 1))]) ⟨Or.inr rfl, ⟨Or.inr rfl, ⟨Or.inr rfl, ⟨Or.inr rfl, ⟨Or.inr rfl, trivial⟩⟩⟩⟩⟩ H
set_option maxRecDepth 4000 in
theorem v_X10_meetings {G : KG} {S0 : KSh} (hL : kLay S0) {d : Nat} {P : Option AV → KMem → Prop} {c : KMem} {x1 : Int} (r1 : -2147483648 ≤ x1 ∧ x1 < 2147483648) (H : (x1 ≠ 0 → ((x1 = 1 → ((x1 ≠ 2 → (kC2 G S0 kM_X2_dependent (d + 6) [kA 533, kA 3, kI 0] c (kRI (fun z4 c5 => P (some (kI z4)) c5)))) ∧ (x1 = 2 → (kC2 G S0 kM_X2_dependent (d + 6) [kA 533, kA 3, kI 1] c (kRI (fun z6 c7 => P (some (kI z6)) c7)))))) ∧ (x1 ≠ 1 → ((x1 ≠ 2 → ((x1 ≠ 3 → ((x1 ≠ 4 → (P (some (kI (-1))) c)) ∧ (x1 = 4 → (kC2 G S0 kM_X2_fullestObject (d + 6) [kA 533, kA 3] c (kRI (fun z11 c12 => P (some (kI z11)) c12)))))) ∧ (x1 = 3 → (kC2 G S0 kM_X2_likePairs (d + 6) [kA 533, kA 3] c (kRI (fun z13 c14 => P (some (kI z13)) c14)))))) ∧ (x1 = 2 → ((x1 ≠ 2 → (kC2 G S0 kM_X2_dependent (d + 6) [kA 533, kA 3, kI 0] c (kRI (fun z16 c17 => P (some (kI z16)) c17)))) ∧ (x1 = 2 → (kC2 G S0 kM_X2_dependent (d + 6) [kA 533, kA 3, kI 1] c (kRI (fun z18 c19 => P (some (kI z18)) c19)))))))))) ∧ (x1 = 0 → (kC2 G S0 kM_X2_pointsOnObjects (d + 6) [kA 533, kA 3] c (kRI (fun z20 c21 => P (some (kI z20)) c21))))) : kC2 G S0 kM_X10_meetings (d + 7) [kA 0, kI x1] c P := by
  refine k2_met (by decide) rfl (Nat.le_of_ble_eq_true rfl) (l0 := [some (kA 0), some (kI x1)]) rfl ?_
  refine kw_iload_n dX10_meetings_0 rfl ?_
  refine kw_if_ne 16 dX10_meetings_1 (by decide) (k32i (by omega)) (fun h1 => ?_) (fun h1 => ?_)
  · have H := H.1 h1
    refine kw_iload_n dX10_meetings_16 rfl ?_
    refine kw_iconst dX10_meetings_17 ?_
    refine kw_icmp_eq 26 dX10_meetings_18 (by decide) (k32i (by omega)) (k32i (by omega)) (fun h2 => ?_) (fun h2 => ?_)
    · have H := H.1 h2
      refine kw_aload_n dX10_meetings_26 rfl ?_
      refine k2_getR fd_X10_14 dX10_meetings_27 wf_X10_77 (lsh_0 hL) (lrf_0_14 hL) ?_
      refine kw_aload_n dX10_meetings_30 rfl ?_
      refine k2_getR fd_X10_5 dX10_meetings_31 wf_X10_29 (lsh_0 hL) (lrf_0_5 hL) ?_
      refine kw_iload_n dX10_meetings_34 rfl ?_
      refine kw_iconst dX10_meetings_35 ?_
      refine kw_icmp_ne 43 dX10_meetings_36 (by decide) (k32i (by omega)) (k32i (by omega)) (fun h3 => ?_) (fun h3 => ?_)
      · have H := H.1 h3
        refine kw_iconst dX10_meetings_43 ?_
        refine k2_callV2I (ci := 1) (N := 7) (T := TX2) rfl (lsh_533 hL) m_X2_dependent dX10_meetings_44 wl_X10_339 (Nat.le_of_ble_eq_true rfl) (kC2_mono H (fun r c5 H => ?_))
        obtain ⟨z4, rfl, H⟩ := H
        refine ⟨z4, rfl, ?_⟩
        refine k2_iret dX10_meetings_47 rfl H
      · have H := H.2 h3
        refine kw_iconst dX10_meetings_39 ?_
        refine kw_goto 44 dX10_meetings_40 (by decide) ?_
        refine k2_callV2I (ci := 1) (N := 7) (T := TX2) rfl (lsh_533 hL) m_X2_dependent dX10_meetings_44 wl_X10_339 (Nat.le_of_ble_eq_true rfl) (kC2_mono H (fun r c7 H => ?_))
        obtain ⟨z6, rfl, H⟩ := H
        refine ⟨z6, rfl, ?_⟩
        refine k2_iret dX10_meetings_47 rfl H
    · have H := H.2 h2
      refine kw_iload_n dX10_meetings_21 rfl ?_
      refine kw_iconst dX10_meetings_22 ?_
      refine kw_icmp_ne 48 dX10_meetings_23 (by decide) (k32i (by omega)) (k32i (by omega)) (fun h8 => ?_) (fun h8 => ?_)
      · have H := H.1 h8
        refine kw_iload_n dX10_meetings_48 rfl ?_
        refine kw_iconst dX10_meetings_49 ?_
        refine kw_icmp_ne 65 dX10_meetings_50 (by decide) (k32i (by omega)) (k32i (by omega)) (fun h9 => ?_) (fun h9 => ?_)
        · have H := H.1 h9
          refine kw_iload_n dX10_meetings_65 rfl ?_
          refine kw_iconst dX10_meetings_66 ?_
          refine kw_icmp_ne 82 dX10_meetings_67 (by decide) (k32i (by omega)) (k32i (by omega)) (fun h10 => ?_) (fun h10 => ?_)
          · have H := H.1 h10
            refine kw_iconst dX10_meetings_82 ?_
            refine k2_iret dX10_meetings_83 rfl H
          · have H := H.2 h10
            refine kw_aload_n dX10_meetings_70 rfl ?_
            refine k2_getR fd_X10_14 dX10_meetings_71 wf_X10_77 (lsh_0 hL) (lrf_0_14 hL) ?_
            refine kw_aload_n dX10_meetings_74 rfl ?_
            refine k2_getR fd_X10_5 dX10_meetings_75 wf_X10_29 (lsh_0 hL) (lrf_0_5 hL) ?_
            refine k2_callV1I (ci := 1) (N := 7) (T := TX2) rfl (lsh_533 hL) m_X2_fullestObject dX10_meetings_78 wl_X10_346 (Nat.le_of_ble_eq_true rfl) (kC2_mono H (fun r c12 H => ?_))
            obtain ⟨z11, rfl, H⟩ := H
            refine ⟨z11, rfl, ?_⟩
            refine k2_iret dX10_meetings_81 rfl H
        · have H := H.2 h9
          refine kw_aload_n dX10_meetings_53 rfl ?_
          refine k2_getR fd_X10_14 dX10_meetings_54 wf_X10_77 (lsh_0 hL) (lrf_0_14 hL) ?_
          refine kw_aload_n dX10_meetings_57 rfl ?_
          refine k2_getR fd_X10_5 dX10_meetings_58 wf_X10_29 (lsh_0 hL) (lrf_0_5 hL) ?_
          refine k2_callV1I (ci := 1) (N := 7) (T := TX2) rfl (lsh_533 hL) m_X2_likePairs dX10_meetings_61 wl_X10_343 (Nat.le_of_ble_eq_true rfl) (kC2_mono H (fun r c14 H => ?_))
          obtain ⟨z13, rfl, H⟩ := H
          refine ⟨z13, rfl, ?_⟩
          refine k2_iret dX10_meetings_64 rfl H
      · have H := H.2 h8
        refine kw_aload_n dX10_meetings_26 rfl ?_
        refine k2_getR fd_X10_14 dX10_meetings_27 wf_X10_77 (lsh_0 hL) (lrf_0_14 hL) ?_
        refine kw_aload_n dX10_meetings_30 rfl ?_
        refine k2_getR fd_X10_5 dX10_meetings_31 wf_X10_29 (lsh_0 hL) (lrf_0_5 hL) ?_
        refine kw_iload_n dX10_meetings_34 rfl ?_
        refine kw_iconst dX10_meetings_35 ?_
        refine kw_icmp_ne 43 dX10_meetings_36 (by decide) (k32i (by omega)) (k32i (by omega)) (fun h15 => ?_) (fun h15 => ?_)
        · have H := H.1 h15
          refine kw_iconst dX10_meetings_43 ?_
          refine k2_callV2I (ci := 1) (N := 7) (T := TX2) rfl (lsh_533 hL) m_X2_dependent dX10_meetings_44 wl_X10_339 (Nat.le_of_ble_eq_true rfl) (kC2_mono H (fun r c17 H => ?_))
          obtain ⟨z16, rfl, H⟩ := H
          refine ⟨z16, rfl, ?_⟩
          refine k2_iret dX10_meetings_47 rfl H
        · have H := H.2 h15
          refine kw_iconst dX10_meetings_39 ?_
          refine kw_goto 44 dX10_meetings_40 (by decide) ?_
          refine k2_callV2I (ci := 1) (N := 7) (T := TX2) rfl (lsh_533 hL) m_X2_dependent dX10_meetings_44 wl_X10_339 (Nat.le_of_ble_eq_true rfl) (kC2_mono H (fun r c19 H => ?_))
          obtain ⟨z18, rfl, H⟩ := H
          refine ⟨z18, rfl, ?_⟩
          refine k2_iret dX10_meetings_47 rfl H
  · have H := H.2 h1
    refine kw_aload_n dX10_meetings_4 rfl ?_
    refine k2_getR fd_X10_14 dX10_meetings_5 wf_X10_77 (lsh_0 hL) (lrf_0_14 hL) ?_
    refine kw_aload_n dX10_meetings_8 rfl ?_
    refine k2_getR fd_X10_5 dX10_meetings_9 wf_X10_29 (lsh_0 hL) (lrf_0_5 hL) ?_
    refine k2_callV1I (ci := 1) (N := 7) (T := TX2) rfl (lsh_533 hL) m_X2_pointsOnObjects dX10_meetings_12 wl_X10_335 (Nat.le_of_ble_eq_true rfl) (kC2_mono H (fun r c21 H => ?_))
    obtain ⟨z20, rfl, H⟩ := H
    refine ⟨z20, rfl, ?_⟩
    refine k2_iret dX10_meetings_15 rfl H
