set_option maxRecDepth 4000 in
theorem v_X2_free {G : KG} {S0 : KSh} (hL : kLay S0) {d : Nat} {P : Option AV → KMem → Prop} {c : KMem} {x0 x1 x2 : Int} (hx0 : S0.2.1 x0 = (2, 16)) (hx1 : S0.2.1 x1 = (2, 16)) (r2 : -2147483648 ≤ x2 ∧ x2 < 2147483648) (H : (x2 < 0 → (P none c)) ∧ (0 ≤ x2 → ((x2 < 16 → (kW2 G S0 kM_X2_free (d + 1) 23 [some (kA x0), some (kA x1), none, some (kL (c x0 x2)), none, some (kL (c x1 x2)), none, some (kI 0)] [] c P)) ∧ (16 ≤ x2 → (P none c))))) : kC2 G S0 kM_X2_free (d + 1) [kA x0, kA x1, kI x2] c P := by
  refine k2_met (by decide) rfl (Nat.le_of_ble_eq_true rfl) (l0 := [some (kA x0), some (kA x1), some (kI x2), none, none, none, none, none]) rfl ?_
  refine kw_iload_n dX2_free_0 rfl ?_
  refine kw_if_lt 10 dX2_free_1 (by decide) (k32i (by omega)) (fun h1 => ?_) (fun h1 => ?_)
  · have H := H.1 h1
    refine k2_ret dX2_free_10 rfl H
  · have H := H.2 h1
    refine kw_iload_n dX2_free_4 rfl ?_
    refine kw_bipush dX2_free_5 (by decide) ?_
    refine kw_icmp_lt 11 dX2_free_7 (by decide) (k32i (by omega)) (k32i (by omega)) (fun h2 => ?_) (fun h2 => ?_)
    · have H := H.1 h2
      refine kw_aload_n dX2_free_11 rfl ?_
      refine kw_iload_n dX2_free_12 rfl ?_
      refine k2_lald dX2_free_13 hx0 (by omega) (by omega) ?_
      refine kw_lstore_n dX2_free_14 (Nat.le_of_ble_eq_true rfl) ?_
      refine kw_aload_n dX2_free_15 rfl ?_
      refine kw_iload_n dX2_free_16 rfl ?_
      refine k2_lald dX2_free_17 hx1 (by omega) (by omega) ?_
      refine kw_lstore dX2_free_18 (Nat.le_of_ble_eq_true rfl) ?_
      refine kw_iconst dX2_free_20 ?_
      refine kw_istore dX2_free_21 (Nat.le_of_ble_eq_true rfl) ?_
      exact kw_forget (ls' := [some (kA x0), some (kA x1), none, some (kL (c x0 x2)), none, some (kL (c x1 x2)), none, some (kI 0)]) ⟨Or.inr rfl, ⟨Or.inr rfl, ⟨Or.inl rfl, ⟨Or.inr rfl, ⟨Or.inr rfl, ⟨Or.inr rfl, ⟨Or.inr rfl, ⟨Or.inr rfl, trivial⟩⟩⟩⟩⟩⟩⟩⟩ H
    · have H := H.2 h2
      refine k2_ret dX2_free_10 rfl H
set_option maxRecDepth 4000 in
theorem v_X2_free_23 {G : KG} {S0 : KSh} (hL : kLay S0) {d : Nat} {P : Option AV → KMem → Prop} {c : KMem} {x0 x1 x3 x5 x7 : Int} (hx0 : S0.2.1 x0 = (2, 16)) (hx1 : S0.2.1 x1 = (2, 16)) (r7 : 0 ≤ x7 ∧ x7 < 2147483648) (H : (16 ≤ x7 → (P none c)) ∧ (x7 < 16 → (kC2 G S0 kM_J9_floorMod_f86c9 d [kL (((c x0 x7) * x5) - ((c x1 x7) * x3)), kL 1000003] c (kRL (fun z4 c5 => kW2 G S0 kM_X2_free (d + 1) 23 [some (kA x0), some (kA x1), none, some (kL x3), none, some (kL x5), none, some (kI (x7 + 1))] [] (kup c5 x0 x7 z4) P))))) : kW2 G S0 kM_X2_free (d + 1) 23 [some (kA x0), some (kA x1), none, some (kL x3), none, some (kL x5), none, some (kI x7)] [] c P := by
  refine kw_iload dX2_free_23 rfl ?_
  refine kw_bipush dX2_free_25 (by decide) ?_
  refine kw_icmp_ge 60 dX2_free_27 (by decide) (k32i (by omega)) (k32i (by omega)) (fun h3 => ?_) (fun h3 => ?_)
  · have H := H.1 h3
    refine k2_ret dX2_free_60 rfl H
  · have H := H.2 h3
    refine kw_aload_n dX2_free_30 rfl ?_
    refine kw_iload dX2_free_31 rfl ?_
    refine kw_aload_n dX2_free_33 rfl ?_
    refine kw_iload dX2_free_34 rfl ?_
    refine k2_lald dX2_free_36 hx0 (by omega) (by omega) ?_
    refine kw_lload dX2_free_37 rfl ?_
    refine kw_lmul dX2_free_39 ?_
    refine kw_aload_n dX2_free_40 rfl ?_
    refine kw_iload dX2_free_41 rfl ?_
    refine k2_lald dX2_free_43 hx1 (by omega) (by omega) ?_
    refine kw_lload_n dX2_free_44 rfl ?_
    refine kw_lmul dX2_free_45 ?_
    refine kw_lsub dX2_free_46 ?_
    refine kw_ldc2 dX2_free_47 wk_X2_120 ?_
    refine k2_callS2L m_J9_floorMod_f86c9 dX2_free_50 wl_X2_122 (Nat.le_of_ble_eq_true rfl) (kC2_mono H (fun r c5 H => ?_))
    obtain ⟨z4, rfl, H⟩ := H
    refine ⟨z4, rfl, ?_⟩
    refine k2_last dX2_free_53 hx0 (by omega) (by omega) ?_
    refine kw_iinc dX2_free_54 rfl ?_
    refine kw_goto 23 dX2_free_57 (by decide) ?_
    exact kw_forget (ls' := [some (kA x0), some (kA x1), none, some (kL x3), none, some (kL x5), none, some (kI (x7 + 1))]) ⟨Or.inr rfl, ⟨Or.inr rfl, ⟨Or.inr rfl, ⟨Or.inr rfl, ⟨Or.inr rfl, ⟨Or.inr rfl, ⟨Or.inr rfl, ⟨Or.inr rfl, trivial⟩⟩⟩⟩⟩⟩⟩⟩ H
set_option maxRecDepth 4000 in
theorem v_X2_isIndependent {G : KG} {S0 : KSh} (hL : kLay S0) {d : Nat} {P : Option AV → KMem → Prop} {c : KMem} {x1 x2 : Int} (hx1 : S0.2.1 x1 = (2, 16)) (r2 : -2147483648 ≤ x2 ∧ x2 < 2147483648) (H : (x2 < 0 → (P (some (kI 0)) c)) ∧ (0 ≤ x2 → ((x2 < 12 → (kW2 G S0 kM_X2_isIndependent (d + 2) 22 [some (kA 533), some (kA x1), some (kI x2), some (kA (534 + 1 + x2)), some (kI 0)] [] c P)) ∧ (12 ≤ x2 → (P (some (kI 0)) c))))) : kC2 G S0 kM_X2_isIndependent (d + 2) [kA 533, kA x1, kI x2] c P := by
  refine k2_met (by decide) rfl (Nat.le_of_ble_eq_true rfl) (l0 := [some (kA 533), some (kA x1), some (kI x2), none, none]) rfl ?_
  refine kw_iload_n dX2_isIndependent_0 rfl ?_
  refine kw_if_lt 10 dX2_isIndependent_1 (by decide) (k32i (by omega)) (fun h1 => ?_) (fun h1 => ?_)
  · have H := H.1 h1
    refine kw_iconst dX2_isIndependent_10 ?_
    refine k2_zret dX2_isIndependent_11 rfl (Or.inl rfl) H
  · have H := H.2 h1
    refine kw_iload_n dX2_isIndependent_4 rfl ?_
    refine kw_bipush dX2_isIndependent_5 (by decide) ?_
    refine kw_icmp_lt 12 dX2_isIndependent_7 (by decide) (k32i (by omega)) (k32i (by omega)) (fun h2 => ?_) (fun h2 => ?_)
    · have H := H.1 h2
      refine kw_aload_n dX2_isIndependent_12 rfl ?_
      refine k2_getR fd_X2_0 dX2_isIndependent_13 wf_X2_11 (lsh_533 hL) (lrf_533_0 hL) ?_
      refine kw_iload_n dX2_isIndependent_16 rfl ?_
      have q3 : 0 ≤ x2 ∧ x2 < 12 := (by omega)
      refine k2_aald5 dX2_isIndependent_17 (lsh_534 hL) (by omega) q3 (lrw_534 hL q3).1 (by omega) ?_
      refine kw_astore_n dX2_isIndependent_18 (Nat.le_of_ble_eq_true rfl) ?_
      refine kw_iconst dX2_isIndependent_19 ?_
      refine kw_istore dX2_isIndependent_20 (Nat.le_of_ble_eq_true rfl) ?_
      exact kw_forget (ls' := [some (kA 533), some (kA x1), some (kI x2), some (kA (534 + 1 + x2)), some (kI 0)]) ⟨Or.inr rfl, ⟨Or.inr rfl, ⟨Or.inr rfl, ⟨Or.inr rfl, ⟨Or.inr rfl, trivial⟩⟩⟩⟩⟩ H
    · have H := H.2 h2
      refine kw_iconst dX2_isIndependent_10 ?_
      refine k2_zret dX2_isIndependent_11 rfl (Or.inl rfl) H
set_option maxRecDepth 4000 in
theorem v_X2_isIndependent_22 {G : KG} {S0 : KSh} (hL : kLay S0) {d : Nat} {P : Option AV → KMem → Prop} {c : KMem} {x1 x2 x3 x4 : Int} (hx1 : S0.2.1 x1 = (2, 16)) (r2 : -2147483648 ≤ x2 ∧ x2 < 2147483648) (hx3 : S0.2.1 x3 = (2, 16)) (r4 : 0 ≤ x4 ∧ x4 < 2147483648) (H : (16 ≤ x4 → (kW2 G S0 kM_X2_isIndependent (d + 2) 52 [some (kA 533), none, some (kI x2), some (kA x3), some (kI 0)] [] c P)) ∧ (x4 < 16 → (kC2 G S0 kM_J9_floorMod_f86c9 (d + 1) [kL (c x1 x4), kL 1000003] c (kRL (fun z5 c6 => kW2 G S0 kM_X2_isIndependent (d + 2) 22 [some (kA 533), some (kA x1), some (kI x2), some (kA x3), some (kI (x4 + 1))] [] (kup c6 x3 x4 z5) P))))) : kW2 G S0 kM_X2_isIndependent (d + 2) 22 [some (kA 533), some (kA x1), some (kI x2), some (kA x3), some (kI x4)] [] c P := by
  refine kw_iload dX2_isIndependent_22 rfl ?_
  refine kw_bipush dX2_isIndependent_24 (by decide) ?_
  refine kw_icmp_ge 49 dX2_isIndependent_26 (by decide) (k32i (by omega)) (k32i (by omega)) (fun h4 => ?_) (fun h4 => ?_)
  · have H := H.1 h4
    refine kw_iconst dX2_isIndependent_49 ?_
    refine kw_istore dX2_isIndependent_50 (Nat.le_of_ble_eq_true rfl) ?_
    exact kw_forget (ls' := [some (kA 533), none, some (kI x2), some (kA x3), some (kI 0)]) ⟨Or.inr rfl, ⟨Or.inl rfl, ⟨Or.inr rfl, ⟨Or.inr rfl, ⟨Or.inr rfl, trivial⟩⟩⟩⟩⟩ H
  · have H := H.2 h4
    refine kw_aload_n dX2_isIndependent_29 rfl ?_
    refine kw_iload dX2_isIndependent_30 rfl ?_
    refine kw_aload_n dX2_isIndependent_32 rfl ?_
    refine kw_iload dX2_isIndependent_33 rfl ?_
    refine k2_lald dX2_isIndependent_35 hx1 (by omega) (by omega) ?_
    refine kw_ldc2 dX2_isIndependent_36 wk_X2_120 ?_
    refine k2_callS2L m_J9_floorMod_f86c9 dX2_isIndependent_39 wl_X2_122 (Nat.le_of_ble_eq_true rfl) (kC2_mono H (fun r c6 H => ?_))
    obtain ⟨z5, rfl, H⟩ := H
    refine ⟨z5, rfl, ?_⟩
    refine k2_last dX2_isIndependent_42 hx3 (by omega) (by omega) ?_
    refine kw_iinc dX2_isIndependent_43 rfl ?_
    refine kw_goto 22 dX2_isIndependent_46 (by decide) ?_
    exact kw_forget (ls' := [some (kA 533), some (kA x1), some (kI x2), some (kA x3), some (kI (x4 + 1))]) ⟨Or.inr rfl, ⟨Or.inr rfl, ⟨Or.inr rfl, ⟨Or.inr rfl, ⟨Or.inr rfl, trivial⟩⟩⟩⟩⟩ H
set_option maxRecDepth 4000 in
theorem v_X2_isIndependent_52 {G : KG} {S0 : KSh} (hL : kLay S0) {d : Nat} {P : Option AV → KMem → Prop} {c : KMem} {x2 x3 x4 : Int} (r2 : -2147483648 ≤ x2 ∧ x2 < 2147483648) (hx3 : S0.2.1 x3 = (2, 16)) (r4 : 0 ≤ x4 ∧ x4 < 2147483648) (hp : 0 ≤ x2 ∧ x2 < 12) (H : (x2 ≤ x4 → (kW2 G S0 kM_X2_isIndependent (d + 2) 85 [some (kA 533), none, some (kI x2), some (kA x3), some (kI 0)] [] c P)) ∧ (x4 < x2 → (kC2 G S0 kM_X2_free (d + 1) [kA x3, kA (534 + 1 + x4), kI (c 547 x4)] c (kRN (fun c10 => kW2 G S0 kM_X2_isIndependent (d + 2) 52 [some (kA 533), none, some (kI x2), some (kA x3), some (kI (x4 + 1))] [] c10 P))))) : kW2 G S0 kM_X2_isIndependent (d + 2) 52 [some (kA 533), none, some (kI x2), some (kA x3), some (kI x4)] [] c P := by
  refine kw_iload dX2_isIndependent_52 rfl ?_
  refine kw_iload_n dX2_isIndependent_54 rfl ?_
  refine kw_icmp_ge 82 dX2_isIndependent_55 (by decide) (k32i (by omega)) (k32i (by omega)) (fun h7 => ?_) (fun h7 => ?_)
  · have H := H.1 h7
    refine kw_iconst dX2_isIndependent_82 ?_
    refine kw_istore dX2_isIndependent_83 (Nat.le_of_ble_eq_true rfl) ?_
    exact kw_forget (ls' := [some (kA 533), none, some (kI x2), some (kA x3), some (kI 0)]) ⟨Or.inr rfl, ⟨Or.inr rfl, ⟨Or.inr rfl, ⟨Or.inr rfl, ⟨Or.inr rfl, trivial⟩⟩⟩⟩⟩ H
  · have H := H.2 h7
    refine kw_aload_n dX2_isIndependent_58 rfl ?_
    refine kw_aload_n dX2_isIndependent_59 rfl ?_
    refine k2_getR fd_X2_0 dX2_isIndependent_60 wf_X2_11 (lsh_533 hL) (lrf_533_0 hL) ?_
    refine kw_iload dX2_isIndependent_63 rfl ?_
    have q8 : 0 ≤ x4 ∧ x4 < 12 := (by omega)
    refine k2_aald5 dX2_isIndependent_65 (lsh_534 hL) (by omega) q8 (lrw_534 hL q8).1 (by omega) ?_
    refine kw_aload_n dX2_isIndependent_66 rfl ?_
    refine k2_getR fd_X2_1 dX2_isIndependent_67 wf_X2_16 (lsh_533 hL) (lrf_533_1 hL) ?_
    refine kw_iload dX2_isIndependent_70 rfl ?_
    refine k2_iald dX2_isIndependent_72 (lsh_547 hL) (by omega) (by omega) ?_
    refine k2_callS3N m_X2_free dX2_isIndependent_73 wl_X2_128 (Nat.le_of_ble_eq_true rfl) (kC2_mono H (fun r c10 H => ?_))
    obtain ⟨rfl, H⟩ := H
    refine ⟨rfl, ?_⟩
    refine kw_iinc dX2_isIndependent_76 rfl ?_
    refine kw_goto 52 dX2_isIndependent_79 (by decide) ?_
    exact kw_forget (ls' := [some (kA 533), none, some (kI x2), some (kA x3), some (kI (x4 + 1))]) ⟨Or.inr rfl, ⟨Or.inr rfl, ⟨Or.inr rfl, ⟨Or.inr rfl, ⟨Or.inr rfl, trivial⟩⟩⟩⟩⟩ H
set_option maxRecDepth 4000 in
theorem v_X2_isIndependent_85 {G : KG} {S0 : KSh} (hL : kLay S0) {d : Nat} {P : Option AV → KMem → Prop} {c : KMem} {x2 x3 x4 : Int} (r2 : -2147483648 ≤ x2 ∧ x2 < 2147483648) (hx3 : S0.2.1 x3 = (2, 16)) (r4 : 0 ≤ x4 ∧ x4 < 2147483648) (hp : 0 ≤ x2 ∧ x2 < 12) (H : (16 ≤ x4 → (P (some (kI 0)) c)) ∧ (x4 < 16 → ((k64 (c x3 x4)) ∧ (((c x3 x4) = 0 → (kW2 G S0 kM_X2_isIndependent (d + 2) 85 [some (kA 533), none, some (kI x2), some (kA x3), some (kI (x4 + 1))] [] c P)) ∧ ((c x3 x4) ≠ 0 → (P (some (kI 1)) (kup c 547 x2 x4))))))) : kW2 G S0 kM_X2_isIndependent (d + 2) 85 [some (kA 533), none, some (kI x2), some (kA x3), some (kI x4)] [] c P := by
  refine kw_iload dX2_isIndependent_85 rfl ?_
  refine kw_bipush dX2_isIndependent_87 (by decide) ?_
  refine kw_icmp_ge 117 dX2_isIndependent_89 (by decide) (k32i (by omega)) (k32i (by omega)) (fun h11 => ?_) (fun h11 => ?_)
  · have H := H.1 h11
    refine kw_iconst dX2_isIndependent_117 ?_
    refine k2_zret dX2_isIndependent_118 rfl (Or.inl rfl) H
  · have H := H.2 h11
    refine kw_aload_n dX2_isIndependent_92 rfl ?_
    refine kw_iload dX2_isIndependent_93 rfl ?_
    refine k2_lald dX2_isIndependent_95 hx3 (by omega) (by omega) ?_
    refine kw_lconst0 dX2_isIndependent_96 ?_
    have o12 := H.1
    have H := H.2
    refine kw_lcmp_eq 111 dX2_isIndependent_97 dX2_isIndependent_98 (by decide) o12 (k64i (by omega)) (fun h13 => ?_) (fun h13 => ?_)
    · have H := H.1 h13
      refine kw_iinc dX2_isIndependent_111 rfl ?_
      refine kw_goto 85 dX2_isIndependent_114 (by decide) ?_
      exact kw_forget (ls' := [some (kA 533), none, some (kI x2), some (kA x3), some (kI (x4 + 1))]) ⟨Or.inr rfl, ⟨Or.inr rfl, ⟨Or.inr rfl, ⟨Or.inr rfl, ⟨Or.inr rfl, trivial⟩⟩⟩⟩⟩ H
    · have H := H.2 h13
      refine kw_aload_n dX2_isIndependent_101 rfl ?_
      refine k2_getR fd_X2_1 dX2_isIndependent_102 wf_X2_16 (lsh_533 hL) (lrf_533_1 hL) ?_
      refine kw_iload_n dX2_isIndependent_105 rfl ?_
      refine kw_iload dX2_isIndependent_106 rfl ?_
      refine k2_iast dX2_isIndependent_108 (lsh_547 hL) (by omega) (by omega) ?_
      refine kw_iconst dX2_isIndependent_109 ?_
      refine k2_zret dX2_isIndependent_110 rfl (Or.inr rfl) H
set_option maxRecDepth 4000 in
theorem v_X2_independent {G : KG} {S0 : KSh} (hL : kLay S0) {d : Nat} {P : Option AV → KMem → Prop} {c : KMem} {x1 x2 : Int} (hx1 : kLet S0 x1) (r2 : -2147483648 ≤ x2 ∧ x2 < 2147483648) (H : kW2 G S0 kM_X2_independent (d + 3) 5 [some (kA 533), some (kA x1), some (kI x2), some (kI 0), some (kI 0)] [] c P) : kC2 G S0 kM_X2_independent (d + 3) [kA 533, kA x1, kI x2] c P := by
  refine k2_met (by decide) rfl (Nat.le_of_ble_eq_true rfl) (l0 := [some (kA 533), some (kA x1), some (kI x2), none, none]) rfl ?_
  refine kw_iconst dX2_independent_0 ?_
  refine kw_istore_n dX2_independent_1 (Nat.le_of_ble_eq_true rfl) ?_
  refine kw_iconst dX2_independent_2 ?_
  refine kw_istore dX2_independent_3 (Nat.le_of_ble_eq_true rfl) ?_
  exact kw_forget (ls' := [some (kA 533), some (kA x1), some (kI x2), some (kI 0), some (kI 0)]) ⟨Or.inr rfl, ⟨Or.inr rfl, ⟨Or.inr rfl, ⟨Or.inr rfl, ⟨Or.inr rfl, trivial⟩⟩⟩⟩⟩ H
set_option maxRecDepth 4000 in
theorem v_X2_independent_5 {G : KG} {S0 : KSh} (hL : kLay S0) {d : Nat} {P : Option AV → KMem → Prop} {c : KMem} {x1 x2 x3 x4 : Int} (hx1 : kLet S0 x1) (r2 : -2147483648 ≤ x2 ∧ x2 < 2147483648) (r3 : 0 ≤ x3 ∧ x3 < 2147483648) (r4 : 0 ≤ x4 ∧ x4 < 2147483648) (hp : 0 ≤ x1) (H : (12 ≤ x4 → (P (some (kI x3)) c)) ∧ (x4 < 12 → (((kand (kshr x2 x4) 1 ≠ 0) → ((kStT c x1) ∧ (((kHs c x1 x4) → ((0 ≤ x4 ∧ x4 < 12) ∧ (kC2 G S0 kM_X2_isIndependent (d + 2) [kA 533, kA (x1 + 2 + x4), kI x3] c (kRI (fun z8 c9 => (k32 z8) ∧ ((z8 = 0 → (kW2 G S0 kM_X2_independent (d + 3) 47 [some (kA 533), some (kA x1), some (kI x2), some (kI x3), some (kI x4)] [] c9 P)) ∧ (z8 ≠ 0 → (kW2 G S0 kM_X2_independent (d + 3) 47 [some (kA 533), some (kA x1), some (kI x2), some (kI (x3 + 1)), some (kI x4)] [] c9 P)))))))) ∧ (¬ (kHs c x1 x4) → (kW2 G S0 kM_X2_independent (d + 3) 47 [some (kA 533), some (kA x1), some (kI x2), some (kI x3), some (kI x4)] [] c P))))) ∧ (¬ (kand (kshr x2 x4) 1 ≠ 0) → (kW2 G S0 kM_X2_independent (d + 3) 47 [some (kA 533), some (kA x1), some (kI x2), some (kI x3), some (kI x4)] [] c P))))) : kW2 G S0 kM_X2_independent (d + 3) 5 [some (kA 533), some (kA x1), some (kI x2), some (kI x3), some (kI x4)] [] c P := by
  refine kw_iload dX2_independent_5 rfl ?_
  refine kw_bipush dX2_independent_7 (by decide) ?_
  refine kw_icmp_ge 53 dX2_independent_9 (by decide) (k32i (by omega)) (k32i (by omega)) (fun h1 => ?_) (fun h1 => ?_)
  · have H := H.1 h1
    refine kw_iload_n dX2_independent_53 rfl ?_
    refine k2_iret dX2_independent_54 rfl H
  · have H := H.2 h1
    refine kw_iload_n dX2_independent_12 rfl ?_
    refine kw_iload dX2_independent_13 rfl ?_
    refine k2_callSN2I m_X10_isIn dX2_independent_15 wl_X2_112 (Nat.le_of_ble_eq_true rfl) (s_X10_isIn hL (k32i (by omega)) (k32i (by omega)) (fun h2 => ⟨_, rfl, ?_⟩) (fun h2 => ⟨_, rfl, ?_⟩))
    · have H := H.1 h2
      refine kw_if_eq 47 dX2_independent_18 (by decide) (k32i (by omega)) (fun h3 => absurd h3 (by decide)) (fun _ => ?_)
      refine kw_aload_n dX2_independent_21 rfl ?_
      refine kw_iload dX2_independent_22 rfl ?_
      have o4 := H.1
      have H := H.2
      refine k2_callV1I (ci := 0) (N := 2) (T := TX1) rfl hx1.1 m_X1_has dX2_independent_24 wl_X2_36 (Nat.le_of_ble_eq_true rfl) (s_X1_has hL hx1 o4 (k32i (by omega)) (fun h5 => ⟨_, rfl, ?_⟩) (fun h5 => ⟨_, rfl, ?_⟩))
      · have H := H.1 h5
        refine kw_if_eq 47 dX2_independent_27 (by decide) (k32i (by omega)) (fun h6 => absurd h6 (by decide)) (fun _ => ?_)
        refine kw_aload_n dX2_independent_30 rfl ?_
        refine kw_aload_n dX2_independent_31 rfl ?_
        refine kw_iload dX2_independent_32 rfl ?_
        have o7 := H.1
        have H := H.2
        refine k2_callV1A (ci := 0) (N := 2) (T := TX1) rfl hx1.1 m_X1_form dX2_independent_34 wl_X2_42 (Nat.le_of_ble_eq_true rfl) (s_X1_form hL hx1 (by omega) o7 ⟨_, rfl, ?_⟩)
        refine kw_iload_n dX2_independent_37 rfl ?_
        refine k2_callV2I (ci := 1) (N := 7) (T := TX2) rfl (lsh_533 hL) m_X2_isIndependent dX2_independent_38 wl_X2_116 (Nat.le_of_ble_eq_true rfl) (kC2_mono H (fun r c9 H => ?_))
        obtain ⟨z8, rfl, H⟩ := H
        refine ⟨z8, rfl, ?_⟩
        have o11 := H.1
        have H := H.2
        refine kw_if_eq 47 dX2_independent_41 (by decide) o11 (fun h10 => ?_) (fun h10 => ?_)
        · have H := H.1 h10
          exact kw_forget (ls' := [some (kA 533), some (kA x1), some (kI x2), some (kI x3), some (kI x4)]) ⟨Or.inr rfl, ⟨Or.inr rfl, ⟨Or.inr rfl, ⟨Or.inr rfl, ⟨Or.inr rfl, trivial⟩⟩⟩⟩⟩ H
        · have H := H.2 h10
          refine kw_iinc dX2_independent_44 rfl ?_
          exact kw_forget (ls' := [some (kA 533), some (kA x1), some (kI x2), some (kI (x3 + 1)), some (kI x4)]) ⟨Or.inr rfl, ⟨Or.inr rfl, ⟨Or.inr rfl, ⟨Or.inr rfl, ⟨Or.inr rfl, trivial⟩⟩⟩⟩⟩ H
      · have H := H.2 h5
        refine kw_if_eq 47 dX2_independent_27 (by decide) (k32i (by omega)) (fun _ => ?_) (fun h12 => absurd h12 (by decide))
        exact kw_forget (ls' := [some (kA 533), some (kA x1), some (kI x2), some (kI x3), some (kI x4)]) ⟨Or.inr rfl, ⟨Or.inr rfl, ⟨Or.inr rfl, ⟨Or.inr rfl, ⟨Or.inr rfl, trivial⟩⟩⟩⟩⟩ H
    · have H := H.2 h2
      refine kw_if_eq 47 dX2_independent_18 (by decide) (k32i (by omega)) (fun _ => ?_) (fun h13 => absurd h13 (by decide))
      exact kw_forget (ls' := [some (kA 533), some (kA x1), some (kI x2), some (kI x3), some (kI x4)]) ⟨Or.inr rfl, ⟨Or.inr rfl, ⟨Or.inr rfl, ⟨Or.inr rfl, ⟨Or.inr rfl, trivial⟩⟩⟩⟩⟩ H
set_option maxRecDepth 4000 in
theorem v_X2_independent_47 {G : KG} {S0 : KSh} (hL : kLay S0) {d : Nat} {P : Option AV → KMem → Prop} {c : KMem} {x1 x2 x3 x4 : Int} (hx1 : kLet S0 x1) (r2 : -2147483648 ≤ x2 ∧ x2 < 2147483648) (r3 : 0 ≤ x3 ∧ x3 < 2147483648) (r4 : 0 ≤ x4 ∧ x4 < 2147483648) (H : kW2 G S0 kM_X2_independent (d + 3) 5 [some (kA 533), some (kA x1), some (kI x2), some (kI x3), some (kI (x4 + 1))] [] c P) : kW2 G S0 kM_X2_independent (d + 3) 47 [some (kA 533), some (kA x1), some (kI x2), some (kI x3), some (kI x4)] [] c P := by
  refine kw_iinc dX2_independent_47 rfl ?_
  refine kw_goto 5 dX2_independent_50 (by decide) ?_
  exact kw_forget (ls' := [some (kA 533), some (kA x1), some (kI x2), some (kI x3), some (kI (x4 + 1))]) ⟨Or.inr rfl, ⟨Or.inr rfl, ⟨Or.inr rfl, ⟨Or.inr rfl, ⟨Or.inr rfl, trivial⟩⟩⟩⟩⟩ H
set_option maxRecDepth 4000 in
theorem v_X10_rank {G : KG} {S0 : KSh} (hL : kLay S0) {d : Nat} {P : Option AV → KMem → Prop} {c : KMem} {x1 : Int} (r1 : -2147483648 ≤ x1 ∧ x1 < 2147483648) (H : kC2 G S0 kM_X10_areTold (d + 3) [kA 0, kI x1, kI 12] c (kRI (fun z1 c2 => (k32 z1) ∧ ((z1 ≠ 0 → (kC2 G S0 kM_X2_independent (d + 3) [kA 533, kA 3, kI x1] c2 (kRI (fun z5 c6 => P (some (kI z5)) c6)))) ∧ (z1 = 0 → (P (some (kI (-1))) c2)))))) : kC2 G S0 kM_X10_rank (d + 4) [kA 0, kI x1] c P := by
  refine k2_met (by decide) rfl (Nat.le_of_ble_eq_true rfl) (l0 := [some (kA 0), some (kI x1)]) rfl ?_
  refine kw_aload_n dX10_rank_0 rfl ?_
  refine kw_iload_n dX10_rank_1 rfl ?_
  refine kw_bipush dX10_rank_2 (by decide) ?_
  refine k2_callV2I (ci := 8) (N := 20) (T := TX10) rfl (lsh_0 hL) m_X10_areTold dX10_rank_4 wl_X10_349 (Nat.le_of_ble_eq_true rfl) (kC2_mono H (fun r c2 H => ?_))
  obtain ⟨z1, rfl, H⟩ := H
  refine ⟨z1, rfl, ?_⟩
  have o4 := H.1
  have H := H.2
  refine kw_if_ne 12 dX10_rank_7 (by decide) o4 (fun h3 => ?_) (fun h3 => ?_)
  · have H := H.1 h3
    refine kw_aload_n dX10_rank_12 rfl ?_
    refine k2_getR fd_X10_14 dX10_rank_13 wf_X10_77 (lsh_0 hL) (lrf_0_14 hL) ?_
    refine kw_aload_n dX10_rank_16 rfl ?_
    refine k2_getR fd_X10_5 dX10_rank_17 wf_X10_29 (lsh_0 hL) (lrf_0_5 hL) ?_
    refine kw_iload_n dX10_rank_20 rfl ?_
    refine k2_callV2I (ci := 1) (N := 7) (T := TX2) rfl (lsh_533 hL) m_X2_independent dX10_rank_21 wl_X10_352 (Nat.le_of_ble_eq_true rfl) (kC2_mono H (fun r c6 H => ?_))
    obtain ⟨z5, rfl, H⟩ := H
    refine ⟨z5, rfl, ?_⟩
    refine k2_iret dX10_rank_24 rfl H
  · have H := H.2 h3
    refine kw_iconst dX10_rank_10 ?_
    refine k2_iret dX10_rank_11 rfl H
