set_option maxRecDepth 4000 in
theorem v_X11_powerOf {G : KG} {S0 : KSh} (hL : kLay S0) {d : Nat} {P : Option AV → KMem → Prop} {c : KMem} {x0 x2 : Int}  (H : kW2 G S0 kM_X11_powerOf d 9 [none, none, none, none, some (kL 1), none, some (kL x0), none, some (kL x2), none] [] c P) : kC2 G S0 kM_X11_powerOf d [kL x0, kL x2] c P := by
  refine k2_met (by decide) rfl (Nat.le_of_ble_eq_true rfl) (l0 := [some (kL x0), none, some (kL x2), none, none, none, none, none, none, none]) rfl ?_
  refine kw_lconst1 dX11_powerOf_0 ?_
  refine kw_lstore dX11_powerOf_1 (Nat.le_of_ble_eq_true rfl) ?_
  refine kw_lload_n dX11_powerOf_3 rfl ?_
  refine kw_lstore dX11_powerOf_4 (Nat.le_of_ble_eq_true rfl) ?_
  refine kw_lload_n dX11_powerOf_6 rfl ?_
  refine kw_lstore dX11_powerOf_7 (Nat.le_of_ble_eq_true rfl) ?_
  exact kw_forget (ls' := [none, none, none, none, some (kL 1), none, some (kL x0), none, some (kL x2), none]) ⟨Or.inl rfl, ⟨Or.inr rfl, ⟨Or.inl rfl, ⟨Or.inr rfl, ⟨Or.inr rfl, ⟨Or.inr rfl, ⟨Or.inr rfl, ⟨Or.inr rfl, ⟨Or.inr rfl, ⟨Or.inr rfl, trivial⟩⟩⟩⟩⟩⟩⟩⟩⟩⟩ H
set_option maxRecDepth 4000 in
theorem v_X11_powerOf_9 {G : KG} {S0 : KSh} (hL : kLay S0) {d : Nat} {P : Option AV → KMem → Prop} {c : KMem} {x4 x6 x8 : Int}  (H : (k64 x8) ∧ ((x8 ≤ 0 → (P (some (kL x4)) c)) ∧ (0 < x8 → ((k64 (Int.tmod x8 2)) ∧ (((Int.tmod x8 2) ≠ 1 → ((k64 (x6 * x6)) ∧ (kW2 G S0 kM_X11_powerOf d 9 [none, none, none, none, some (kL x4), none, some (kL (Int.tmod (x6 * x6) 1000003)), none, some (kL (Int.tdiv x8 2)), none] [] c P))) ∧ ((Int.tmod x8 2) = 1 → ((k64 (x4 * x6)) ∧ ((k64 (x6 * x6)) ∧ (kW2 G S0 kM_X11_powerOf d 9 [none, none, none, none, some (kL (Int.tmod (x4 * x6) 1000003)), none, some (kL (Int.tmod (x6 * x6) 1000003)), none, some (kL (Int.tdiv x8 2)), none] [] c P))))))))) : kW2 G S0 kM_X11_powerOf d 9 [none, none, none, none, some (kL x4), none, some (kL x6), none, some (kL x8), none] [] c P := by
  refine kw_lload dX11_powerOf_9 rfl ?_
  refine kw_lconst0 dX11_powerOf_11 ?_
  have o1 := H.1
  have H := H.2
  refine kw_lcmp_le 60 dX11_powerOf_12 dX11_powerOf_13 (by decide) o1 (k64i (by omega)) (fun h2 => ?_) (fun h2 => ?_)
  · have H := H.1 h2
    refine kw_lload dX11_powerOf_60 rfl ?_
    refine k2_lret dX11_powerOf_62 rfl H
  · have H := H.2 h2
    refine kw_lload dX11_powerOf_16 rfl ?_
    refine kw_ldc2 dX11_powerOf_18 wk_X11_109 ?_
    refine kw_lrem dX11_powerOf_21 o1 (k64i (by omega)) (by decide) ?_
    refine kw_lconst1 dX11_powerOf_22 ?_
    have o3 := H.1
    have H := H.2
    refine kw_lcmp_ne 38 dX11_powerOf_23 dX11_powerOf_24 (by decide) o3 (k64i (by omega)) (fun h4 => ?_) (fun h4 => ?_)
    · have H := H.1 h4
      refine kw_lload dX11_powerOf_38 rfl ?_
      refine kw_lload dX11_powerOf_40 rfl ?_
      refine kw_lmul dX11_powerOf_42 ?_
      refine kw_ldc2 dX11_powerOf_43 wk_X11_430 ?_
      have o5 := H.1
      have H := H.2
      refine kw_lrem dX11_powerOf_46 o5 (k64i (by omega)) (by decide) ?_
      refine kw_lstore dX11_powerOf_47 (Nat.le_of_ble_eq_true rfl) ?_
      refine kw_lload dX11_powerOf_49 rfl ?_
      refine kw_ldc2 dX11_powerOf_51 wk_X11_109 ?_
      refine kw_ldiv dX11_powerOf_54 o1 (k64i (by omega)) (by decide) ?_
      refine kw_lstore dX11_powerOf_55 (Nat.le_of_ble_eq_true rfl) ?_
      refine kw_goto 9 dX11_powerOf_57 (by decide) ?_
      exact kw_forget (ls' := [none, none, none, none, some (kL x4), none, some (kL (Int.tmod (x6 * x6) 1000003)), none, some (kL (Int.tdiv x8 2)), none]) ⟨Or.inr rfl, ⟨Or.inr rfl, ⟨Or.inr rfl, ⟨Or.inr rfl, ⟨Or.inr rfl, ⟨Or.inr rfl, ⟨Or.inr rfl, ⟨Or.inr rfl, ⟨Or.inr rfl, ⟨Or.inr rfl, trivial⟩⟩⟩⟩⟩⟩⟩⟩⟩⟩ H
    · have H := H.2 h4
      refine kw_lload dX11_powerOf_27 rfl ?_
      refine kw_lload dX11_powerOf_29 rfl ?_
      refine kw_lmul dX11_powerOf_31 ?_
      refine kw_ldc2 dX11_powerOf_32 wk_X11_430 ?_
      have o6 := H.1
      have H := H.2
      refine kw_lrem dX11_powerOf_35 o6 (k64i (by omega)) (by decide) ?_
      refine kw_lstore dX11_powerOf_36 (Nat.le_of_ble_eq_true rfl) ?_
      refine kw_lload dX11_powerOf_38 rfl ?_
      refine kw_lload dX11_powerOf_40 rfl ?_
      refine kw_lmul dX11_powerOf_42 ?_
      refine kw_ldc2 dX11_powerOf_43 wk_X11_430 ?_
      have o7 := H.1
      have H := H.2
      refine kw_lrem dX11_powerOf_46 o7 (k64i (by omega)) (by decide) ?_
      refine kw_lstore dX11_powerOf_47 (Nat.le_of_ble_eq_true rfl) ?_
      refine kw_lload dX11_powerOf_49 rfl ?_
      refine kw_ldc2 dX11_powerOf_51 wk_X11_109 ?_
      refine kw_ldiv dX11_powerOf_54 o1 (k64i (by omega)) (by decide) ?_
      refine kw_lstore dX11_powerOf_55 (Nat.le_of_ble_eq_true rfl) ?_
      refine kw_goto 9 dX11_powerOf_57 (by decide) ?_
      exact kw_forget (ls' := [none, none, none, none, some (kL (Int.tmod (x4 * x6) 1000003)), none, some (kL (Int.tmod (x6 * x6) 1000003)), none, some (kL (Int.tdiv x8 2)), none]) ⟨Or.inr rfl, ⟨Or.inr rfl, ⟨Or.inr rfl, ⟨Or.inr rfl, ⟨Or.inr rfl, ⟨Or.inr rfl, ⟨Or.inr rfl, ⟨Or.inr rfl, ⟨Or.inr rfl, ⟨Or.inr rfl, trivial⟩⟩⟩⟩⟩⟩⟩⟩⟩⟩ H
set_option maxRecDepth 4000 in
theorem v_X11_clears {G : KG} {S0 : KSh} (hL : kLay S0) {d : Nat} {P : Option AV → KMem → Prop} {c : KMem} {x1 x2 x3 : Int} (r1 : -2147483648 ≤ x1 ∧ x1 < 2147483648) (r2 : -2147483648 ≤ x2 ∧ x2 < 2147483648) (r3 : -2147483648 ≤ x3 ∧ x3 < 2147483648) (hp : 0 ≤ x1 ∧ x1 < 12 ∧ 0 ≤ x2 ∧ x2 < 12 ∧ 0 ≤ x3 ∧ x3 < 16) (H : kW2 G S0 kM_X11_clears d 16 [some (kA 558), some (kI x1), some (kI x2), none, some (kL (c 575 ((16 * x1) + x3))), none, some (kI 0)] [] c P) : kC2 G S0 kM_X11_clears d [kA 558, kI x1, kI x2, kI x3] c P := by
  refine k2_met (by decide) rfl (Nat.le_of_ble_eq_true rfl) (l0 := [some (kA 558), some (kI x1), some (kI x2), some (kI x3), none, none, none]) rfl ?_
  refine kw_aload_n dX11_clears_0 rfl ?_
  refine k2_getR fd_X11_36 dX11_clears_1 wf_X11_61 (lsh_558 hL) (lrf_558_36 hL) ?_
  refine kw_bipush dX11_clears_4 (by decide) ?_
  refine kw_iload_n dX11_clears_6 rfl ?_
  refine kw_imul dX11_clears_7 ?_
  refine kw_iload_n dX11_clears_8 rfl ?_
  refine kw_iadd dX11_clears_9 ?_
  refine k2_lald dX11_clears_10 (lsh_575 hL) (by omega) (by omega) ?_
  refine kw_lstore dX11_clears_11 (Nat.le_of_ble_eq_true rfl) ?_
  refine kw_iconst dX11_clears_13 ?_
  refine kw_istore dX11_clears_14 (Nat.le_of_ble_eq_true rfl) ?_
  exact kw_forget (ls' := [some (kA 558), some (kI x1), some (kI x2), none, some (kL (c 575 ((16 * x1) + x3))), none, some (kI 0)]) ⟨Or.inr rfl, ⟨Or.inr rfl, ⟨Or.inr rfl, ⟨Or.inl rfl, ⟨Or.inr rfl, ⟨Or.inr rfl, ⟨Or.inr rfl, trivial⟩⟩⟩⟩⟩⟩⟩ H
set_option maxRecDepth 4000 in
theorem v_X11_clears_16 {G : KG} {S0 : KSh} (hL : kLay S0) {d : Nat} {P : Option AV → KMem → Prop} {c : KMem} {x1 x2 x4 x6 : Int} (r1 : -2147483648 ≤ x1 ∧ x1 < 2147483648) (r2 : -2147483648 ≤ x2 ∧ x2 < 2147483648) (r6 : 0 ≤ x6 ∧ x6 < 2147483648) (hp : 0 ≤ x1 ∧ x1 < 12 ∧ 0 ≤ x2 ∧ x2 < 12) (H : (16 ≤ x6 → (P none c)) ∧ (x6 < 16 → ((k64 ((c 575 ((16 * x1) + x6)) - (x4 * (c 575 ((16 * x2) + x6))))) ∧ ((k64 ((Int.tmod ((c 575 ((16 * x1) + x6)) - (x4 * (c 575 ((16 * x2) + x6)))) 1000003) + 1000003)) ∧ (kW2 G S0 kM_X11_clears d 16 [some (kA 558), some (kI x1), some (kI x2), none, some (kL x4), none, some (kI (x6 + 1))] [] (kup c 575 ((16 * x1) + x6) (Int.tmod ((Int.tmod ((c 575 ((16 * x1) + x6)) - (x4 * (c 575 ((16 * x2) + x6)))) 1000003) + 1000003) 1000003)) P))))) : kW2 G S0 kM_X11_clears d 16 [some (kA 558), some (kI x1), some (kI x2), none, some (kL x4), none, some (kI x6)] [] c P := by
  refine kw_iload dX11_clears_16 rfl ?_
  refine kw_bipush dX11_clears_18 (by decide) ?_
  refine kw_icmp_ge 81 dX11_clears_20 (by decide) (k32i (by omega)) (k32i (by omega)) (fun h1 => ?_) (fun h1 => ?_)
  · have H := H.1 h1
    refine k2_ret dX11_clears_81 rfl H
  · have H := H.2 h1
    refine kw_aload_n dX11_clears_23 rfl ?_
    refine k2_getR fd_X11_36 dX11_clears_24 wf_X11_61 (lsh_558 hL) (lrf_558_36 hL) ?_
    refine kw_bipush dX11_clears_27 (by decide) ?_
    refine kw_iload_n dX11_clears_29 rfl ?_
    refine kw_imul dX11_clears_30 ?_
    refine kw_iload dX11_clears_31 rfl ?_
    refine kw_iadd dX11_clears_33 ?_
    refine kw_aload_n dX11_clears_34 rfl ?_
    refine k2_getR fd_X11_36 dX11_clears_35 wf_X11_61 (lsh_558 hL) (lrf_558_36 hL) ?_
    refine kw_bipush dX11_clears_38 (by decide) ?_
    refine kw_iload_n dX11_clears_40 rfl ?_
    refine kw_imul dX11_clears_41 ?_
    refine kw_iload dX11_clears_42 rfl ?_
    refine kw_iadd dX11_clears_44 ?_
    refine k2_lald dX11_clears_45 (lsh_575 hL) (by omega) (by omega) ?_
    refine kw_lload dX11_clears_46 rfl ?_
    refine kw_aload_n dX11_clears_48 rfl ?_
    refine k2_getR fd_X11_36 dX11_clears_49 wf_X11_61 (lsh_558 hL) (lrf_558_36 hL) ?_
    refine kw_bipush dX11_clears_52 (by decide) ?_
    refine kw_iload_n dX11_clears_54 rfl ?_
    refine kw_imul dX11_clears_55 ?_
    refine kw_iload dX11_clears_56 rfl ?_
    refine kw_iadd dX11_clears_58 ?_
    refine k2_lald dX11_clears_59 (lsh_575 hL) (by omega) (by omega) ?_
    refine kw_lmul dX11_clears_60 ?_
    refine kw_lsub dX11_clears_61 ?_
    refine kw_ldc2 dX11_clears_62 wk_X11_430 ?_
    have o2 := H.1
    have H := H.2
    refine kw_lrem dX11_clears_65 o2 (k64i (by omega)) (by decide) ?_
    refine kw_ldc2 dX11_clears_66 wk_X11_430 ?_
    refine kw_ladd dX11_clears_69 ?_
    refine kw_ldc2 dX11_clears_70 wk_X11_430 ?_
    have o3 := H.1
    have H := H.2
    refine kw_lrem dX11_clears_73 o3 (k64i (by omega)) (by decide) ?_
    refine k2_last dX11_clears_74 (lsh_575 hL) (by omega) (by omega) ?_
    refine kw_iinc dX11_clears_75 rfl ?_
    refine kw_goto 16 dX11_clears_78 (by decide) ?_
    exact kw_forget (ls' := [some (kA 558), some (kI x1), some (kI x2), none, some (kL x4), none, some (kI (x6 + 1))]) ⟨Or.inr rfl, ⟨Or.inr rfl, ⟨Or.inr rfl, ⟨Or.inr rfl, ⟨Or.inr rfl, ⟨Or.inr rfl, ⟨Or.inr rfl, trivial⟩⟩⟩⟩⟩⟩⟩ H
set_option maxRecDepth 4000 in
theorem v_X11_scales {G : KG} {S0 : KSh} (hL : kLay S0) {d : Nat} {P : Option AV → KMem → Prop} {c : KMem} {x1 x2 : Int} (r1 : -2147483648 ≤ x1 ∧ x1 < 2147483648) (r2 : -2147483648 ≤ x2 ∧ x2 < 2147483648) (hp : 0 ≤ x1 ∧ x1 < 12 ∧ 0 ≤ x2 ∧ x2 < 16) (H : kC2 G S0 kM_X11_powerOf d [kL (c 575 ((16 * x1) + x2)), kL 1000001] c (kRL (fun z1 c2 => kW2 G S0 kM_X11_scales (d + 1) 21 [some (kA 558), some (kI x1), none, some (kL z1), none, some (kI 0)] [] c2 P))) : kC2 G S0 kM_X11_scales (d + 1) [kA 558, kI x1, kI x2] c P := by
  refine k2_met (by decide) rfl (Nat.le_of_ble_eq_true rfl) (l0 := [some (kA 558), some (kI x1), some (kI x2), none, none, none]) rfl ?_
  refine kw_aload_n dX11_scales_0 rfl ?_
  refine k2_getR fd_X11_36 dX11_scales_1 wf_X11_61 (lsh_558 hL) (lrf_558_36 hL) ?_
  refine kw_bipush dX11_scales_4 (by decide) ?_
  refine kw_iload_n dX11_scales_6 rfl ?_
  refine kw_imul dX11_scales_7 ?_
  refine kw_iload_n dX11_scales_8 rfl ?_
  refine kw_iadd dX11_scales_9 ?_
  refine k2_lald dX11_scales_10 (lsh_575 hL) (by omega) (by omega) ?_
  refine kw_ldc2 dX11_scales_11 wk_X11_432 ?_
  refine k2_callS2L m_X11_powerOf dX11_scales_14 wl_X11_434 (Nat.le_of_ble_eq_true rfl) (kC2_mono H (fun r c2 H => ?_))
  obtain ⟨z1, rfl, H⟩ := H
  refine ⟨z1, rfl, ?_⟩
  refine kw_lstore_n dX11_scales_17 (Nat.le_of_ble_eq_true rfl) ?_
  refine kw_iconst dX11_scales_18 ?_
  refine kw_istore dX11_scales_19 (Nat.le_of_ble_eq_true rfl) ?_
  exact kw_forget (ls' := [some (kA 558), some (kI x1), none, some (kL z1), none, some (kI 0)]) ⟨Or.inr rfl, ⟨Or.inr rfl, ⟨Or.inl rfl, ⟨Or.inr rfl, ⟨Or.inr rfl, ⟨Or.inr rfl, trivial⟩⟩⟩⟩⟩⟩ H
set_option maxRecDepth 4000 in
theorem v_X11_scales_21 {G : KG} {S0 : KSh} (hL : kLay S0) {d : Nat} {P : Option AV → KMem → Prop} {c : KMem} {x1 x3 x5 : Int} (r1 : -2147483648 ≤ x1 ∧ x1 < 2147483648) (r5 : 0 ≤ x5 ∧ x5 < 2147483648) (hp : 0 ≤ x1 ∧ x1 < 12) (H : (16 ≤ x5 → (P none c)) ∧ (x5 < 16 → ((k64 ((c 575 ((16 * x1) + x5)) * x3)) ∧ (kW2 G S0 kM_X11_scales (d + 1) 21 [some (kA 558), some (kI x1), none, some (kL x3), none, some (kI (x5 + 1))] [] (kup c 575 ((16 * x1) + x5) (Int.tmod ((c 575 ((16 * x1) + x5)) * x3) 1000003)) P)))) : kW2 G S0 kM_X11_scales (d + 1) 21 [some (kA 558), some (kI x1), none, some (kL x3), none, some (kI x5)] [] c P := by
  refine kw_iload dX11_scales_21 rfl ?_
  refine kw_bipush dX11_scales_23 (by decide) ?_
  refine kw_icmp_ge 64 dX11_scales_25 (by decide) (k32i (by omega)) (k32i (by omega)) (fun h3 => ?_) (fun h3 => ?_)
  · have H := H.1 h3
    refine k2_ret dX11_scales_64 rfl H
  · have H := H.2 h3
    refine kw_aload_n dX11_scales_28 rfl ?_
    refine k2_getR fd_X11_36 dX11_scales_29 wf_X11_61 (lsh_558 hL) (lrf_558_36 hL) ?_
    refine kw_bipush dX11_scales_32 (by decide) ?_
    refine kw_iload_n dX11_scales_34 rfl ?_
    refine kw_imul dX11_scales_35 ?_
    refine kw_iload dX11_scales_36 rfl ?_
    refine kw_iadd dX11_scales_38 ?_
    refine kw_aload_n dX11_scales_39 rfl ?_
    refine k2_getR fd_X11_36 dX11_scales_40 wf_X11_61 (lsh_558 hL) (lrf_558_36 hL) ?_
    refine kw_bipush dX11_scales_43 (by decide) ?_
    refine kw_iload_n dX11_scales_45 rfl ?_
    refine kw_imul dX11_scales_46 ?_
    refine kw_iload dX11_scales_47 rfl ?_
    refine kw_iadd dX11_scales_49 ?_
    refine k2_lald dX11_scales_50 (lsh_575 hL) (by omega) (by omega) ?_
    refine kw_lload_n dX11_scales_51 rfl ?_
    refine kw_lmul dX11_scales_52 ?_
    refine kw_ldc2 dX11_scales_53 wk_X11_430 ?_
    have o4 := H.1
    have H := H.2
    refine kw_lrem dX11_scales_56 o4 (k64i (by omega)) (by decide) ?_
    refine k2_last dX11_scales_57 (lsh_575 hL) (by omega) (by omega) ?_
    refine kw_iinc dX11_scales_58 rfl ?_
    refine kw_goto 21 dX11_scales_61 (by decide) ?_
    exact kw_forget (ls' := [some (kA 558), some (kI x1), none, some (kL x3), none, some (kI (x5 + 1))]) ⟨Or.inr rfl, ⟨Or.inr rfl, ⟨Or.inr rfl, ⟨Or.inr rfl, ⟨Or.inr rfl, ⟨Or.inr rfl, trivial⟩⟩⟩⟩⟩⟩ H
set_option maxRecDepth 4000 in
theorem v_X11_swaps {G : KG} {S0 : KSh} (hL : kLay S0) {d : Nat} {P : Option AV → KMem → Prop} {c : KMem} {x1 x2 : Int} (r1 : -2147483648 ≤ x1 ∧ x1 < 2147483648) (r2 : -2147483648 ≤ x2 ∧ x2 < 2147483648) (hp : 0 ≤ x1 ∧ x1 < 12 ∧ 0 ≤ x2 ∧ x2 < 12) (H : kW2 G S0 kM_X11_swaps d 2 [some (kA 558), some (kI x1), some (kI x2), some (kI 0), none, none] [] c P) : kC2 G S0 kM_X11_swaps d [kA 558, kI x1, kI x2] c P := by
  refine k2_met (by decide) rfl (Nat.le_of_ble_eq_true rfl) (l0 := [some (kA 558), some (kI x1), some (kI x2), none, none, none]) rfl ?_
  refine kw_iconst dX11_swaps_0 ?_
  refine kw_istore_n dX11_swaps_1 (Nat.le_of_ble_eq_true rfl) ?_
  exact kw_forget (ls' := [some (kA 558), some (kI x1), some (kI x2), some (kI 0), none, none]) ⟨Or.inr rfl, ⟨Or.inr rfl, ⟨Or.inr rfl, ⟨Or.inr rfl, ⟨Or.inr rfl, ⟨Or.inr rfl, trivial⟩⟩⟩⟩⟩⟩ H
set_option maxRecDepth 4000 in
theorem v_X11_swaps_2 {G : KG} {S0 : KSh} (hL : kLay S0) {d : Nat} {P : Option AV → KMem → Prop} {c : KMem} {x1 x2 x3 : Int} (r1 : -2147483648 ≤ x1 ∧ x1 < 2147483648) (r2 : -2147483648 ≤ x2 ∧ x2 < 2147483648) (r3 : 0 ≤ x3 ∧ x3 < 2147483648) (hp : 0 ≤ x1 ∧ x1 < 12 ∧ 0 ≤ x2 ∧ x2 < 12) (H : (16 ≤ x3 → (P none c)) ∧ (x3 < 16 → (kW2 G S0 kM_X11_swaps d 2 [some (kA 558), some (kI x1), some (kI x2), some (kI (x3 + 1)), none, none] [] (kup (kup c 575 ((16 * x1) + x3) (c 575 ((16 * x2) + x3))) 575 ((16 * x2) + x3) (c 575 ((16 * x1) + x3))) P))) : kW2 G S0 kM_X11_swaps d 2 [some (kA 558), some (kI x1), some (kI x2), some (kI x3), none, none] [] c P := by
  refine kw_iload_n dX11_swaps_2 rfl ?_
  refine kw_bipush dX11_swaps_3 (by decide) ?_
  refine kw_icmp_ge 62 dX11_swaps_5 (by decide) (k32i (by omega)) (k32i (by omega)) (fun h1 => ?_) (fun h1 => ?_)
  · have H := H.1 h1
    refine k2_ret dX11_swaps_62 rfl H
  · have H := H.2 h1
    refine kw_aload_n dX11_swaps_8 rfl ?_
    refine k2_getR fd_X11_36 dX11_swaps_9 wf_X11_61 (lsh_558 hL) (lrf_558_36 hL) ?_
    refine kw_bipush dX11_swaps_12 (by decide) ?_
    refine kw_iload_n dX11_swaps_14 rfl ?_
    refine kw_imul dX11_swaps_15 ?_
    refine kw_iload_n dX11_swaps_16 rfl ?_
    refine kw_iadd dX11_swaps_17 ?_
    refine k2_lald dX11_swaps_18 (lsh_575 hL) (by omega) (by omega) ?_
    refine kw_lstore dX11_swaps_19 (Nat.le_of_ble_eq_true rfl) ?_
    refine kw_aload_n dX11_swaps_21 rfl ?_
    refine k2_getR fd_X11_36 dX11_swaps_22 wf_X11_61 (lsh_558 hL) (lrf_558_36 hL) ?_
    refine kw_bipush dX11_swaps_25 (by decide) ?_
    refine kw_iload_n dX11_swaps_27 rfl ?_
    refine kw_imul dX11_swaps_28 ?_
    refine kw_iload_n dX11_swaps_29 rfl ?_
    refine kw_iadd dX11_swaps_30 ?_
    refine kw_aload_n dX11_swaps_31 rfl ?_
    refine k2_getR fd_X11_36 dX11_swaps_32 wf_X11_61 (lsh_558 hL) (lrf_558_36 hL) ?_
    refine kw_bipush dX11_swaps_35 (by decide) ?_
    refine kw_iload_n dX11_swaps_37 rfl ?_
    refine kw_imul dX11_swaps_38 ?_
    refine kw_iload_n dX11_swaps_39 rfl ?_
    refine kw_iadd dX11_swaps_40 ?_
    refine k2_lald dX11_swaps_41 (lsh_575 hL) (by omega) (by omega) ?_
    refine k2_last dX11_swaps_42 (lsh_575 hL) (by omega) (by omega) ?_
    refine kw_aload_n dX11_swaps_43 rfl ?_
    refine k2_getR fd_X11_36 dX11_swaps_44 wf_X11_61 (lsh_558 hL) (lrf_558_36 hL) ?_
    refine kw_bipush dX11_swaps_47 (by decide) ?_
    refine kw_iload_n dX11_swaps_49 rfl ?_
    refine kw_imul dX11_swaps_50 ?_
    refine kw_iload_n dX11_swaps_51 rfl ?_
    refine kw_iadd dX11_swaps_52 ?_
    refine kw_lload dX11_swaps_53 rfl ?_
    refine k2_last dX11_swaps_55 (lsh_575 hL) (by omega) (by omega) ?_
    refine kw_iinc dX11_swaps_56 rfl ?_
    refine kw_goto 2 dX11_swaps_59 (by decide) ?_
    exact kw_forget (ls' := [some (kA 558), some (kI x1), some (kI x2), some (kI (x3 + 1)), none, none]) ⟨Or.inr rfl, ⟨Or.inr rfl, ⟨Or.inr rfl, ⟨Or.inr rfl, ⟨Or.inl rfl, ⟨Or.inr rfl, trivial⟩⟩⟩⟩⟩⟩ H
set_option maxRecDepth 4000 in
theorem v_X11_rank {G : KG} {S0 : KSh} (hL : kLay S0) {d : Nat} {P : Option AV → KMem → Prop} {c : KMem} {x1 : Int} (r1 : -2147483648 ≤ x1 ∧ x1 < 2147483648) (H : kC2 G S0 kM_X11_areLetters (d + 1) [kA 558, kI x1, kI 12] c (kRI (fun z1 c2 => (k32 z1) ∧ ((z1 ≠ 0 → (kW2 G S0 kM_X11_rank (d + 2) 16 [some (kA 558), some (kI x1), some (kI 0), some (kI 0), none, none, none] [] c2 P)) ∧ (z1 = 0 → (P (some (kI (-1))) c2)))))) : kC2 G S0 kM_X11_rank (d + 2) [kA 558, kI x1] c P := by
  refine k2_met (by decide) rfl (Nat.le_of_ble_eq_true rfl) (l0 := [some (kA 558), some (kI x1), none, none, none, none, none]) rfl ?_
  refine kw_aload_n dX11_rank_0 rfl ?_
  refine kw_iload_n dX11_rank_1 rfl ?_
  refine kw_bipush dX11_rank_2 (by decide) ?_
  refine k2_callV2I (ci := 9) (N := 38) (T := TX11) rfl (lsh_558 hL) m_X11_areLetters dX11_rank_4 wl_X11_418 (Nat.le_of_ble_eq_true rfl) (kC2_mono H (fun r c2 H => ?_))
  obtain ⟨z1, rfl, H⟩ := H
  refine ⟨z1, rfl, ?_⟩
  have o4 := H.1
  have H := H.2
  refine kw_if_ne 12 dX11_rank_7 (by decide) o4 (fun h3 => ?_) (fun h3 => ?_)
  · have H := H.1 h3
    refine kw_iconst dX11_rank_12 ?_
    refine kw_istore_n dX11_rank_13 (Nat.le_of_ble_eq_true rfl) ?_
    refine kw_iconst dX11_rank_14 ?_
    refine kw_istore_n dX11_rank_15 (Nat.le_of_ble_eq_true rfl) ?_
    exact kw_forget (ls' := [some (kA 558), some (kI x1), some (kI 0), some (kI 0), none, none, none]) ⟨Or.inr rfl, ⟨Or.inr rfl, ⟨Or.inr rfl, ⟨Or.inr rfl, ⟨Or.inr rfl, ⟨Or.inr rfl, ⟨Or.inr rfl, trivial⟩⟩⟩⟩⟩⟩⟩ H
  · have H := H.2 h3
    refine kw_iconst dX11_rank_10 ?_
    refine k2_iret dX11_rank_11 rfl H
set_option maxRecDepth 4000 in
theorem v_X11_rank_16 {G : KG} {S0 : KSh} (hL : kLay S0) {d : Nat} {P : Option AV → KMem → Prop} {c : KMem} {x1 x2 x3 : Int} (r1 : -2147483648 ≤ x1 ∧ x1 < 2147483648) (r2 : -2147483648 ≤ x2 ∧ x2 < 2147483648) (r3 : -2147483648 ≤ x3 ∧ x3 < 2147483648) (hp : 0 ≤ x2 ∧ x2 ≤ x3 ∧ x3 ≤ 12) (H : (12 ≤ x3 → (kW2 G S0 kM_X11_rank (d + 2) 95 [some (kA 558), none, some (kI x2), some (kI 0), some (kI 0), none, none] [] c P)) ∧ (x3 < 12 → (((kand (kshr x1 x3) 1 = 1) → (kW2 G S0 kM_X11_rank (d + 2) 36 [some (kA 558), some (kI x1), some (kI x2), some (kI x3), some (kI 0), none, none] [] c P)) ∧ (¬ (kand (kshr x1 x3) 1 = 1) → (kW2 G S0 kM_X11_rank (d + 2) 16 [some (kA 558), some (kI x1), some (kI x2), some (kI (x3 + 1)), none, none, none] [] c P))))) : kW2 G S0 kM_X11_rank (d + 2) 16 [some (kA 558), some (kI x1), some (kI x2), some (kI x3), none, none, none] [] c P := by
  refine kw_iload_n dX11_rank_16 rfl ?_
  refine kw_bipush dX11_rank_17 (by decide) ?_
  refine kw_icmp_ge 90 dX11_rank_19 (by decide) (k32i (by omega)) (k32i (by omega)) (fun h5 => ?_) (fun h5 => ?_)
  · have H := H.1 h5
    refine kw_iconst dX11_rank_90 ?_
    refine kw_istore_n dX11_rank_91 (Nat.le_of_ble_eq_true rfl) ?_
    refine kw_iconst dX11_rank_92 ?_
    refine kw_istore dX11_rank_93 (Nat.le_of_ble_eq_true rfl) ?_
    exact kw_forget (ls' := [some (kA 558), none, some (kI x2), some (kI 0), some (kI 0), none, none]) ⟨Or.inr rfl, ⟨Or.inl rfl, ⟨Or.inr rfl, ⟨Or.inr rfl, ⟨Or.inr rfl, ⟨Or.inr rfl, ⟨Or.inr rfl, trivial⟩⟩⟩⟩⟩⟩⟩ H
  · have H := H.2 h5
    refine kw_iload_n dX11_rank_22 rfl ?_
    refine kw_iload_n dX11_rank_23 rfl ?_
    refine k2_callS2I m_X11_has dX11_rank_24 wl_X11_80 (Nat.le_of_ble_eq_true rfl) (s_X11_has hL (k32i (by omega)) (k32i (by omega)) (fun h6 => ⟨_, rfl, ?_⟩) (fun h6 => ⟨_, rfl, ?_⟩))
    · have H := H.1 h6
      refine kw_if_ne 33 dX11_rank_27 (by decide) (k32i (by omega)) (fun _ => ?_) (fun h7 => absurd h7 (by decide))
      refine kw_iconst dX11_rank_33 ?_
      refine kw_istore dX11_rank_34 (Nat.le_of_ble_eq_true rfl) ?_
      exact kw_forget (ls' := [some (kA 558), some (kI x1), some (kI x2), some (kI x3), some (kI 0), none, none]) ⟨Or.inr rfl, ⟨Or.inr rfl, ⟨Or.inr rfl, ⟨Or.inr rfl, ⟨Or.inr rfl, ⟨Or.inr rfl, ⟨Or.inr rfl, trivial⟩⟩⟩⟩⟩⟩⟩ H
    · have H := H.2 h6
      refine kw_if_ne 33 dX11_rank_27 (by decide) (k32i (by omega)) (fun h8 => absurd h8 (by decide)) (fun _ => ?_)
      refine kw_goto 84 dX11_rank_30 (by decide) ?_
      refine kw_iinc dX11_rank_84 rfl ?_
      refine kw_goto 16 dX11_rank_87 (by decide) ?_
      exact kw_forget (ls' := [some (kA 558), some (kI x1), some (kI x2), some (kI (x3 + 1)), none, none, none]) ⟨Or.inr rfl, ⟨Or.inr rfl, ⟨Or.inr rfl, ⟨Or.inr rfl, ⟨Or.inr rfl, ⟨Or.inr rfl, ⟨Or.inr rfl, trivial⟩⟩⟩⟩⟩⟩⟩ H
set_option maxRecDepth 4000 in
theorem v_X11_rank_95 {G : KG} {S0 : KSh} (hL : kLay S0) {d : Nat} {P : Option AV → KMem → Prop} {c : KMem} {x2 x3 x4 : Int} (r2 : -2147483648 ≤ x2 ∧ x2 < 2147483648) (r3 : -2147483648 ≤ x3 ∧ x3 < 2147483648) (r4 : 0 ≤ x4 ∧ x4 < 2147483648) (hp : 0 ≤ x3 ∧ x3 ≤ x2 ∧ x2 ≤ 12) (H : (16 ≤ x4 → (P (some (kI x3)) c)) ∧ (x4 < 16 → ((x2 ≤ x3 → (P (some (kI x3)) c)) ∧ (x3 < x2 → (kW2 G S0 kM_X11_rank (d + 2) 110 [some (kA 558), none, some (kI x2), some (kI x3), some (kI x4), some (kI x3), none] [] c P))))) : kW2 G S0 kM_X11_rank (d + 2) 95 [some (kA 558), none, some (kI x2), some (kI x3), some (kI x4), none, none] [] c P := by
  refine kw_iload dX11_rank_95 rfl ?_
  refine kw_bipush dX11_rank_97 (by decide) ?_
  refine kw_icmp_ge 202 dX11_rank_99 (by decide) (k32i (by omega)) (k32i (by omega)) (fun h9 => ?_) (fun h9 => ?_)
  · have H := H.1 h9
    refine kw_iload_n dX11_rank_202 rfl ?_
    refine k2_iret dX11_rank_203 rfl H
  · have H := H.2 h9
    refine kw_iload_n dX11_rank_102 rfl ?_
    refine kw_iload_n dX11_rank_103 rfl ?_
    refine kw_icmp_ge 202 dX11_rank_104 (by decide) (k32i (by omega)) (k32i (by omega)) (fun h10 => ?_) (fun h10 => ?_)
    · have H := H.1 h10
      refine kw_iload_n dX11_rank_202 rfl ?_
      refine k2_iret dX11_rank_203 rfl H
    · have H := H.2 h10
      refine kw_iload_n dX11_rank_107 rfl ?_
      refine kw_istore dX11_rank_108 (Nat.le_of_ble_eq_true rfl) ?_
      exact kw_forget (ls' := [some (kA 558), none, some (kI x2), some (kI x3), some (kI x4), some (kI x3), none]) ⟨Or.inr rfl, ⟨Or.inr rfl, ⟨Or.inr rfl, ⟨Or.inr rfl, ⟨Or.inr rfl, ⟨Or.inr rfl, ⟨Or.inr rfl, trivial⟩⟩⟩⟩⟩⟩⟩ H
set_option maxRecDepth 4000 in
theorem v_X11_rank_36 {G : KG} {S0 : KSh} (hL : kLay S0) {d : Nat} {P : Option AV → KMem → Prop} {c : KMem} {x1 x2 x3 x4 : Int} (r1 : -2147483648 ≤ x1 ∧ x1 < 2147483648) (r2 : -2147483648 ≤ x2 ∧ x2 < 2147483648) (r3 : -2147483648 ≤ x3 ∧ x3 < 2147483648) (r4 : 0 ≤ x4 ∧ x4 < 2147483648) (hp : 0 ≤ x2 ∧ x2 ≤ x3 ∧ x3 < 12) (H : (16 ≤ x4 → (kW2 G S0 kM_X11_rank (d + 2) 16 [some (kA 558), some (kI x1), some (kI (x2 + 1)), some (kI (x3 + 1)), none, none, none] [] c P)) ∧ (x4 < 16 → ((k64 (c 559 ((16 * x3) + x4))) ∧ ((k64 ((Int.tmod (c 559 ((16 * x3) + x4)) 1000003) + 1000003)) ∧ (kW2 G S0 kM_X11_rank (d + 2) 36 [some (kA 558), some (kI x1), some (kI x2), some (kI x3), some (kI (x4 + 1)), none, none] [] (kup c 575 ((16 * x2) + x4) (Int.tmod ((Int.tmod (c 559 ((16 * x3) + x4)) 1000003) + 1000003) 1000003)) P))))) : kW2 G S0 kM_X11_rank (d + 2) 36 [some (kA 558), some (kI x1), some (kI x2), some (kI x3), some (kI x4), none, none] [] c P := by
  refine kw_iload dX11_rank_36 rfl ?_
  refine kw_bipush dX11_rank_38 (by decide) ?_
  refine kw_icmp_ge 80 dX11_rank_40 (by decide) (k32i (by omega)) (k32i (by omega)) (fun h11 => ?_) (fun h11 => ?_)
  · have H := H.1 h11
    refine kw_iload_n dX11_rank_80 rfl ?_
    refine kw_iconst dX11_rank_81 ?_
    refine kw_iadd dX11_rank_82 ?_
    refine kw_istore_n dX11_rank_83 (Nat.le_of_ble_eq_true rfl) ?_
    refine kw_iinc dX11_rank_84 rfl ?_
    refine kw_goto 16 dX11_rank_87 (by decide) ?_
    exact kw_forget (ls' := [some (kA 558), some (kI x1), some (kI (x2 + 1)), some (kI (x3 + 1)), none, none, none]) ⟨Or.inr rfl, ⟨Or.inr rfl, ⟨Or.inr rfl, ⟨Or.inr rfl, ⟨Or.inl rfl, ⟨Or.inr rfl, ⟨Or.inr rfl, trivial⟩⟩⟩⟩⟩⟩⟩ H
  · have H := H.2 h11
    refine kw_aload_n dX11_rank_43 rfl ?_
    refine k2_getR fd_X11_36 dX11_rank_44 wf_X11_61 (lsh_558 hL) (lrf_558_36 hL) ?_
    refine kw_bipush dX11_rank_47 (by decide) ?_
    refine kw_iload_n dX11_rank_49 rfl ?_
    refine kw_imul dX11_rank_50 ?_
    refine kw_iload dX11_rank_51 rfl ?_
    refine kw_iadd dX11_rank_53 ?_
    refine kw_aload_n dX11_rank_54 rfl ?_
    refine kw_iload_n dX11_rank_55 rfl ?_
    refine kw_iload dX11_rank_56 rfl ?_
    refine k2_callV2L (ci := 9) (N := 38) (T := TX11) rfl (lsh_558 hL) m_X11_at dX11_rank_58 wl_X11_84 (Nat.le_of_ble_eq_true rfl) (s_X11_at hL (k32i (by omega)) (k32i (by omega)) (by omega) ⟨_, rfl, ?_⟩)
    refine kw_ldc2 dX11_rank_61 wk_X11_430 ?_
    have o12 := H.1
    have H := H.2
    refine kw_lrem dX11_rank_64 o12 (k64i (by omega)) (by decide) ?_
    refine kw_ldc2 dX11_rank_65 wk_X11_430 ?_
    refine kw_ladd dX11_rank_68 ?_
    refine kw_ldc2 dX11_rank_69 wk_X11_430 ?_
    have o13 := H.1
    have H := H.2
    refine kw_lrem dX11_rank_72 o13 (k64i (by omega)) (by decide) ?_
    refine k2_last dX11_rank_73 (lsh_575 hL) (by omega) (by omega) ?_
    refine kw_iinc dX11_rank_74 rfl ?_
    refine kw_goto 36 dX11_rank_77 (by decide) ?_
    exact kw_forget (ls' := [some (kA 558), some (kI x1), some (kI x2), some (kI x3), some (kI (x4 + 1)), none, none]) ⟨Or.inr rfl, ⟨Or.inr rfl, ⟨Or.inr rfl, ⟨Or.inr rfl, ⟨Or.inr rfl, ⟨Or.inr rfl, ⟨Or.inr rfl, trivial⟩⟩⟩⟩⟩⟩⟩ H
set_option maxRecDepth 4000 in
theorem v_X11_rank_110 {G : KG} {S0 : KSh} (hL : kLay S0) {d : Nat} {P : Option AV → KMem → Prop} {c : KMem} {x2 x3 x4 x5 : Int} (r2 : -2147483648 ≤ x2 ∧ x2 < 2147483648) (r3 : -2147483648 ≤ x3 ∧ x3 < 2147483648) (r4 : 0 ≤ x4 ∧ x4 < 2147483648) (r5 : -2147483648 ≤ x5 ∧ x5 < 2147483648) (hp : 0 ≤ x3 ∧ x3 < x2 ∧ x2 ≤ 12 ∧ x4 < 16 ∧ x3 ≤ x5 ∧ x5 ≤ x2) (H : (x2 ≤ x5 → (kW2 G S0 kM_X11_rank (d + 2) 143 [some (kA 558), none, some (kI x2), some (kI x3), some (kI x4), some (kI x5), none] [] c P)) ∧ (x5 < x2 → ((k64 (c 575 ((16 * x5) + x4))) ∧ (((c 575 ((16 * x5) + x4)) ≠ 0 → (kW2 G S0 kM_X11_rank (d + 2) 143 [some (kA 558), none, some (kI x2), some (kI x3), some (kI x4), some (kI x5), none] [] c P)) ∧ ((c 575 ((16 * x5) + x4)) = 0 → (kW2 G S0 kM_X11_rank (d + 2) 110 [some (kA 558), none, some (kI x2), some (kI x3), some (kI x4), some (kI (x5 + 1)), none] [] c P)))))) : kW2 G S0 kM_X11_rank (d + 2) 110 [some (kA 558), none, some (kI x2), some (kI x3), some (kI x4), some (kI x5), none] [] c P := by
  refine kw_iload dX11_rank_110 rfl ?_
  refine kw_iload_n dX11_rank_112 rfl ?_
  refine kw_icmp_ge 143 dX11_rank_113 (by decide) (k32i (by omega)) (k32i (by omega)) (fun h14 => ?_) (fun h14 => ?_)
  · have H := H.1 h14
    exact kw_forget (ls' := [some (kA 558), none, some (kI x2), some (kI x3), some (kI x4), some (kI x5), none]) ⟨Or.inr rfl, ⟨Or.inr rfl, ⟨Or.inr rfl, ⟨Or.inr rfl, ⟨Or.inr rfl, ⟨Or.inr rfl, ⟨Or.inr rfl, trivial⟩⟩⟩⟩⟩⟩⟩ H
  · have H := H.2 h14
    refine kw_aload_n dX11_rank_116 rfl ?_
    refine k2_getR fd_X11_36 dX11_rank_117 wf_X11_61 (lsh_558 hL) (lrf_558_36 hL) ?_
    refine kw_bipush dX11_rank_120 (by decide) ?_
    refine kw_iload dX11_rank_122 rfl ?_
    refine kw_imul dX11_rank_124 ?_
    refine kw_iload dX11_rank_125 rfl ?_
    refine kw_iadd dX11_rank_127 ?_
    refine k2_lald dX11_rank_128 (lsh_575 hL) (by omega) (by omega) ?_
    refine kw_lconst0 dX11_rank_129 ?_
    have o15 := H.1
    have H := H.2
    refine kw_lcmp_ne 143 dX11_rank_130 dX11_rank_131 (by decide) o15 (k64i (by omega)) (fun h16 => ?_) (fun h16 => ?_)
    · have H := H.1 h16
      exact kw_forget (ls' := [some (kA 558), none, some (kI x2), some (kI x3), some (kI x4), some (kI x5), none]) ⟨Or.inr rfl, ⟨Or.inr rfl, ⟨Or.inr rfl, ⟨Or.inr rfl, ⟨Or.inr rfl, ⟨Or.inr rfl, ⟨Or.inr rfl, trivial⟩⟩⟩⟩⟩⟩⟩ H
    · have H := H.2 h16
      refine kw_iload dX11_rank_134 rfl ?_
      refine kw_iconst dX11_rank_136 ?_
      refine kw_iadd dX11_rank_137 ?_
      refine kw_istore dX11_rank_138 (Nat.le_of_ble_eq_true rfl) ?_
      refine kw_goto 110 dX11_rank_140 (by decide) ?_
      exact kw_forget (ls' := [some (kA 558), none, some (kI x2), some (kI x3), some (kI x4), some (kI (x5 + 1)), none]) ⟨Or.inr rfl, ⟨Or.inr rfl, ⟨Or.inr rfl, ⟨Or.inr rfl, ⟨Or.inr rfl, ⟨Or.inr rfl, ⟨Or.inr rfl, trivial⟩⟩⟩⟩⟩⟩⟩ H
set_option maxRecDepth 4000 in
theorem v_X11_rank_143 {G : KG} {S0 : KSh} (hL : kLay S0) {d : Nat} {P : Option AV → KMem → Prop} {c : KMem} {x2 x3 x4 x5 : Int} (r2 : -2147483648 ≤ x2 ∧ x2 < 2147483648) (r3 : -2147483648 ≤ x3 ∧ x3 < 2147483648) (r4 : 0 ≤ x4 ∧ x4 < 2147483648) (r5 : -2147483648 ≤ x5 ∧ x5 < 2147483648) (hp : 0 ≤ x3 ∧ x3 < x2 ∧ x2 ≤ 12 ∧ x4 < 16 ∧ x3 ≤ x5 ∧ x5 ≤ x2) (H : (x5 ≠ x2 → (kC2 G S0 kM_X11_swaps (d + 1) [kA 558, kI x3, kI x5] c (kRN (fun c19 => kC2 G S0 kM_X11_scales (d + 1) [kA 558, kI x3, kI x4] c19 (kRN (fun c21 => kW2 G S0 kM_X11_rank (d + 2) 171 [some (kA 558), none, some (kI x2), some (kI x3), some (kI x4), none, some (kI (x3 + 1))] [] c21 P)))))) ∧ (x5 = x2 → (kW2 G S0 kM_X11_rank (d + 2) 95 [some (kA 558), none, some (kI x2), some (kI x3), some (kI (x4 + 1)), none, none] [] c P))) : kW2 G S0 kM_X11_rank (d + 2) 143 [some (kA 558), none, some (kI x2), some (kI x3), some (kI x4), some (kI x5), none] [] c P := by
  refine kw_iload dX11_rank_143 rfl ?_
  refine kw_iload_n dX11_rank_145 rfl ?_
  refine kw_icmp_ne 152 dX11_rank_146 (by decide) (k32i (by omega)) (k32i (by omega)) (fun h17 => ?_) (fun h17 => ?_)
  · have H := H.1 h17
    refine kw_aload_n dX11_rank_152 rfl ?_
    refine kw_iload_n dX11_rank_153 rfl ?_
    refine kw_iload dX11_rank_154 rfl ?_
    refine k2_callV2N (ci := 9) (N := 38) (T := TX11) rfl (lsh_558 hL) m_X11_swaps dX11_rank_156 wl_X11_437 (Nat.le_of_ble_eq_true rfl) (kC2_mono H (fun r c19 H => ?_))
    obtain ⟨rfl, H⟩ := H
    refine ⟨rfl, ?_⟩
    refine kw_aload_n dX11_rank_159 rfl ?_
    refine kw_iload_n dX11_rank_160 rfl ?_
    refine kw_iload dX11_rank_161 rfl ?_
    refine k2_callV2N (ci := 9) (N := 38) (T := TX11) rfl (lsh_558 hL) m_X11_scales dX11_rank_163 wl_X11_440 (Nat.le_of_ble_eq_true rfl) (kC2_mono H (fun r c21 H => ?_))
    obtain ⟨rfl, H⟩ := H
    refine ⟨rfl, ?_⟩
    refine kw_iload_n dX11_rank_166 rfl ?_
    refine kw_iconst dX11_rank_167 ?_
    refine kw_iadd dX11_rank_168 ?_
    refine kw_istore dX11_rank_169 (Nat.le_of_ble_eq_true rfl) ?_
    exact kw_forget (ls' := [some (kA 558), none, some (kI x2), some (kI x3), some (kI x4), none, some (kI (x3 + 1))]) ⟨Or.inr rfl, ⟨Or.inr rfl, ⟨Or.inr rfl, ⟨Or.inr rfl, ⟨Or.inr rfl, ⟨Or.inl rfl, ⟨Or.inr rfl, trivial⟩⟩⟩⟩⟩⟩⟩ H
  · have H := H.2 h17
    refine kw_goto 196 dX11_rank_149 (by decide) ?_
    refine kw_iinc dX11_rank_196 rfl ?_
    refine kw_goto 95 dX11_rank_199 (by decide) ?_
    exact kw_forget (ls' := [some (kA 558), none, some (kI x2), some (kI x3), some (kI (x4 + 1)), none, none]) ⟨Or.inr rfl, ⟨Or.inr rfl, ⟨Or.inr rfl, ⟨Or.inr rfl, ⟨Or.inr rfl, ⟨Or.inl rfl, ⟨Or.inr rfl, trivial⟩⟩⟩⟩⟩⟩⟩ H
set_option maxRecDepth 4000 in
theorem v_X11_rank_171 {G : KG} {S0 : KSh} (hL : kLay S0) {d : Nat} {P : Option AV → KMem → Prop} {c : KMem} {x2 x3 x4 x6 : Int} (r2 : -2147483648 ≤ x2 ∧ x2 < 2147483648) (r3 : -2147483648 ≤ x3 ∧ x3 < 2147483648) (r4 : 0 ≤ x4 ∧ x4 < 2147483648) (r6 : -2147483648 ≤ x6 ∧ x6 < 2147483648) (hp : 0 ≤ x3 ∧ x3 < x2 ∧ x2 ≤ 12 ∧ x4 < 16 ∧ x3 < x6 ∧ x6 ≤ x2) (H : (x2 ≤ x6 → (kW2 G S0 kM_X11_rank (d + 2) 95 [some (kA 558), none, some (kI x2), some (kI (x3 + 1)), some (kI (x4 + 1)), none, none] [] c P)) ∧ (x6 < x2 → (kC2 G S0 kM_X11_clears (d + 1) [kA 558, kI x6, kI x3, kI x4] c (kRN (fun c24 => kW2 G S0 kM_X11_rank (d + 2) 171 [some (kA 558), none, some (kI x2), some (kI x3), some (kI x4), none, some (kI (x6 + 1))] [] c24 P))))) : kW2 G S0 kM_X11_rank (d + 2) 171 [some (kA 558), none, some (kI x2), some (kI x3), some (kI x4), none, some (kI x6)] [] c P := by
  refine kw_iload dX11_rank_171 rfl ?_
  refine kw_iload_n dX11_rank_173 rfl ?_
  refine kw_icmp_ge 192 dX11_rank_174 (by decide) (k32i (by omega)) (k32i (by omega)) (fun h22 => ?_) (fun h22 => ?_)
  · have H := H.1 h22
    refine kw_iload_n dX11_rank_192 rfl ?_
    refine kw_iconst dX11_rank_193 ?_
    refine kw_iadd dX11_rank_194 ?_
    refine kw_istore_n dX11_rank_195 (Nat.le_of_ble_eq_true rfl) ?_
    refine kw_iinc dX11_rank_196 rfl ?_
    refine kw_goto 95 dX11_rank_199 (by decide) ?_
    exact kw_forget (ls' := [some (kA 558), none, some (kI x2), some (kI (x3 + 1)), some (kI (x4 + 1)), none, none]) ⟨Or.inr rfl, ⟨Or.inr rfl, ⟨Or.inr rfl, ⟨Or.inr rfl, ⟨Or.inr rfl, ⟨Or.inr rfl, ⟨Or.inl rfl, trivial⟩⟩⟩⟩⟩⟩⟩ H
  · have H := H.2 h22
    refine kw_aload_n dX11_rank_177 rfl ?_
    refine kw_iload dX11_rank_178 rfl ?_
    refine kw_iload_n dX11_rank_180 rfl ?_
    refine kw_iload dX11_rank_181 rfl ?_
    refine k2_callV3N (ci := 9) (N := 38) (T := TX11) rfl (lsh_558 hL) m_X11_clears dX11_rank_183 wl_X11_443 (Nat.le_of_ble_eq_true rfl) (kC2_mono H (fun r c24 H => ?_))
    obtain ⟨rfl, H⟩ := H
    refine ⟨rfl, ?_⟩
    refine kw_iinc dX11_rank_186 rfl ?_
    refine kw_goto 171 dX11_rank_189 (by decide) ?_
    exact kw_forget (ls' := [some (kA 558), none, some (kI x2), some (kI x3), some (kI x4), none, some (kI (x6 + 1))]) ⟨Or.inr rfl, ⟨Or.inr rfl, ⟨Or.inr rfl, ⟨Or.inr rfl, ⟨Or.inr rfl, ⟨Or.inr rfl, ⟨Or.inr rfl, trivial⟩⟩⟩⟩⟩⟩⟩ H
