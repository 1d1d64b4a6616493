set_option maxRecDepth 4000 in
theorem v_X11_joins {G : KG} {S0 : KSh} (hL : kLay S0) {d : Nat} {P : Option AV → KMem → Prop} {c : KMem} {x1 x2 x3 x4 : Int} (r1 : -2147483648 ≤ x1 ∧ x1 < 2147483648) (r2 : -2147483648 ≤ x2 ∧ x2 < 2147483648) (r3 : -2147483648 ≤ x3 ∧ x3 < 2147483648) (r4 : -2147483648 ≤ x4 ∧ x4 < 2147483648) (H : kW2 G S0 kM_X11_joins (d + 1) 3 [some (kA 558), some (kI x1), some (kI x2), some (kI x3), some (kI x4), some (kI 0), none] [] c P) : kC2 G S0 kM_X11_joins (d + 1) [kA 558, kI x1, kI x2, kI x3, kI x4] c P := by
  refine k2_met (by decide) rfl (Nat.le_of_ble_eq_true rfl) (l0 := [some (kA 558), some (kI x1), some (kI x2), some (kI x3), some (kI x4), none, none]) rfl ?_
  refine kw_iconst dX11_joins_0 ?_
  refine kw_istore dX11_joins_1 (Nat.le_of_ble_eq_true rfl) ?_
  exact kw_forget (ls' := [some (kA 558), some (kI x1), some (kI x2), some (kI x3), some (kI x4), some (kI 0), none]) ⟨Or.inr rfl, ⟨Or.inr rfl, ⟨Or.inr rfl, ⟨Or.inr rfl, ⟨Or.inr rfl, ⟨Or.inr rfl, ⟨Or.inr rfl, trivial⟩⟩⟩⟩⟩⟩⟩ H
set_option maxRecDepth 4000 in
theorem v_X11_joins_3 {G : KG} {S0 : KSh} (hL : kLay S0) {d : Nat} {P : Option AV → KMem → Prop} {c : KMem} {x1 x2 x3 x4 x5 : Int} (r1 : -2147483648 ≤ x1 ∧ x1 < 2147483648) (r2 : -2147483648 ≤ x2 ∧ x2 < 2147483648) (r3 : -2147483648 ≤ x3 ∧ x3 < 2147483648) (r4 : -2147483648 ≤ x4 ∧ x4 < 2147483648) (r5 : 0 ≤ x5 ∧ x5 < 2147483648) (hp : 0 ≤ x5) (H : (16 ≤ x5 → (kW2 G S0 kM_X11_joins (d + 1) 27 [some (kA 558), some (kI x1), some (kI x2), some (kI x3), some (kI x4), some (kI 0), none] [] c P)) ∧ (x5 < 16 → (kW2 G S0 kM_X11_joins (d + 1) 3 [some (kA 558), some (kI x1), some (kI x2), some (kI x3), some (kI x4), some (kI (x5 + 1)), none] [] (kup c 560 x5 0) P))) : kW2 G S0 kM_X11_joins (d + 1) 3 [some (kA 558), some (kI x1), some (kI x2), some (kI x3), some (kI x4), some (kI x5), none] [] c P := by
  refine kw_iload dX11_joins_3 rfl ?_
  refine kw_bipush dX11_joins_5 (by decide) ?_
  refine kw_icmp_ge 24 dX11_joins_7 (by decide) (k32i (by omega)) (k32i (by omega)) (fun h1 => ?_) (fun h1 => ?_)
  · have H := H.1 h1
    refine kw_iconst dX11_joins_24 ?_
    refine kw_istore dX11_joins_25 (Nat.le_of_ble_eq_true rfl) ?_
    exact kw_forget (ls' := [some (kA 558), some (kI x1), some (kI x2), some (kI x3), some (kI x4), some (kI 0), none]) ⟨Or.inr rfl, ⟨Or.inr rfl, ⟨Or.inr rfl, ⟨Or.inr rfl, ⟨Or.inr rfl, ⟨Or.inr rfl, ⟨Or.inr rfl, trivial⟩⟩⟩⟩⟩⟩⟩ H
  · have H := H.2 h1
    refine kw_aload_n dX11_joins_10 rfl ?_
    refine k2_getR fd_X11_1 dX11_joins_11 wf_X11_13 (lsh_558 hL) (lrf_558_1 hL) ?_
    refine kw_iload dX11_joins_14 rfl ?_
    refine kw_lconst0 dX11_joins_16 ?_
    refine k2_last dX11_joins_17 (lsh_560 hL) (by omega) (by omega) ?_
    refine kw_iinc dX11_joins_18 rfl ?_
    refine kw_goto 3 dX11_joins_21 (by decide) ?_
    exact kw_forget (ls' := [some (kA 558), some (kI x1), some (kI x2), some (kI x3), some (kI x4), some (kI (x5 + 1)), none]) ⟨Or.inr rfl, ⟨Or.inr rfl, ⟨Or.inr rfl, ⟨Or.inr rfl, ⟨Or.inr rfl, ⟨Or.inr rfl, ⟨Or.inr rfl, trivial⟩⟩⟩⟩⟩⟩⟩ H
set_option maxRecDepth 4000 in
theorem v_X11_joins_27 {G : KG} {S0 : KSh} (hL : kLay S0) {d : Nat} {P : Option AV → KMem → Prop} {c : KMem} {x1 x2 x3 x4 x5 : Int} (r1 : -2147483648 ≤ x1 ∧ x1 < 2147483648) (r2 : -2147483648 ≤ x2 ∧ x2 < 2147483648) (r3 : -2147483648 ≤ x3 ∧ x3 < 2147483648) (r4 : -2147483648 ≤ x4 ∧ x4 < 2147483648) (r5 : 0 ≤ x5 ∧ x5 < 2147483648) (hp : 0 ≤ x2 ∧ x2 < 100 ∧ 0 ≤ x3 ∧ x3 < 100 ∧ 0 ≤ x4 ∧ x4 < 100 ∧ 0 ≤ x5) (H : (16 ≤ x5 → (kW2 G S0 kM_X11_joins (d + 1) 133 [some (kA 558), none, none, none, some (kI x4), some (kI 0), none] [] c P)) ∧ (x5 < 16 → (kW2 G S0 kM_X11_joins (d + 1) 37 [some (kA 558), some (kI x1), some (kI x2), some (kI x3), some (kI x4), some (kI x5), some (kI 0)] [] c P))) : kW2 G S0 kM_X11_joins (d + 1) 27 [some (kA 558), some (kI x1), some (kI x2), some (kI x3), some (kI x4), some (kI x5), none] [] c P := by
  refine kw_iload dX11_joins_27 rfl ?_
  refine kw_bipush dX11_joins_29 (by decide) ?_
  refine kw_icmp_ge 130 dX11_joins_31 (by decide) (k32i (by omega)) (k32i (by omega)) (fun h2 => ?_) (fun h2 => ?_)
  · have H := H.1 h2
    refine kw_iconst dX11_joins_130 ?_
    refine kw_istore dX11_joins_131 (Nat.le_of_ble_eq_true rfl) ?_
    exact kw_forget (ls' := [some (kA 558), none, none, none, some (kI x4), some (kI 0), none]) ⟨Or.inr rfl, ⟨Or.inl rfl, ⟨Or.inl rfl, ⟨Or.inl rfl, ⟨Or.inr rfl, ⟨Or.inr rfl, ⟨Or.inr rfl, trivial⟩⟩⟩⟩⟩⟩⟩ H
  · have H := H.2 h2
    refine kw_iconst dX11_joins_34 ?_
    refine kw_istore dX11_joins_35 (Nat.le_of_ble_eq_true rfl) ?_
    exact kw_forget (ls' := [some (kA 558), some (kI x1), some (kI x2), some (kI x3), some (kI x4), some (kI x5), some (kI 0)]) ⟨Or.inr rfl, ⟨Or.inr rfl, ⟨Or.inr rfl, ⟨Or.inr rfl, ⟨Or.inr rfl, ⟨Or.inr rfl, ⟨Or.inr rfl, trivial⟩⟩⟩⟩⟩⟩⟩ H
set_option maxRecDepth 4000 in
theorem v_X11_joins_133 {G : KG} {S0 : KSh} (hL : kLay S0) {d : Nat} {P : Option AV → KMem → Prop} {c : KMem} {x4 x5 : Int} (r4 : -2147483648 ≤ x4 ∧ x4 < 2147483648) (r5 : 0 ≤ x5 ∧ x5 < 2147483648) (hp : 0 ≤ x4 ∧ x4 < 100 ∧ 0 ≤ x5) (H : (16 ≤ x5 → (P none c)) ∧ (x5 < 16 → (kW2 G S0 kM_X11_joins (d + 1) 133 [some (kA 558), none, none, none, some (kI x4), some (kI (x5 + 1)), none] [] (kup c 559 ((16 * x4) + x5) (c 560 x5)) P))) : kW2 G S0 kM_X11_joins (d + 1) 133 [some (kA 558), none, none, none, some (kI x4), some (kI x5), none] [] c P := by
  refine kw_iload dX11_joins_133 rfl ?_
  refine kw_bipush dX11_joins_135 (by decide) ?_
  refine kw_icmp_ge 161 dX11_joins_137 (by decide) (k32i (by omega)) (k32i (by omega)) (fun h3 => ?_) (fun h3 => ?_)
  · have H := H.1 h3
    refine k2_ret dX11_joins_161 rfl H
  · have H := H.2 h3
    refine kw_aload_n dX11_joins_140 rfl ?_
    refine kw_iload dX11_joins_141 rfl ?_
    refine kw_iload dX11_joins_143 rfl ?_
    refine kw_aload_n dX11_joins_145 rfl ?_
    refine k2_getR fd_X11_1 dX11_joins_146 wf_X11_13 (lsh_558 hL) (lrf_558_1 hL) ?_
    refine kw_iload dX11_joins_149 rfl ?_
    refine k2_lald dX11_joins_151 (lsh_560 hL) (by omega) (by omega) ?_
    refine k2_callV3N (ci := 9) (N := 38) (T := TX11) rfl (lsh_558 hL) m_X11_sets dX11_joins_152 wl_X11_92 (Nat.le_of_ble_eq_true rfl) (s_X11_sets hL (k32i (by omega)) (k32i (by omega)) (by omega) ⟨rfl, ?_⟩)
    refine kw_iinc dX11_joins_155 rfl ?_
    refine kw_goto 133 dX11_joins_158 (by decide) ?_
    exact kw_forget (ls' := [some (kA 558), none, none, none, some (kI x4), some (kI (x5 + 1)), none]) ⟨Or.inr rfl, ⟨Or.inr rfl, ⟨Or.inr rfl, ⟨Or.inr rfl, ⟨Or.inr rfl, ⟨Or.inr rfl, ⟨Or.inr rfl, trivial⟩⟩⟩⟩⟩⟩⟩ H
set_option maxRecDepth 4000 in
theorem v_X11_joins_37 {G : KG} {S0 : KSh} (hL : kLay S0) {d : Nat} {P : Option AV → KMem → Prop} {c : KMem} {x1 x2 x3 x4 x5 x6 : Int} (r1 : -2147483648 ≤ x1 ∧ x1 < 2147483648) (r2 : -2147483648 ≤ x2 ∧ x2 < 2147483648) (r3 : -2147483648 ≤ x3 ∧ x3 < 2147483648) (r4 : -2147483648 ≤ x4 ∧ x4 < 2147483648) (r5 : 0 ≤ x5 ∧ x5 < 2147483648) (r6 : 0 ≤ x6 ∧ x6 < 2147483648) (hp : 0 ≤ x2 ∧ x2 < 100 ∧ 0 ≤ x3 ∧ x3 < 100 ∧ 0 ≤ x4 ∧ x4 < 100 ∧ 0 ≤ x5 ∧ x5 < 16 ∧ 0 ≤ x6) (H : (16 ≤ x6 → (kW2 G S0 kM_X11_joins (d + 1) 27 [some (kA 558), some (kI x1), some (kI x2), some (kI x3), some (kI x4), some (kI (x5 + 1)), none] [] c P)) ∧ (x6 < 16 → ((k64 (c 559 ((16 * x2) + x5))) ∧ (((c 559 ((16 * x2) + x5)) = 0 → (kW2 G S0 kM_X11_joins (d + 1) 27 [some (kA 558), some (kI x1), some (kI x2), some (kI x3), some (kI x4), some (kI (x5 + 1)), none] [] c P)) ∧ ((c 559 ((16 * x2) + x5)) ≠ 0 → (((kcb x1 x5 x6 = true) → ((0 ≤ (kxor x5 x6) ∧ (kxor x5 x6) < 16) ∧ ((k32 (c 568 ((16 * x5) + x6))) ∧ (kW2 G S0 kM_X11_joins (d + 1) 37 [some (kA 558), some (kI x1), some (kI x2), some (kI x3), some (kI x4), some (kI x5), some (kI (x6 + 1))] [] (kup c 560 (kxor x5 x6) ((c 560 (kxor x5 x6)) + (((c 568 ((16 * x5) + x6)) * (c 559 ((16 * x2) + x5))) * (c 559 ((16 * x3) + x6))))) P)))) ∧ (¬ (kcb x1 x5 x6 = true) → (kW2 G S0 kM_X11_joins (d + 1) 37 [some (kA 558), some (kI x1), some (kI x2), some (kI x3), some (kI x4), some (kI x5), some (kI (x6 + 1))] [] c P)))))))) : kW2 G S0 kM_X11_joins (d + 1) 37 [some (kA 558), some (kI x1), some (kI x2), some (kI x3), some (kI x4), some (kI x5), some (kI x6)] [] c P := by
  refine kw_iload dX11_joins_37 rfl ?_
  refine kw_bipush dX11_joins_39 (by decide) ?_
  refine kw_icmp_ge 124 dX11_joins_41 (by decide) (k32i (by omega)) (k32i (by omega)) (fun h4 => ?_) (fun h4 => ?_)
  · have H := H.1 h4
    refine kw_iinc dX11_joins_124 rfl ?_
    refine kw_goto 27 dX11_joins_127 (by decide) ?_
    exact kw_forget (ls' := [some (kA 558), some (kI x1), some (kI x2), some (kI x3), some (kI x4), some (kI (x5 + 1)), none]) ⟨Or.inr rfl, ⟨Or.inr rfl, ⟨Or.inr rfl, ⟨Or.inr rfl, ⟨Or.inr rfl, ⟨Or.inr rfl, ⟨Or.inl rfl, trivial⟩⟩⟩⟩⟩⟩⟩ H
  · have H := H.2 h4
    refine kw_aload_n dX11_joins_44 rfl ?_
    refine kw_iload_n dX11_joins_45 rfl ?_
    refine kw_iload dX11_joins_46 rfl ?_
    refine k2_callV2L (ci := 9) (N := 38) (T := TX11) rfl (lsh_558 hL) m_X11_at dX11_joins_48 wl_X11_84 (Nat.le_of_ble_eq_true rfl) (s_X11_at hL (k32i (by omega)) (k32i (by omega)) (by omega) ⟨_, rfl, ?_⟩)
    refine kw_lconst0 dX11_joins_51 ?_
    have o5 := H.1
    have H := H.2
    refine kw_lcmp_eq 124 dX11_joins_52 dX11_joins_53 (by decide) o5 (k64i (by omega)) (fun h6 => ?_) (fun h6 => ?_)
    · have H := H.1 h6
      refine kw_iinc dX11_joins_124 rfl ?_
      refine kw_goto 27 dX11_joins_127 (by decide) ?_
      exact kw_forget (ls' := [some (kA 558), some (kI x1), some (kI x2), some (kI x3), some (kI x4), some (kI (x5 + 1)), none]) ⟨Or.inr rfl, ⟨Or.inr rfl, ⟨Or.inr rfl, ⟨Or.inr rfl, ⟨Or.inr rfl, ⟨Or.inr rfl, ⟨Or.inl rfl, trivial⟩⟩⟩⟩⟩⟩⟩ H
    · have H := H.2 h6
      refine kw_iload_n dX11_joins_56 rfl ?_
      refine kw_iload dX11_joins_57 rfl ?_
      refine kw_iload dX11_joins_59 rfl ?_
      refine k2_callS3I m_X11_passes dX11_joins_61 wl_X11_88 (Nat.le_of_ble_eq_true rfl) (s_X11_passes hL (k32i (by omega)) (k32i (by omega)) (k32i (by omega)) (fun h7 => ⟨_, rfl, ?_⟩) (fun h7 => ⟨_, rfl, ?_⟩))
      · have H := H.1 h7
        refine kw_if_eq 118 dX11_joins_64 (by decide) (k32i (by omega)) (fun h8 => absurd h8 (by decide)) (fun _ => ?_)
        refine kw_aload_n dX11_joins_67 rfl ?_
        refine k2_getR fd_X11_1 dX11_joins_68 wf_X11_13 (lsh_558 hL) (lrf_558_1 hL) ?_
        refine kw_iload dX11_joins_71 rfl ?_
        refine kw_iload dX11_joins_73 rfl ?_
        refine kw_ixor dX11_joins_75 ?_
        refine kw_aload_n dX11_joins_76 rfl ?_
        refine k2_getR fd_X11_1 dX11_joins_77 wf_X11_13 (lsh_558 hL) (lrf_558_1 hL) ?_
        refine kw_iload dX11_joins_80 rfl ?_
        refine kw_iload dX11_joins_82 rfl ?_
        refine kw_ixor dX11_joins_84 ?_
        have o9 := H.1
        have H := H.2
        refine k2_lald dX11_joins_85 (lsh_560 hL) (by omega) o9 ?_
        refine kw_aload_n dX11_joins_86 rfl ?_
        refine k2_getR fd_X11_9 dX11_joins_87 wf_X11_38 (lsh_558 hL) (lrf_558_9 hL) ?_
        refine kw_bipush dX11_joins_90 (by decide) ?_
        refine kw_iload dX11_joins_92 rfl ?_
        refine kw_imul dX11_joins_94 ?_
        refine kw_iload dX11_joins_95 rfl ?_
        refine kw_iadd dX11_joins_97 ?_
        refine k2_iald dX11_joins_98 (lsh_568 hL) (by omega) (by omega) ?_
        have o10 := H.1
        have H := H.2
        refine kw_i2l dX11_joins_99 o10 ?_
        refine kw_aload_n dX11_joins_100 rfl ?_
        refine kw_iload_n dX11_joins_101 rfl ?_
        refine kw_iload dX11_joins_102 rfl ?_
        refine k2_callV2L (ci := 9) (N := 38) (T := TX11) rfl (lsh_558 hL) m_X11_at dX11_joins_104 wl_X11_84 (Nat.le_of_ble_eq_true rfl) (s_X11_at hL (k32i (by omega)) (k32i (by omega)) (by omega) ⟨_, rfl, ?_⟩)
        refine kw_lmul dX11_joins_107 ?_
        refine kw_aload_n dX11_joins_108 rfl ?_
        refine kw_iload_n dX11_joins_109 rfl ?_
        refine kw_iload dX11_joins_110 rfl ?_
        refine k2_callV2L (ci := 9) (N := 38) (T := TX11) rfl (lsh_558 hL) m_X11_at dX11_joins_112 wl_X11_84 (Nat.le_of_ble_eq_true rfl) (s_X11_at hL (k32i (by omega)) (k32i (by omega)) (by omega) ⟨_, rfl, ?_⟩)
        refine kw_lmul dX11_joins_115 ?_
        refine kw_ladd dX11_joins_116 ?_
        refine k2_last dX11_joins_117 (lsh_560 hL) (by omega) o9 ?_
        refine kw_iinc dX11_joins_118 rfl ?_
        refine kw_goto 37 dX11_joins_121 (by decide) ?_
        exact kw_forget (ls' := [some (kA 558), some (kI x1), some (kI x2), some (kI x3), some (kI x4), some (kI x5), some (kI (x6 + 1))]) ⟨Or.inr rfl, ⟨Or.inr rfl, ⟨Or.inr rfl, ⟨Or.inr rfl, ⟨Or.inr rfl, ⟨Or.inr rfl, ⟨Or.inr rfl, trivial⟩⟩⟩⟩⟩⟩⟩ H
      · have H := H.2 h7
        refine kw_if_eq 118 dX11_joins_64 (by decide) (k32i (by omega)) (fun _ => ?_) (fun h11 => absurd h11 (by decide))
        refine kw_iinc dX11_joins_118 rfl ?_
        refine kw_goto 37 dX11_joins_121 (by decide) ?_
        exact kw_forget (ls' := [some (kA 558), some (kI x1), some (kI x2), some (kI x3), some (kI x4), some (kI x5), some (kI (x6 + 1))]) ⟨Or.inr rfl, ⟨Or.inr rfl, ⟨Or.inr rfl, ⟨Or.inr rfl, ⟨Or.inr rfl, ⟨Or.inr rfl, ⟨Or.inr rfl, trivial⟩⟩⟩⟩⟩⟩⟩ H
set_option maxRecDepth 4000 in
theorem v_X11_isNothing {G : KG} {S0 : KSh} (hL : kLay S0) {d : Nat} {P : Option AV → KMem → Prop} {c : KMem} {x1 : Int} (r1 : -2147483648 ≤ x1 ∧ x1 < 2147483648) (H : kW2 G S0 kM_X11_isNothing (d + 1) 2 [some (kA 558), some (kI x1), some (kI 0)] [] c P) : kC2 G S0 kM_X11_isNothing (d + 1) [kA 558, kI x1] c P := by
  refine k2_met (by decide) rfl (Nat.le_of_ble_eq_true rfl) (l0 := [some (kA 558), some (kI x1), none]) rfl ?_
  refine kw_iconst dX11_isNothing_0 ?_
  refine kw_istore_n dX11_isNothing_1 (Nat.le_of_ble_eq_true rfl) ?_
  exact kw_forget (ls' := [some (kA 558), some (kI x1), some (kI 0)]) ⟨Or.inr rfl, ⟨Or.inr rfl, ⟨Or.inr rfl, trivial⟩⟩⟩ H
set_option maxRecDepth 4000 in
theorem v_X11_isNothing_2 {G : KG} {S0 : KSh} (hL : kLay S0) {d : Nat} {P : Option AV → KMem → Prop} {c : KMem} {x1 x2 : Int} (r1 : -2147483648 ≤ x1 ∧ x1 < 2147483648) (r2 : 0 ≤ x2 ∧ x2 < 2147483648) (hp : 0 ≤ x1 ∧ x1 < 100 ∧ 0 ≤ x2) (H : (16 ≤ x2 → (P (some (kI 1)) c)) ∧ (x2 < 16 → ((k64 (c 559 ((16 * x1) + x2))) ∧ (((c 559 ((16 * x1) + x2)) = 0 → (kW2 G S0 kM_X11_isNothing (d + 1) 2 [some (kA 558), some (kI x1), some (kI (x2 + 1))] [] c P)) ∧ ((c 559 ((16 * x1) + x2)) ≠ 0 → (P (some (kI 0)) c)))))) : kW2 G S0 kM_X11_isNothing (d + 1) 2 [some (kA 558), some (kI x1), some (kI x2)] [] c P := by
  refine kw_iload_n dX11_isNothing_2 rfl ?_
  refine kw_bipush dX11_isNothing_3 (by decide) ?_
  refine kw_icmp_ge 27 dX11_isNothing_5 (by decide) (k32i (by omega)) (k32i (by omega)) (fun h1 => ?_) (fun h1 => ?_)
  · have H := H.1 h1
    refine kw_iconst dX11_isNothing_27 ?_
    refine k2_zret dX11_isNothing_28 rfl (Or.inr rfl) H
  · have H := H.2 h1
    refine kw_aload_n dX11_isNothing_8 rfl ?_
    refine kw_iload_n dX11_isNothing_9 rfl ?_
    refine kw_iload_n dX11_isNothing_10 rfl ?_
    refine k2_callV2L (ci := 9) (N := 38) (T := TX11) rfl (lsh_558 hL) m_X11_at dX11_isNothing_11 wl_X11_84 (Nat.le_of_ble_eq_true rfl) (s_X11_at hL (k32i (by omega)) (k32i (by omega)) (by omega) ⟨_, rfl, ?_⟩)
    refine kw_lconst0 dX11_isNothing_14 ?_
    have o2 := H.1
    have H := H.2
    refine kw_lcmp_eq 21 dX11_isNothing_15 dX11_isNothing_16 (by decide) o2 (k64i (by omega)) (fun h3 => ?_) (fun h3 => ?_)
    · have H := H.1 h3
      refine kw_iinc dX11_isNothing_21 rfl ?_
      refine kw_goto 2 dX11_isNothing_24 (by decide) ?_
      exact kw_forget (ls' := [some (kA 558), some (kI x1), some (kI (x2 + 1))]) ⟨Or.inr rfl, ⟨Or.inr rfl, ⟨Or.inr rfl, trivial⟩⟩⟩ H
    · have H := H.2 h3
      refine kw_iconst dX11_isNothing_19 ?_
      refine k2_zret dX11_isNothing_20 rfl (Or.inl rfl) H
set_option maxRecDepth 4000 in
theorem v_X11_isWithin {G : KG} {S0 : KSh} (hL : kLay S0) {d : Nat} {P : Option AV → KMem → Prop} {c : KMem} {x1 : Int} (r1 : -2147483648 ≤ x1 ∧ x1 < 2147483648) (H : kW2 G S0 kM_X11_isWithin (d + 1) 2 [some (kA 558), some (kI x1), some (kI 0)] [] c P) : kC2 G S0 kM_X11_isWithin (d + 1) [kA 558, kI x1] c P := by
  refine k2_met (by decide) rfl (Nat.le_of_ble_eq_true rfl) (l0 := [some (kA 558), some (kI x1), none]) rfl ?_
  refine kw_iconst dX11_isWithin_0 ?_
  refine kw_istore_n dX11_isWithin_1 (Nat.le_of_ble_eq_true rfl) ?_
  exact kw_forget (ls' := [some (kA 558), some (kI x1), some (kI 0)]) ⟨Or.inr rfl, ⟨Or.inr rfl, ⟨Or.inr rfl, trivial⟩⟩⟩ H
set_option maxRecDepth 4000 in
theorem v_X11_isWithin_2 {G : KG} {S0 : KSh} (hL : kLay S0) {d : Nat} {P : Option AV → KMem → Prop} {c : KMem} {x1 x2 : Int} (r1 : -2147483648 ≤ x1 ∧ x1 < 2147483648) (r2 : 0 ≤ x2 ∧ x2 < 2147483648) (hp : 0 ≤ x1 ∧ x1 < 100 ∧ 0 ≤ x2) (H : (16 ≤ x2 → (P (some (kI 1)) c)) ∧ (x2 < 16 → ((k64 (c 559 ((16 * x1) + x2))) ∧ ((k64 ((Int.natAbs (c 559 ((16 * x1) + x2)) : Nat) : Int)) ∧ ((((Int.natAbs (c 559 ((16 * x1) + x2)) : Nat) : Int) ≤ 100000000 → (kW2 G S0 kM_X11_isWithin (d + 1) 2 [some (kA 558), some (kI x1), some (kI (x2 + 1))] [] c P)) ∧ (100000000 < ((Int.natAbs (c 559 ((16 * x1) + x2)) : Nat) : Int) → (P (some (kI 0)) c))))))) : kW2 G S0 kM_X11_isWithin (d + 1) 2 [some (kA 558), some (kI x1), some (kI x2)] [] c P := by
  refine kw_iload_n dX11_isWithin_2 rfl ?_
  refine kw_bipush dX11_isWithin_3 (by decide) ?_
  refine kw_icmp_ge 32 dX11_isWithin_5 (by decide) (k32i (by omega)) (k32i (by omega)) (fun h1 => ?_) (fun h1 => ?_)
  · have H := H.1 h1
    refine kw_iconst dX11_isWithin_32 ?_
    refine k2_zret dX11_isWithin_33 rfl (Or.inr rfl) H
  · have H := H.2 h1
    refine kw_aload_n dX11_isWithin_8 rfl ?_
    refine kw_iload_n dX11_isWithin_9 rfl ?_
    refine kw_iload_n dX11_isWithin_10 rfl ?_
    refine k2_callV2L (ci := 9) (N := 38) (T := TX11) rfl (lsh_558 hL) m_X11_at dX11_isWithin_11 wl_X11_84 (Nat.le_of_ble_eq_true rfl) (s_X11_at hL (k32i (by omega)) (k32i (by omega)) (by omega) ⟨_, rfl, ?_⟩)
    have o2 := H.1
    have H := H.2
    refine k2_callS1L m_X11_size dX11_isWithin_14 wl_X11_72 (Nat.le_of_ble_eq_true rfl) (s_X11_size hL o2 ⟨_, rfl, ?_⟩)
    refine kw_ldc2 dX11_isWithin_17 wk_X11_103 ?_
    have o3 := H.1
    have H := H.2
    refine kw_lcmp_le 26 dX11_isWithin_20 dX11_isWithin_21 (by decide) o3 (k64i (by omega)) (fun h4 => ?_) (fun h4 => ?_)
    · have H := H.1 h4
      refine kw_iinc dX11_isWithin_26 rfl ?_
      refine kw_goto 2 dX11_isWithin_29 (by decide) ?_
      exact kw_forget (ls' := [some (kA 558), some (kI x1), some (kI (x2 + 1))]) ⟨Or.inr rfl, ⟨Or.inr rfl, ⟨Or.inr rfl, trivial⟩⟩⟩ H
    · have H := H.2 h4
      refine kw_iconst dX11_isWithin_24 ?_
      refine k2_zret dX11_isWithin_25 rfl (Or.inl rfl) H
set_option maxRecDepth 4000 in
theorem v_X11_reverses {G : KG} {S0 : KSh} (hL : kLay S0) {d : Nat} {P : Option AV → KMem → Prop} {c : KMem} {x1 : Int} (r1 : -2147483648 ≤ x1 ∧ x1 < 2147483648) (H : kW2 G S0 kM_X11_reverses (d + 1) 2 [some (kA 558), some (kI x1), some (kI 0)] [] c P) : kC2 G S0 kM_X11_reverses (d + 1) [kA 558, kI x1] c P := by
  refine k2_met (by decide) rfl (Nat.le_of_ble_eq_true rfl) (l0 := [some (kA 558), some (kI x1), none]) rfl ?_
  refine kw_iconst dX11_reverses_0 ?_
  refine kw_istore_n dX11_reverses_1 (Nat.le_of_ble_eq_true rfl) ?_
  exact kw_forget (ls' := [some (kA 558), some (kI x1), some (kI 0)]) ⟨Or.inr rfl, ⟨Or.inr rfl, ⟨Or.inr rfl, trivial⟩⟩⟩ H
set_option maxRecDepth 4000 in
theorem v_X11_reverses_2 {G : KG} {S0 : KSh} (hL : kLay S0) {d : Nat} {P : Option AV → KMem → Prop} {c : KMem} {x1 x2 : Int} (r1 : -2147483648 ≤ x1 ∧ x1 < 2147483648) (r2 : 0 ≤ x2 ∧ x2 < 2147483648) (hp : 0 ≤ x1 ∧ x1 < 100 ∧ 0 ≤ x2) (H : (16 ≤ x2 → (P none c)) ∧ (x2 < 16 → (((2 ≤ (kpop (Int.toNat x2) : Int) ∧ (kpop (Int.toNat x2) : Int) ≤ 3) → (kW2 G S0 kM_X11_reverses (d + 1) 2 [some (kA 558), some (kI x1), some (kI (x2 + 1))] [] (kup c 559 ((16 * x1) + x2) (-(c 559 ((16 * x1) + x2)))) P)) ∧ (¬ (2 ≤ (kpop (Int.toNat x2) : Int) ∧ (kpop (Int.toNat x2) : Int) ≤ 3) → (kW2 G S0 kM_X11_reverses (d + 1) 2 [some (kA 558), some (kI x1), some (kI (x2 + 1))] [] c P))))) : kW2 G S0 kM_X11_reverses (d + 1) 2 [some (kA 558), some (kI x1), some (kI x2)] [] c P := by
  refine kw_iload_n dX11_reverses_2 rfl ?_
  refine kw_bipush dX11_reverses_3 (by decide) ?_
  refine kw_icmp_ge 39 dX11_reverses_5 (by decide) (k32i (by omega)) (k32i (by omega)) (fun h1 => ?_) (fun h1 => ?_)
  · have H := H.1 h1
    refine k2_ret dX11_reverses_39 rfl H
  · have H := H.2 h1
    refine kw_iload_n dX11_reverses_8 rfl ?_
    refine k2_callS1I m_X11_sizeOf dX11_reverses_9 wl_X11_96 (Nat.le_of_ble_eq_true rfl) (s_X11_sizeOf hL (by omega) ⟨_, rfl, ?_⟩)
    refine kw_iconst dX11_reverses_12 ?_
    refine kw_iconst dX11_reverses_13 ?_
    refine k2_callS3I m_X11_in dX11_reverses_14 wl_X11_100 (Nat.le_of_ble_eq_true rfl) (s_X11_in hL (k32_pop _) (k32i (by omega)) (k32i (by omega)) (fun h2 => ⟨_, rfl, ?_⟩) (fun h2 => ⟨_, rfl, ?_⟩))
    · have H := H.1 h2
      refine kw_if_eq 33 dX11_reverses_17 (by decide) (k32i (by omega)) (fun h3 => absurd h3 (by decide)) (fun _ => ?_)
      refine kw_aload_n dX11_reverses_20 rfl ?_
      refine kw_iload_n dX11_reverses_21 rfl ?_
      refine kw_iload_n dX11_reverses_22 rfl ?_
      refine kw_aload_n dX11_reverses_23 rfl ?_
      refine kw_iload_n dX11_reverses_24 rfl ?_
      refine kw_iload_n dX11_reverses_25 rfl ?_
      refine k2_callV2L (ci := 9) (N := 38) (T := TX11) rfl (lsh_558 hL) m_X11_at dX11_reverses_26 wl_X11_84 (Nat.le_of_ble_eq_true rfl) (s_X11_at hL (k32i (by omega)) (k32i (by omega)) (by omega) ⟨_, rfl, ?_⟩)
      refine kw_lneg dX11_reverses_29 ?_
      refine k2_callV3N (ci := 9) (N := 38) (T := TX11) rfl (lsh_558 hL) m_X11_sets dX11_reverses_30 wl_X11_92 (Nat.le_of_ble_eq_true rfl) (s_X11_sets hL (k32i (by omega)) (k32i (by omega)) (by omega) ⟨rfl, ?_⟩)
      refine kw_iinc dX11_reverses_33 rfl ?_
      refine kw_goto 2 dX11_reverses_36 (by decide) ?_
      exact kw_forget (ls' := [some (kA 558), some (kI x1), some (kI (x2 + 1))]) ⟨Or.inr rfl, ⟨Or.inr rfl, ⟨Or.inr rfl, trivial⟩⟩⟩ H
    · have H := H.2 h2
      refine kw_if_eq 33 dX11_reverses_17 (by decide) (k32i (by omega)) (fun _ => ?_) (fun h4 => absurd h4 (by decide))
      refine kw_iinc dX11_reverses_33 rfl ?_
      refine kw_goto 2 dX11_reverses_36 (by decide) ?_
      exact kw_forget (ls' := [some (kA 558), some (kI x1), some (kI (x2 + 1))]) ⟨Or.inr rfl, ⟨Or.inr rfl, ⟨Or.inr rfl, trivial⟩⟩⟩ H
set_option maxRecDepth 4000 in
theorem v_X11_turnsWhole {G : KG} {S0 : KSh} (hL : kLay S0) {d : Nat} {P : Option AV → KMem → Prop} {c : KMem} {x1 x2 : Int} (r1 : -2147483648 ≤ x1 ∧ x1 < 2147483648) (r2 : -2147483648 ≤ x2 ∧ x2 < 2147483648) (H : kW2 G S0 kM_X11_turnsWhole (d + 1) 2 [some (kA 558), some (kI x1), some (kI x2), some (kI 0)] [] c P) : kC2 G S0 kM_X11_turnsWhole (d + 1) [kA 558, kI x1, kI x2] c P := by
  refine k2_met (by decide) rfl (Nat.le_of_ble_eq_true rfl) (l0 := [some (kA 558), some (kI x1), some (kI x2), none]) rfl ?_
  refine kw_iconst dX11_turnsWhole_0 ?_
  refine kw_istore_n dX11_turnsWhole_1 (Nat.le_of_ble_eq_true rfl) ?_
  exact kw_forget (ls' := [some (kA 558), some (kI x1), some (kI x2), some (kI 0)]) ⟨Or.inr rfl, ⟨Or.inr rfl, ⟨Or.inr rfl, ⟨Or.inr rfl, trivial⟩⟩⟩⟩ H
set_option maxRecDepth 4000 in
theorem v_X11_turnsWhole_2 {G : KG} {S0 : KSh} (hL : kLay S0) {d : Nat} {P : Option AV → KMem → Prop} {c : KMem} {x1 x2 x3 : Int} (r1 : -2147483648 ≤ x1 ∧ x1 < 2147483648) (r2 : -2147483648 ≤ x2 ∧ x2 < 2147483648) (r3 : 0 ≤ x3 ∧ x3 < 2147483648) (hp : 0 ≤ x1 ∧ x1 < 100 ∧ 0 ≤ x3 ∧ (x2 = 0 ∨ x2 = 1)) (H : (16 ≤ x3 → (kW2 G S0 kM_X11_turnsWhole (d + 1) 55 [some (kA 558), some (kI x1), none, some (kI 0)] [] c P)) ∧ (x3 < 16 → ((x2 = 0 → ((k32 (1 * (c 568 ((16 * x3) + 15)))) ∧ ((0 ≤ (kxor 15 x3) ∧ (kxor 15 x3) < 16) ∧ (kW2 G S0 kM_X11_turnsWhole (d + 1) 2 [some (kA 558), some (kI x1), some (kI x2), some (kI (x3 + 1))] [] (kup c 560 (kxor 15 x3) ((1 * (c 568 ((16 * x3) + 15))) * (c 559 ((16 * x1) + x3)))) P)))) ∧ (x2 ≠ 0 → ((k32 ((-1) * (c 568 ((16 * x3) + 15)))) ∧ ((0 ≤ (kxor 15 x3) ∧ (kxor 15 x3) < 16) ∧ (kW2 G S0 kM_X11_turnsWhole (d + 1) 2 [some (kA 558), some (kI x1), some (kI x2), some (kI (x3 + 1))] [] (kup c 560 (kxor 15 x3) (((-1) * (c 568 ((16 * x3) + 15))) * (c 559 ((16 * x1) + x3)))) P))))))) : kW2 G S0 kM_X11_turnsWhole (d + 1) 2 [some (kA 558), some (kI x1), some (kI x2), some (kI x3)] [] c P := by
  refine kw_iload_n dX11_turnsWhole_2 rfl ?_
  refine kw_bipush dX11_turnsWhole_3 (by decide) ?_
  refine kw_icmp_ge 53 dX11_turnsWhole_5 (by decide) (k32i (by omega)) (k32i (by omega)) (fun h1 => ?_) (fun h1 => ?_)
  · have H := H.1 h1
    refine kw_iconst dX11_turnsWhole_53 ?_
    refine kw_istore_n dX11_turnsWhole_54 (Nat.le_of_ble_eq_true rfl) ?_
    exact kw_forget (ls' := [some (kA 558), some (kI x1), none, some (kI 0)]) ⟨Or.inr rfl, ⟨Or.inr rfl, ⟨Or.inl rfl, ⟨Or.inr rfl, trivial⟩⟩⟩⟩ H
  · have H := H.2 h1
    refine kw_aload_n dX11_turnsWhole_8 rfl ?_
    refine k2_getR fd_X11_1 dX11_turnsWhole_9 wf_X11_13 (lsh_558 hL) (lrf_558_1 hL) ?_
    refine kw_bipush dX11_turnsWhole_12 (by decide) ?_
    refine kw_iload_n dX11_turnsWhole_14 rfl ?_
    refine kw_ixor dX11_turnsWhole_15 ?_
    refine kw_iload_n dX11_turnsWhole_16 rfl ?_
    refine kw_if_eq 24 dX11_turnsWhole_17 (by decide) (k32i (by omega)) (fun h2 => ?_) (fun h2 => ?_)
    · have H := H.1 h2
      refine kw_iconst dX11_turnsWhole_24 ?_
      refine kw_aload_n dX11_turnsWhole_25 rfl ?_
      refine k2_getR fd_X11_9 dX11_turnsWhole_26 wf_X11_38 (lsh_558 hL) (lrf_558_9 hL) ?_
      refine kw_bipush dX11_turnsWhole_29 (by decide) ?_
      refine kw_iload_n dX11_turnsWhole_31 rfl ?_
      refine kw_imul dX11_turnsWhole_32 ?_
      refine kw_bipush dX11_turnsWhole_33 (by decide) ?_
      refine kw_iadd dX11_turnsWhole_35 ?_
      refine k2_iald dX11_turnsWhole_36 (lsh_568 hL) (by omega) (by omega) ?_
      refine kw_imul dX11_turnsWhole_37 ?_
      have o3 := H.1
      have H := H.2
      refine kw_i2l dX11_turnsWhole_38 o3 ?_
      refine kw_aload_n dX11_turnsWhole_39 rfl ?_
      refine kw_iload_n dX11_turnsWhole_40 rfl ?_
      refine kw_iload_n dX11_turnsWhole_41 rfl ?_
      refine k2_callV2L (ci := 9) (N := 38) (T := TX11) rfl (lsh_558 hL) m_X11_at dX11_turnsWhole_42 wl_X11_84 (Nat.le_of_ble_eq_true rfl) (s_X11_at hL (k32i (by omega)) (k32i (by omega)) (by omega) ⟨_, rfl, ?_⟩)
      refine kw_lmul dX11_turnsWhole_45 ?_
      have o4 := H.1
      have H := H.2
      refine k2_last dX11_turnsWhole_46 (lsh_560 hL) (by omega) o4 ?_
      refine kw_iinc dX11_turnsWhole_47 rfl ?_
      refine kw_goto 2 dX11_turnsWhole_50 (by decide) ?_
      exact kw_forget (ls' := [some (kA 558), some (kI x1), some (kI x2), some (kI (x3 + 1))]) ⟨Or.inr rfl, ⟨Or.inr rfl, ⟨Or.inr rfl, ⟨Or.inr rfl, trivial⟩⟩⟩⟩ H
    · have H := H.2 h2
      refine kw_iconst dX11_turnsWhole_20 ?_
      refine kw_goto 25 dX11_turnsWhole_21 (by decide) ?_
      refine kw_aload_n dX11_turnsWhole_25 rfl ?_
      refine k2_getR fd_X11_9 dX11_turnsWhole_26 wf_X11_38 (lsh_558 hL) (lrf_558_9 hL) ?_
      refine kw_bipush dX11_turnsWhole_29 (by decide) ?_
      refine kw_iload_n dX11_turnsWhole_31 rfl ?_
      refine kw_imul dX11_turnsWhole_32 ?_
      refine kw_bipush dX11_turnsWhole_33 (by decide) ?_
      refine kw_iadd dX11_turnsWhole_35 ?_
      refine k2_iald dX11_turnsWhole_36 (lsh_568 hL) (by omega) (by omega) ?_
      refine kw_imul dX11_turnsWhole_37 ?_
      have o5 := H.1
      have H := H.2
      refine kw_i2l dX11_turnsWhole_38 o5 ?_
      refine kw_aload_n dX11_turnsWhole_39 rfl ?_
      refine kw_iload_n dX11_turnsWhole_40 rfl ?_
      refine kw_iload_n dX11_turnsWhole_41 rfl ?_
      refine k2_callV2L (ci := 9) (N := 38) (T := TX11) rfl (lsh_558 hL) m_X11_at dX11_turnsWhole_42 wl_X11_84 (Nat.le_of_ble_eq_true rfl) (s_X11_at hL (k32i (by omega)) (k32i (by omega)) (by omega) ⟨_, rfl, ?_⟩)
      refine kw_lmul dX11_turnsWhole_45 ?_
      have o6 := H.1
      have H := H.2
      refine k2_last dX11_turnsWhole_46 (lsh_560 hL) (by omega) o6 ?_
      refine kw_iinc dX11_turnsWhole_47 rfl ?_
      refine kw_goto 2 dX11_turnsWhole_50 (by decide) ?_
      exact kw_forget (ls' := [some (kA 558), some (kI x1), some (kI x2), some (kI (x3 + 1))]) ⟨Or.inr rfl, ⟨Or.inr rfl, ⟨Or.inr rfl, ⟨Or.inr rfl, trivial⟩⟩⟩⟩ H
set_option maxRecDepth 4000 in
theorem v_X11_turnsWhole_55 {G : KG} {S0 : KSh} (hL : kLay S0) {d : Nat} {P : Option AV → KMem → Prop} {c : KMem} {x1 x3 : Int} (r1 : -2147483648 ≤ x1 ∧ x1 < 2147483648) (r3 : 0 ≤ x3 ∧ x3 < 2147483648) (hp : 0 ≤ x1 ∧ x1 < 100 ∧ 0 ≤ x3) (H : (16 ≤ x3 → (P none c)) ∧ (x3 < 16 → (kW2 G S0 kM_X11_turnsWhole (d + 1) 55 [some (kA 558), some (kI x1), none, some (kI (x3 + 1))] [] (kup c 559 ((16 * x1) + x3) (c 560 x3)) P))) : kW2 G S0 kM_X11_turnsWhole (d + 1) 55 [some (kA 558), some (kI x1), none, some (kI x3)] [] c P := by
  refine kw_iload_n dX11_turnsWhole_55 rfl ?_
  refine kw_bipush dX11_turnsWhole_56 (by decide) ?_
  refine kw_icmp_ge 79 dX11_turnsWhole_58 (by decide) (k32i (by omega)) (k32i (by omega)) (fun h7 => ?_) (fun h7 => ?_)
  · have H := H.1 h7
    refine k2_ret dX11_turnsWhole_79 rfl H
  · have H := H.2 h7
    refine kw_aload_n dX11_turnsWhole_61 rfl ?_
    refine kw_iload_n dX11_turnsWhole_62 rfl ?_
    refine kw_iload_n dX11_turnsWhole_63 rfl ?_
    refine kw_aload_n dX11_turnsWhole_64 rfl ?_
    refine k2_getR fd_X11_1 dX11_turnsWhole_65 wf_X11_13 (lsh_558 hL) (lrf_558_1 hL) ?_
    refine kw_iload_n dX11_turnsWhole_68 rfl ?_
    refine k2_lald dX11_turnsWhole_69 (lsh_560 hL) (by omega) (by omega) ?_
    refine k2_callV3N (ci := 9) (N := 38) (T := TX11) rfl (lsh_558 hL) m_X11_sets dX11_turnsWhole_70 wl_X11_92 (Nat.le_of_ble_eq_true rfl) (s_X11_sets hL (k32i (by omega)) (k32i (by omega)) (by omega) ⟨rfl, ?_⟩)
    refine kw_iinc dX11_turnsWhole_73 rfl ?_
    refine kw_goto 55 dX11_turnsWhole_76 (by decide) ?_
    exact kw_forget (ls' := [some (kA 558), some (kI x1), none, some (kI (x3 + 1))]) ⟨Or.inr rfl, ⟨Or.inr rfl, ⟨Or.inr rfl, ⟨Or.inr rfl, trivial⟩⟩⟩⟩ H
set_option maxRecDepth 4000 in
theorem v_X11_normals {G : KG} {S0 : KSh} (hL : kLay S0) {d : Nat} {P : Option AV → KMem → Prop} {c : KMem} {x1 : Int} (r1 : -2147483648 ≤ x1 ∧ x1 < 2147483648) (H : kW2 G S0 kM_X11_normals (d + 2) 6 [some (kA 558), some (kI x1), some (kL 0), none, some (kI 15)] [] c P) : kC2 G S0 kM_X11_normals (d + 2) [kA 558, kI x1] c P := by
  refine k2_met (by decide) rfl (Nat.le_of_ble_eq_true rfl) (l0 := [some (kA 558), some (kI x1), none, none, none]) rfl ?_
  refine kw_lconst0 dX11_normals_0 ?_
  refine kw_lstore_n dX11_normals_1 (Nat.le_of_ble_eq_true rfl) ?_
  refine kw_bipush dX11_normals_2 (by decide) ?_
  refine kw_istore dX11_normals_4 (Nat.le_of_ble_eq_true rfl) ?_
  exact kw_forget (ls' := [some (kA 558), some (kI x1), some (kL 0), none, some (kI 15)]) ⟨Or.inr rfl, ⟨Or.inr rfl, ⟨Or.inr rfl, ⟨Or.inr rfl, ⟨Or.inr rfl, trivial⟩⟩⟩⟩⟩ H
set_option maxRecDepth 4000 in
theorem v_X11_normals_6 {G : KG} {S0 : KSh} (hL : kLay S0) {d : Nat} {P : Option AV → KMem → Prop} {c : KMem} {x1 x2 x4 : Int} (r1 : -2147483648 ≤ x1 ∧ x1 < 2147483648) (r4 : -2147483648 ≤ x4 ∧ x4 < 2147483648) (hp : 0 ≤ x1 ∧ x1 < 100 ∧ -1 ≤ x4 ∧ x4 < 16) (H : (x4 < 0 → ((k64 x2) ∧ ((x2 ≠ 0 → (kW2 G S0 kM_X11_normals (d + 2) 78 [some (kA 558), some (kI x1), some (kL x2), none, some (kI 0)] [] c P)) ∧ (x2 = 0 → (P none c))))) ∧ (0 ≤ x4 → ((k64 (c 559 ((16 * x1) + x4))) ∧ (((c 559 ((16 * x1) + x4)) = 0 → (kW2 G S0 kM_X11_normals (d + 2) 6 [some (kA 558), some (kI x1), some (kL x2), none, some (kI (x4 + -1))] [] c P)) ∧ ((c 559 ((16 * x1) + x4)) ≠ 0 → ((0 ≤ (c 559 ((16 * x1) + x4)) → (kC2 G S0 kM_X11_gcd (d + 1) [kL x2, kL (c 559 ((16 * x1) + x4))] c (kRL (fun z7 c8 => kW2 G S0 kM_X11_normals (d + 2) 6 [some (kA 558), some (kI x1), some (kL z7), none, some (kI (x4 + -1))] [] c8 P)))) ∧ ((c 559 ((16 * x1) + x4)) < 0 → (kC2 G S0 kM_X11_gcd (d + 1) [kL x2, kL (c 559 ((16 * x1) + x4))] c (kRL (fun z9 c10 => kW2 G S0 kM_X11_normals (d + 2) 6 [some (kA 558), some (kI x1), some (kL (-z9)), none, some (kI (x4 + -1))] [] c10 P)))))))))) : kW2 G S0 kM_X11_normals (d + 2) 6 [some (kA 558), some (kI x1), some (kL x2), none, some (kI x4)] [] c P := by
  refine kw_iload dX11_normals_6 rfl ?_
  refine kw_if_lt 68 dX11_normals_8 (by decide) (k32i (by omega)) (fun h1 => ?_) (fun h1 => ?_)
  · have H := H.1 h1
    refine kw_lload_n dX11_normals_68 rfl ?_
    refine kw_lconst0 dX11_normals_69 ?_
    have o2 := H.1
    have H := H.2
    refine kw_lcmp_ne 75 dX11_normals_70 dX11_normals_71 (by decide) o2 (k64i (by omega)) (fun h3 => ?_) (fun h3 => ?_)
    · have H := H.1 h3
      refine kw_iconst dX11_normals_75 ?_
      refine kw_istore dX11_normals_76 (Nat.le_of_ble_eq_true rfl) ?_
      exact kw_forget (ls' := [some (kA 558), some (kI x1), some (kL x2), none, some (kI 0)]) ⟨Or.inr rfl, ⟨Or.inr rfl, ⟨Or.inr rfl, ⟨Or.inr rfl, ⟨Or.inr rfl, trivial⟩⟩⟩⟩⟩ H
    · have H := H.2 h3
      refine k2_ret dX11_normals_74 rfl H
  · have H := H.2 h1
    refine kw_aload_n dX11_normals_11 rfl ?_
    refine kw_iload_n dX11_normals_12 rfl ?_
    refine kw_iload dX11_normals_13 rfl ?_
    refine k2_callV2L (ci := 9) (N := 38) (T := TX11) rfl (lsh_558 hL) m_X11_at dX11_normals_15 wl_X11_84 (Nat.le_of_ble_eq_true rfl) (s_X11_at hL (k32i (by omega)) (k32i (by omega)) (by omega) ⟨_, rfl, ?_⟩)
    refine kw_lconst0 dX11_normals_18 ?_
    have o4 := H.1
    have H := H.2
    refine kw_lcmp_eq 62 dX11_normals_19 dX11_normals_20 (by decide) o4 (k64i (by omega)) (fun h5 => ?_) (fun h5 => ?_)
    · have H := H.1 h5
      refine kw_iinc dX11_normals_62 rfl ?_
      refine kw_goto 6 dX11_normals_65 (by decide) ?_
      exact kw_forget (ls' := [some (kA 558), some (kI x1), some (kL x2), none, some (kI (x4 + -1))]) ⟨Or.inr rfl, ⟨Or.inr rfl, ⟨Or.inr rfl, ⟨Or.inr rfl, ⟨Or.inr rfl, trivial⟩⟩⟩⟩⟩ H
    · have H := H.2 h5
      refine kw_aload_n dX11_normals_23 rfl ?_
      refine kw_iload_n dX11_normals_24 rfl ?_
      refine kw_iload dX11_normals_25 rfl ?_
      refine k2_callV2L (ci := 9) (N := 38) (T := TX11) rfl (lsh_558 hL) m_X11_at dX11_normals_27 wl_X11_84 (Nat.le_of_ble_eq_true rfl) (s_X11_at hL (k32i (by omega)) (k32i (by omega)) (by omega) ⟨_, rfl, ?_⟩)
      refine kw_lconst0 dX11_normals_30 ?_
      refine kw_lcmp_ge 50 dX11_normals_31 dX11_normals_32 (by decide) o4 (k64i (by omega)) (fun h6 => ?_) (fun h6 => ?_)
      · have H := H.1 h6
        refine kw_lload_n dX11_normals_50 rfl ?_
        refine kw_aload_n dX11_normals_51 rfl ?_
        refine kw_iload_n dX11_normals_52 rfl ?_
        refine kw_iload dX11_normals_53 rfl ?_
        refine k2_callV2L (ci := 9) (N := 38) (T := TX11) rfl (lsh_558 hL) m_X11_at dX11_normals_55 wl_X11_84 (Nat.le_of_ble_eq_true rfl) (s_X11_at hL (k32i (by omega)) (k32i (by omega)) (by omega) ⟨_, rfl, ?_⟩)
        refine k2_callS2L m_X11_gcd dX11_normals_58 wl_X11_76 (Nat.le_of_ble_eq_true rfl) (kC2_mono H (fun r c8 H => ?_))
        obtain ⟨z7, rfl, H⟩ := H
        refine ⟨z7, rfl, ?_⟩
        refine kw_lstore_n dX11_normals_61 (Nat.le_of_ble_eq_true rfl) ?_
        refine kw_iinc dX11_normals_62 rfl ?_
        refine kw_goto 6 dX11_normals_65 (by decide) ?_
        exact kw_forget (ls' := [some (kA 558), some (kI x1), some (kL z7), none, some (kI (x4 + -1))]) ⟨Or.inr rfl, ⟨Or.inr rfl, ⟨Or.inr rfl, ⟨Or.inr rfl, ⟨Or.inr rfl, trivial⟩⟩⟩⟩⟩ H
      · have H := H.2 h6
        refine kw_lload_n dX11_normals_35 rfl ?_
        refine kw_aload_n dX11_normals_36 rfl ?_
        refine kw_iload_n dX11_normals_37 rfl ?_
        refine kw_iload dX11_normals_38 rfl ?_
        refine k2_callV2L (ci := 9) (N := 38) (T := TX11) rfl (lsh_558 hL) m_X11_at dX11_normals_40 wl_X11_84 (Nat.le_of_ble_eq_true rfl) (s_X11_at hL (k32i (by omega)) (k32i (by omega)) (by omega) ⟨_, rfl, ?_⟩)
        refine k2_callS2L m_X11_gcd dX11_normals_43 wl_X11_76 (Nat.le_of_ble_eq_true rfl) (kC2_mono H (fun r c10 H => ?_))
        obtain ⟨z9, rfl, H⟩ := H
        refine ⟨z9, rfl, ?_⟩
        refine kw_lneg dX11_normals_46 ?_
        refine kw_goto 61 dX11_normals_47 (by decide) ?_
        refine kw_lstore_n dX11_normals_61 (Nat.le_of_ble_eq_true rfl) ?_
        refine kw_iinc dX11_normals_62 rfl ?_
        refine kw_goto 6 dX11_normals_65 (by decide) ?_
        exact kw_forget (ls' := [some (kA 558), some (kI x1), some (kL (-z9)), none, some (kI (x4 + -1))]) ⟨Or.inr rfl, ⟨Or.inr rfl, ⟨Or.inr rfl, ⟨Or.inr rfl, ⟨Or.inr rfl, trivial⟩⟩⟩⟩⟩ H
set_option maxRecDepth 4000 in
theorem v_X11_normals_78 {G : KG} {S0 : KSh} (hL : kLay S0) {d : Nat} {P : Option AV → KMem → Prop} {c : KMem} {x1 x2 x4 : Int} (r1 : -2147483648 ≤ x1 ∧ x1 < 2147483648) (r4 : -2147483648 ≤ x4 ∧ x4 < 2147483648) (hp : 0 ≤ x1 ∧ x1 < 100 ∧ 0 ≤ x4) (H : (16 ≤ x4 → (P none c)) ∧ (x4 < 16 → ((k64 (c 559 ((16 * x1) + x4))) ∧ ((k64 x2) ∧ ((x2 ≠ 0) ∧ (kW2 G S0 kM_X11_normals (d + 2) 78 [some (kA 558), some (kI x1), some (kL x2), none, some (kI (x4 + 1))] [] (kup c 559 ((16 * x1) + x4) (Int.tdiv (c 559 ((16 * x1) + x4)) x2)) P)))))) : kW2 G S0 kM_X11_normals (d + 2) 78 [some (kA 558), some (kI x1), some (kL x2), none, some (kI x4)] [] c P := by
  refine kw_iload dX11_normals_78 rfl ?_
  refine kw_bipush dX11_normals_80 (by decide) ?_
  refine kw_icmp_ge 107 dX11_normals_82 (by decide) (k32i (by omega)) (k32i (by omega)) (fun h11 => ?_) (fun h11 => ?_)
  · have H := H.1 h11
    refine k2_ret dX11_normals_107 rfl H
  · have H := H.2 h11
    refine kw_aload_n dX11_normals_85 rfl ?_
    refine kw_iload_n dX11_normals_86 rfl ?_
    refine kw_iload dX11_normals_87 rfl ?_
    refine kw_aload_n dX11_normals_89 rfl ?_
    refine kw_iload_n dX11_normals_90 rfl ?_
    refine kw_iload dX11_normals_91 rfl ?_
    refine k2_callV2L (ci := 9) (N := 38) (T := TX11) rfl (lsh_558 hL) m_X11_at dX11_normals_93 wl_X11_84 (Nat.le_of_ble_eq_true rfl) (s_X11_at hL (k32i (by omega)) (k32i (by omega)) (by omega) ⟨_, rfl, ?_⟩)
    refine kw_lload_n dX11_normals_96 rfl ?_
    have o12 := H.1
    have H := H.2
    have o13 := H.1
    have H := H.2
    have o14 := H.1
    have H := H.2
    refine kw_ldiv dX11_normals_97 o12 o13 o14 ?_
    refine k2_callV3N (ci := 9) (N := 38) (T := TX11) rfl (lsh_558 hL) m_X11_sets dX11_normals_98 wl_X11_92 (Nat.le_of_ble_eq_true rfl) (s_X11_sets hL (k32i (by omega)) (k32i (by omega)) (by omega) ⟨rfl, ?_⟩)
    refine kw_iinc dX11_normals_101 rfl ?_
    refine kw_goto 78 dX11_normals_104 (by decide) ?_
    exact kw_forget (ls' := [some (kA 558), some (kI x1), some (kL x2), none, some (kI (x4 + 1))]) ⟨Or.inr rfl, ⟨Or.inr rfl, ⟨Or.inr rfl, ⟨Or.inr rfl, ⟨Or.inr rfl, trivial⟩⟩⟩⟩⟩ H
set_option maxRecDepth 4000 in
theorem v_X11_areSame {G : KG} {S0 : KSh} (hL : kLay S0) {d : Nat} {P : Option AV → KMem → Prop} {c : KMem} {x1 x2 : Int} (r1 : -2147483648 ≤ x1 ∧ x1 < 2147483648) (r2 : -2147483648 ≤ x2 ∧ x2 < 2147483648) (H : kW2 G S0 kM_X11_areSame (d + 1) 2 [some (kA 558), some (kI x1), some (kI x2), some (kI 0)] [] c P) : kC2 G S0 kM_X11_areSame (d + 1) [kA 558, kI x1, kI x2] c P := by
  refine k2_met (by decide) rfl (Nat.le_of_ble_eq_true rfl) (l0 := [some (kA 558), some (kI x1), some (kI x2), none]) rfl ?_
  refine kw_iconst dX11_areSame_0 ?_
  refine kw_istore_n dX11_areSame_1 (Nat.le_of_ble_eq_true rfl) ?_
  exact kw_forget (ls' := [some (kA 558), some (kI x1), some (kI x2), some (kI 0)]) ⟨Or.inr rfl, ⟨Or.inr rfl, ⟨Or.inr rfl, ⟨Or.inr rfl, trivial⟩⟩⟩⟩ H
set_option maxRecDepth 4000 in
theorem v_X11_areSame_2 {G : KG} {S0 : KSh} (hL : kLay S0) {d : Nat} {P : Option AV → KMem → Prop} {c : KMem} {x1 x2 x3 : Int} (r1 : -2147483648 ≤ x1 ∧ x1 < 2147483648) (r2 : -2147483648 ≤ x2 ∧ x2 < 2147483648) (r3 : 0 ≤ x3 ∧ x3 < 2147483648) (hp : 0 ≤ x1 ∧ x1 < 100 ∧ 0 ≤ x2 ∧ x2 < 100 ∧ 0 ≤ x3) (H : (16 ≤ x3 → (P (some (kI 1)) c)) ∧ (x3 < 16 → ((k64 (c 559 ((16 * x1) + x3))) ∧ ((k64 (c 559 ((16 * x2) + x3))) ∧ (((c 559 ((16 * x1) + x3)) = (c 559 ((16 * x2) + x3)) → (kW2 G S0 kM_X11_areSame (d + 1) 2 [some (kA 558), some (kI x1), some (kI x2), some (kI (x3 + 1))] [] c P)) ∧ ((c 559 ((16 * x1) + x3)) ≠ (c 559 ((16 * x2) + x3)) → (P (some (kI 0)) c))))))) : kW2 G S0 kM_X11_areSame (d + 1) 2 [some (kA 558), some (kI x1), some (kI x2), some (kI x3)] [] c P := by
  refine kw_iload_n dX11_areSame_2 rfl ?_
  refine kw_bipush dX11_areSame_3 (by decide) ?_
  refine kw_icmp_ge 32 dX11_areSame_5 (by decide) (k32i (by omega)) (k32i (by omega)) (fun h1 => ?_) (fun h1 => ?_)
  · have H := H.1 h1
    refine kw_iconst dX11_areSame_32 ?_
    refine k2_zret dX11_areSame_33 rfl (Or.inr rfl) H
  · have H := H.2 h1
    refine kw_aload_n dX11_areSame_8 rfl ?_
    refine kw_iload_n dX11_areSame_9 rfl ?_
    refine kw_iload_n dX11_areSame_10 rfl ?_
    refine k2_callV2L (ci := 9) (N := 38) (T := TX11) rfl (lsh_558 hL) m_X11_at dX11_areSame_11 wl_X11_84 (Nat.le_of_ble_eq_true rfl) (s_X11_at hL (k32i (by omega)) (k32i (by omega)) (by omega) ⟨_, rfl, ?_⟩)
    refine kw_aload_n dX11_areSame_14 rfl ?_
    refine kw_iload_n dX11_areSame_15 rfl ?_
    refine kw_iload_n dX11_areSame_16 rfl ?_
    refine k2_callV2L (ci := 9) (N := 38) (T := TX11) rfl (lsh_558 hL) m_X11_at dX11_areSame_17 wl_X11_84 (Nat.le_of_ble_eq_true rfl) (s_X11_at hL (k32i (by omega)) (k32i (by omega)) (by omega) ⟨_, rfl, ?_⟩)
    have o2 := H.1
    have H := H.2
    have o3 := H.1
    have H := H.2
    refine kw_lcmp_eq 26 dX11_areSame_20 dX11_areSame_21 (by decide) o2 o3 (fun h4 => ?_) (fun h4 => ?_)
    · have H := H.1 h4
      refine kw_iinc dX11_areSame_26 rfl ?_
      refine kw_goto 2 dX11_areSame_29 (by decide) ?_
      exact kw_forget (ls' := [some (kA 558), some (kI x1), some (kI x2), some (kI (x3 + 1))]) ⟨Or.inr rfl, ⟨Or.inr rfl, ⟨Or.inr rfl, ⟨Or.inr rfl, trivial⟩⟩⟩⟩ H
    · have H := H.2 h4
      refine kw_iconst dX11_areSame_24 ?_
      refine k2_zret dX11_areSame_25 rfl (Or.inl rfl) H
set_option maxRecDepth 4000 in
theorem v_X11_laysPlace {G : KG} {S0 : KSh} (hL : kLay S0) {d : Nat} {P : Option AV → KMem → Prop} {c : KMem} {x1 x2 x4 : Int} (r1 : -2147483648 ≤ x1 ∧ x1 < 2147483648) (hp : 0 ≤ x1 ∧ x1 < 100) (H : kC2 G S0 kM_X11_empties d [kA 558, kI x1] c (kRN (fun c2 => P none (kup (kup (kup (kup c2 559 ((16 * x1) + 1) (2 * x2)) 559 ((16 * x1) + 2) (2 * x4)) 559 ((16 * x1) + 4) (((x2 * x2) + (x4 * x4)) - 1)) 559 ((16 * x1) + 8) (((x2 * x2) + (x4 * x4)) + 1))))) : kC2 G S0 kM_X11_laysPlace (d + 1) [kA 558, kI x1, kL x2, kL x4] c P := by
  refine k2_met (by decide) rfl (Nat.le_of_ble_eq_true rfl) (l0 := [some (kA 558), some (kI x1), some (kL x2), none, some (kL x4), none]) rfl ?_
  refine kw_aload_n dX11_laysPlace_0 rfl ?_
  refine kw_iload_n dX11_laysPlace_1 rfl ?_
  refine k2_callV1N (ci := 9) (N := 38) (T := TX11) rfl (lsh_558 hL) m_X11_empties dX11_laysPlace_2 wl_X11_105 (Nat.le_of_ble_eq_true rfl) (kC2_mono H (fun r c2 H => ?_))
  obtain ⟨rfl, H⟩ := H
  refine ⟨rfl, ?_⟩
  refine kw_aload_n dX11_laysPlace_5 rfl ?_
  refine kw_iload_n dX11_laysPlace_6 rfl ?_
  refine kw_iconst dX11_laysPlace_7 ?_
  refine kw_ldc2 dX11_laysPlace_8 wk_X11_109 ?_
  refine kw_lload_n dX11_laysPlace_11 rfl ?_
  refine kw_lmul dX11_laysPlace_12 ?_
  refine k2_callV3N (ci := 9) (N := 38) (T := TX11) rfl (lsh_558 hL) m_X11_sets dX11_laysPlace_13 wl_X11_92 (Nat.le_of_ble_eq_true rfl) (s_X11_sets hL (k32i (by omega)) (k32i (by omega)) (by omega) ⟨rfl, ?_⟩)
  refine kw_aload_n dX11_laysPlace_16 rfl ?_
  refine kw_iload_n dX11_laysPlace_17 rfl ?_
  refine kw_iconst dX11_laysPlace_18 ?_
  refine kw_ldc2 dX11_laysPlace_19 wk_X11_109 ?_
  refine kw_lload dX11_laysPlace_22 rfl ?_
  refine kw_lmul dX11_laysPlace_24 ?_
  refine k2_callV3N (ci := 9) (N := 38) (T := TX11) rfl (lsh_558 hL) m_X11_sets dX11_laysPlace_25 wl_X11_92 (Nat.le_of_ble_eq_true rfl) (s_X11_sets hL (k32i (by omega)) (k32i (by omega)) (by omega) ⟨rfl, ?_⟩)
  refine kw_aload_n dX11_laysPlace_28 rfl ?_
  refine kw_iload_n dX11_laysPlace_29 rfl ?_
  refine kw_iconst dX11_laysPlace_30 ?_
  refine kw_lload_n dX11_laysPlace_31 rfl ?_
  refine kw_lload_n dX11_laysPlace_32 rfl ?_
  refine kw_lmul dX11_laysPlace_33 ?_
  refine kw_lload dX11_laysPlace_34 rfl ?_
  refine kw_lload dX11_laysPlace_36 rfl ?_
  refine kw_lmul dX11_laysPlace_38 ?_
  refine kw_ladd dX11_laysPlace_39 ?_
  refine kw_lconst1 dX11_laysPlace_40 ?_
  refine kw_lsub dX11_laysPlace_41 ?_
  refine k2_callV3N (ci := 9) (N := 38) (T := TX11) rfl (lsh_558 hL) m_X11_sets dX11_laysPlace_42 wl_X11_92 (Nat.le_of_ble_eq_true rfl) (s_X11_sets hL (k32i (by omega)) (k32i (by omega)) (by omega) ⟨rfl, ?_⟩)
  refine kw_aload_n dX11_laysPlace_45 rfl ?_
  refine kw_iload_n dX11_laysPlace_46 rfl ?_
  refine kw_bipush dX11_laysPlace_47 (by decide) ?_
  refine kw_lload_n dX11_laysPlace_49 rfl ?_
  refine kw_lload_n dX11_laysPlace_50 rfl ?_
  refine kw_lmul dX11_laysPlace_51 ?_
  refine kw_lload dX11_laysPlace_52 rfl ?_
  refine kw_lload dX11_laysPlace_54 rfl ?_
  refine kw_lmul dX11_laysPlace_56 ?_
  refine kw_ladd dX11_laysPlace_57 ?_
  refine kw_lconst1 dX11_laysPlace_58 ?_
  refine kw_ladd dX11_laysPlace_59 ?_
  refine k2_callV3N (ci := 9) (N := 38) (T := TX11) rfl (lsh_558 hL) m_X11_sets dX11_laysPlace_60 wl_X11_92 (Nat.le_of_ble_eq_true rfl) (s_X11_sets hL (k32i (by omega)) (k32i (by omega)) (by omega) ⟨rfl, ?_⟩)
  refine k2_ret dX11_laysPlace_63 rfl H
set_option maxRecDepth 4000 in
theorem v_X11_gradesOf {G : KG} {S0 : KSh} (hL : kLay S0) {d : Nat} {P : Option AV → KMem → Prop} {c : KMem} {x1 : Int} (r1 : -2147483648 ≤ x1 ∧ x1 < 2147483648) (H : kW2 G S0 kM_X11_gradesOf (d + 1) 4 [some (kA 558), some (kI x1), some (kI 0), some (kI 0)] [] c P) : kC2 G S0 kM_X11_gradesOf (d + 1) [kA 558, kI x1] c P := by
  refine k2_met (by decide) rfl (Nat.le_of_ble_eq_true rfl) (l0 := [some (kA 558), some (kI x1), none, none]) rfl ?_
  refine kw_iconst dX11_gradesOf_0 ?_
  refine kw_istore_n dX11_gradesOf_1 (Nat.le_of_ble_eq_true rfl) ?_
  refine kw_iconst dX11_gradesOf_2 ?_
  refine kw_istore_n dX11_gradesOf_3 (Nat.le_of_ble_eq_true rfl) ?_
  exact kw_forget (ls' := [some (kA 558), some (kI x1), some (kI 0), some (kI 0)]) ⟨Or.inr rfl, ⟨Or.inr rfl, ⟨Or.inr rfl, ⟨Or.inr rfl, trivial⟩⟩⟩⟩ H
set_option maxRecDepth 4000 in
theorem v_X11_gradesOf_4 {G : KG} {S0 : KSh} (hL : kLay S0) {d : Nat} {P : Option AV → KMem → Prop} {c : KMem} {x1 x2 x3 : Int} (r1 : -2147483648 ≤ x1 ∧ x1 < 2147483648) (r2 : -2147483648 ≤ x2 ∧ x2 < 2147483648) (r3 : 0 ≤ x3 ∧ x3 < 2147483648) (hp : 0 ≤ x1 ∧ x1 < 100 ∧ 0 ≤ x3) (H : (16 ≤ x3 → (P (some (kI x2)) c)) ∧ (x3 < 16 → ((k64 (c 559 ((16 * x1) + x3))) ∧ (((c 559 ((16 * x1) + x3)) = 0 → (kW2 G S0 kM_X11_gradesOf (d + 1) 4 [some (kA 558), some (kI x1), some (kI x2), some (kI (x3 + 1))] [] c P)) ∧ ((c 559 ((16 * x1) + x3)) ≠ 0 → (kW2 G S0 kM_X11_gradesOf (d + 1) 4 [some (kA 558), some (kI x1), some (kI (kor x2 (kshl 1 (kpop (Int.toNat x3) : Int)))), some (kI (x3 + 1))] [] c P)))))) : kW2 G S0 kM_X11_gradesOf (d + 1) 4 [some (kA 558), some (kI x1), some (kI x2), some (kI x3)] [] c P := by
  refine kw_iload_n dX11_gradesOf_4 rfl ?_
  refine kw_bipush dX11_gradesOf_5 (by decide) ?_
  refine kw_icmp_ge 36 dX11_gradesOf_7 (by decide) (k32i (by omega)) (k32i (by omega)) (fun h1 => ?_) (fun h1 => ?_)
  · have H := H.1 h1
    refine kw_iload_n dX11_gradesOf_36 rfl ?_
    refine k2_iret dX11_gradesOf_37 rfl H
  · have H := H.2 h1
    refine kw_aload_n dX11_gradesOf_10 rfl ?_
    refine kw_iload_n dX11_gradesOf_11 rfl ?_
    refine kw_iload_n dX11_gradesOf_12 rfl ?_
    refine k2_callV2L (ci := 9) (N := 38) (T := TX11) rfl (lsh_558 hL) m_X11_at dX11_gradesOf_13 wl_X11_84 (Nat.le_of_ble_eq_true rfl) (s_X11_at hL (k32i (by omega)) (k32i (by omega)) (by omega) ⟨_, rfl, ?_⟩)
    refine kw_lconst0 dX11_gradesOf_16 ?_
    have o2 := H.1
    have H := H.2
    refine kw_lcmp_eq 30 dX11_gradesOf_17 dX11_gradesOf_18 (by decide) o2 (k64i (by omega)) (fun h3 => ?_) (fun h3 => ?_)
    · have H := H.1 h3
      refine kw_iinc dX11_gradesOf_30 rfl ?_
      refine kw_goto 4 dX11_gradesOf_33 (by decide) ?_
      exact kw_forget (ls' := [some (kA 558), some (kI x1), some (kI x2), some (kI (x3 + 1))]) ⟨Or.inr rfl, ⟨Or.inr rfl, ⟨Or.inr rfl, ⟨Or.inr rfl, trivial⟩⟩⟩⟩ H
    · have H := H.2 h3
      refine kw_iload_n dX11_gradesOf_21 rfl ?_
      refine kw_iconst dX11_gradesOf_22 ?_
      refine kw_iload_n dX11_gradesOf_23 rfl ?_
      refine k2_callS1I m_X11_sizeOf dX11_gradesOf_24 wl_X11_96 (Nat.le_of_ble_eq_true rfl) (s_X11_sizeOf hL (by omega) ⟨_, rfl, ?_⟩)
      refine kw_ishl dX11_gradesOf_27 ?_
      refine kw_ior dX11_gradesOf_28 ?_
      refine kw_istore_n dX11_gradesOf_29 (Nat.le_of_ble_eq_true rfl) ?_
      refine kw_iinc dX11_gradesOf_30 rfl ?_
      refine kw_goto 4 dX11_gradesOf_33 (by decide) ?_
      exact kw_forget (ls' := [some (kA 558), some (kI x1), some (kI (kor x2 (kshl 1 (kpop (Int.toNat x3) : Int)))), some (kI (x3 + 1))]) ⟨Or.inr rfl, ⟨Or.inr rfl, ⟨Or.inr rfl, ⟨Or.inr rfl, trivial⟩⟩⟩⟩ H
/-- the reference's table of signs -/
def kSgn (c : KMem) : Prop := ∀ a b : Nat, a < 16 → b < 16 → c 568 (16 * a + b) = ksg a b
theorem ksg_32 (a b : Nat) : k32 (ksg a b) := by unfold ksg; split <;> exact k32i (by omega)
theorem kSgn.kept {T : Int → Prop} {c c' : KMem} (h : kSgn c) (hr : kR T c c') : kSgn c' := fun a b ha hb => (hr.2 568 _ (by decide) (by decide)).trans (h a b ha hb)
theorem kT_0 {kd : Int} {f g : KF} {k a : Nat} (h : f a = 0) : kT kd f g k a = 0 := by unfold kT; rw [h]; split <;> simp
set_option maxHeartbeats 1000000 in
theorem s_X11_joins {G : KG} {S0 : KSh} (hL : kLay S0) {d : Nat} {P : Option AV → KMem → Prop} {c : KMem} {x1 x2 x3 x4 : Int} (r1 : k32 x1) (hp : 0 ≤ x2 ∧ x2 < 100 ∧ 0 ≤ x3 ∧ x3 < 100 ∧ 0 ≤ x4 ∧ x4 < 100) (hS : kSgn c) (h64 : ∀ k : Int, 0 ≤ k → k < 16 → k64 (kF c x2 k)) (h : ∀ c', kEq (kF c' x4) (mulP x1 (kF c x2) (kF c x3)) → kR (fun s => s = x4) c c' → P none c') : kC2 G S0 kM_X11_joins (d + 1) [kA 558, kI x1, kI x2, kI x3, kI x4] c P := by
  have L4 : ∀ n k : Nat, k + n = 16 → ∀ c', kR (fun s => s = x4) c c' → (∀ j : Int, 0 ≤ j → j < k → kF c' x4 j = mulP x1 (kF c x2) (kF c x3) j) → (∀ j : Nat, j < 16 → c' 560 j = mulP x1 (kF c x2) (kF c x3) j) → kW2 G S0 kM_X11_joins (d + 1) 133 [some (kA 558), none, none, none, some (kI x4), some (kI k), none] [] c' P := by
    intro n
    induction n with
    | zero =>
      intro k hk c' h1 h2 h3
      exact v_X11_joins_133 hL (by omega) (by omega) (by omega) ⟨fun _ => h c' (fun j a b => h2 j a (by omega)) h1, fun q => by omega⟩
    | succ n ih =>
      intro k hk c' h1 h2 h3
      refine v_X11_joins_133 hL (by omega) (by omega) (by omega) ⟨fun q => by omega, fun _ => ?_⟩
      refine ih (k + 1) (by omega) _ (h1.up (by omega) rfl) (fun j a b => ?_) (fun j hj => (kup_n (Or.inl (by decide))).trans (h3 j hj))
      rw [kF_up (by omega) ⟨a, by omega⟩]
      by_cases e : j = k
      · subst e
        rw [if_pos ⟨rfl, rfl⟩]
        exact h3 k (by omega)
      · rw [if_neg (fun q => e q.2)]
        exact h2 j a (by omega)
  have L2 : ∀ n a : Nat, a + n = 16 → ∀ c', kR (fun _ => False) c c' → (∀ k : Nat, k < 16 → c' 560 k = kSum a (kT x1 (kF c x2) (kF c x3) k)) → kW2 G S0 kM_X11_joins (d + 1) 27 [some (kA 558), some (kI x1), some (kI x2), some (kI x3), some (kI x4), some (kI a), none] [] c' P := by
    intro n
    induction n with
    | zero =>
      intro a ha c' h1 h2
      obtain rfl : a = 16 := by omega
      refine v_X11_joins_27 hL r1 (by omega) (by omega) (by omega) (by omega) (by omega) ⟨fun _ => ?_, fun q => by omega⟩
      exact L4 16 0 (by omega) c' (h1.tr kR.rf (fun _ q => q.elim) (fun _ q => q)) (fun j a b => by omega) (fun j hj => h2 j hj)
    | succ n ih =>
      intro a ha c' h1 h2
      refine v_X11_joins_27 hL r1 (by omega) (by omega) (by omega) (by omega) (by omega) ⟨fun q => by omega, fun _ => ?_⟩
      have L3 : ∀ m b : Nat, b + m = 16 → ∀ c', kR (fun _ => False) c c' → (∀ k : Nat, k < 16 → c' 560 k = kSum a (kT x1 (kF c x2) (kF c x3) k) + if a ^^^ k < b then kT x1 (kF c x2) (kF c x3) k a else 0) → kW2 G S0 kM_X11_joins (d + 1) 37 [some (kA 558), some (kI x1), some (kI x2), some (kI x3), some (kI x4), some (kI a), some (kI b)] [] c' P := by
        intro m
        induction m with
        | zero =>
          intro b hb c' h1 h2
          refine v_X11_joins_37 hL r1 (by omega) (by omega) (by omega) (by omega) (by omega) (by omega) ⟨fun _ => ?_, fun q => by omega⟩
          refine ih (a + 1) (by omega) c' h1 (fun k hk => ?_)
          rw [h2 k hk, if_pos (by have := (kx16 a (by omega) k hk).1; omega)]
          rfl
        | succ m ih2 =>
          intro b hb c' h1 h2
          have ef : c' 559 (16 * x2 + a) = kF c x2 a := h1.1 x2 id hp.1 a (by omega) (by omega)
          have eg : c' 559 (16 * x3 + b) = kF c x3 b := h1.1 x3 id hp.2.2.1 b (by omega) (by omega)
          have es : c' 568 (16 * a + b) = ksg a b := (hS.kept h1) a b (by omega) (by omega)
          obtain ⟨q1, q2, q3⟩ := kx16 a (by omega) b (by omega)
          refine v_X11_joins_37 hL r1 (by omega) (by omega) (by omega) (by omega) (by omega) (by omega) ⟨fun q => by omega, fun _ => ⟨by rw [ef]; exact h64 a (by omega) (by omega), fun z => ?_, fun z => ⟨fun y => ⟨?_, ?_, ?_⟩, fun y => ?_⟩⟩⟩
          · rw [ef] at z
            refine ih (a + 1) (by omega) c' h1 (fun k hk => ?_)
            rw [h2 k hk, kT_0 z]
            show _ = _ + kT x1 (kF c x2) (kF c x3) k a
            rw [kT_0 z]
            split <;> rfl
          · rw [kxor_nat a b (by omega) (by omega)]; omega
          · rw [es]; exact ksg_32 a b
          · rw [kxor_nat a b (by omega) (by omega), ef, eg, es]
            refine ih2 (b + 1) (by omega) _ h1.made (fun k hk => ?_)
            by_cases e : k = a ^^^ b
            · subst e
              rw [kup_s, h2 _ hk, if_neg (by omega), if_pos (by omega)]
              have ht : kT x1 (kF c x2) (kF c x3) (a ^^^ b) a = ksg a b * kF c x2 a * kF c x3 b := by
                unfold kT
                rw [q3, if_pos y]
              rw [ht]
              omega
            · rw [kup_n (Or.inr (by omega)), h2 k hk]
              have hne : a ^^^ k ≠ b := fun q => e (by rw [← q]; exact (kx16 a (by omega) k hk).2.2.symm)
              by_cases e2 : a ^^^ k < b
              · rw [if_pos e2, if_pos (by omega)]
              · rw [if_neg e2, if_neg (by omega)]
          · refine ih2 (b + 1) (by omega) _ h1 (fun k hk => ?_)
            rw [h2 k hk]
            by_cases e2 : a ^^^ k < b
            · rw [if_pos e2, if_pos (by omega)]
            · rw [if_neg e2]
              by_cases e3 : a ^^^ k = b
              · rw [if_pos (by omega)]
                unfold kT
                rw [e3, if_neg y]
              · rw [if_neg (by omega)]
      refine L3 16 0 (by omega) c' h1 (fun k hk => ?_)
      rw [h2 k hk, if_neg (by omega)]
      omega
  have L1 : ∀ n k : Nat, k + n = 16 → ∀ c', kR (fun _ => False) c c' → (∀ j : Nat, j < k → c' 560 j = 0) → kW2 G S0 kM_X11_joins (d + 1) 3 [some (kA 558), some (kI x1), some (kI x2), some (kI x3), some (kI x4), some (kI k), none] [] c' P := by
    intro n
    induction n with
    | zero =>
      intro k hk c' h1 h2
      refine v_X11_joins_3 hL r1 (by omega) (by omega) (by omega) (by omega) (by omega) ⟨fun _ => ?_, fun q => by omega⟩
      exact L2 16 0 (by omega) c' h1 (fun j hj => h2 j (by omega))
    | succ n ih =>
      intro k hk c' h1 h2
      refine v_X11_joins_3 hL r1 (by omega) (by omega) (by omega) (by omega) (by omega) ⟨fun q => by omega, fun _ => ?_⟩
      refine ih (k + 1) (by omega) _ h1.made (fun j hj => ?_)
      by_cases e : j = k
      · subst e; exact kup_s _ _ _ _
      · rw [kup_n (Or.inr (by omega))]; exact h2 j (by omega)
  exact v_X11_joins hL r1 (by omega) (by omega) (by omega) (L1 16 0 (by omega) c kR.rf (fun j hj => by omega))
theorem s_X11_isNothing {G : KG} {S0 : KSh} (hL : kLay S0) {d : Nat} {P : Option AV → KMem → Prop} {c : KMem} {x1 : Int} (hp : 0 ≤ x1 ∧ x1 < 100) (h64 : ∀ k : Int, 0 ≤ k → k < 16 → k64 (kF c x1 k)) (h1 : kEq (kF c x1) (fun _ => 0) → P (some (kI 1)) c) (h0 : ¬ kEq (kF c x1) (fun _ => 0) → P (some (kI 0)) c) : kC2 G S0 kM_X11_isNothing (d + 1) [kA 558, kI x1] c P := by
  have loop : ∀ n k : Nat, k + n = 16 → (∀ j : Int, 0 ≤ j → j < k → kF c x1 j = 0) → kW2 G S0 kM_X11_isNothing (d + 1) 2 [some (kA 558), some (kI x1), some (kI k)] [] c P := by
    intro n
    induction n with
    | zero =>
      intro k hk q
      exact v_X11_isNothing_2 hL (by omega) (by omega) (by omega) ⟨fun _ => h1 (fun j a b => q j a (by omega)), fun z => by omega⟩
    | succ n ih =>
      intro k hk q
      refine v_X11_isNothing_2 hL (by omega) (by omega) (by omega) ⟨fun z => by omega, fun _ => ⟨h64 k (by omega) (by omega), fun z => ?_, fun z => h0 (fun y => z (y k (by omega) (by omega)))⟩⟩
      refine ih (k + 1) (by omega) (fun j a b => ?_)
      by_cases e : j = k
      · subst e; exact z
      · exact q j a (by omega)
  exact v_X11_isNothing hL (by omega) (loop 16 0 (by omega) (fun j a b => by omega))
theorem s_X11_isWithin {G : KG} {S0 : KSh} (hL : kLay S0) {d : Nat} {P : Option AV → KMem → Prop} {c : KMem} {x1 : Int} (hp : 0 ≤ x1 ∧ x1 < 100) (h64 : ∀ k : Int, 0 ≤ k → k < 16 → k63 (kF c x1 k)) (h1 : kB 100000000 (kF c x1) → P (some (kI 1)) c) (h0 : ¬ kB 100000000 (kF c x1) → P (some (kI 0)) c) : kC2 G S0 kM_X11_isWithin (d + 1) [kA 558, kI x1] c P := by
  have loop : ∀ n k : Nat, k + n = 16 → (∀ j : Int, 0 ≤ j → j < k → -100000000 ≤ kF c x1 j ∧ kF c x1 j ≤ 100000000) → kW2 G S0 kM_X11_isWithin (d + 1) 2 [some (kA 558), some (kI x1), some (kI k)] [] c P := by
    intro n
    induction n with
    | zero =>
      intro k hk q
      exact v_X11_isWithin_2 hL (by omega) (by omega) (by omega) ⟨fun _ => h1 (fun j a b => q j a (by omega)), fun z => by omega⟩
    | succ n ih =>
      intro k hk q
      have hb : k63 (c 559 (16 * x1 + k)) := h64 k (by omega) (by omega)
      unfold k63 at hb
      refine v_X11_isWithin_2 hL (by omega) (by omega) (by omega) ⟨fun z => by omega, fun _ => ⟨k64i (by omega), k64i (by omega), fun z => ?_, fun z => h0 (fun y => ?_)⟩⟩
      · refine ih (k + 1) (by omega) (fun j a b => ?_)
        by_cases e : j = k
        · subst e
          show -100000000 ≤ c 559 (16 * x1 + k) ∧ c 559 (16 * x1 + k) ≤ 100000000
          omega
        · exact q j a (by omega)
      · have : -100000000 ≤ c 559 (16 * x1 + k) ∧ c 559 (16 * x1 + k) ≤ 100000000 := y k (by omega) (by omega)
        omega
  exact v_X11_isWithin hL (by omega) (loop 16 0 (by omega) (fun j a b => by omega))
theorem s_X11_reverses {G : KG} {S0 : KSh} (hL : kLay S0) {d : Nat} {P : Option AV → KMem → Prop} {c : KMem} {x1 : Int} (hp : 0 ≤ x1 ∧ x1 < 100) (h : ∀ c', kEq (kF c' x1) (revP (kF c x1)) → kR (fun s => s = x1) c c' → P none c') : kC2 G S0 kM_X11_reverses (d + 1) [kA 558, kI x1] c P := by
  have loop : ∀ n k : Nat, k + n = 16 → ∀ c', (∀ j : Int, 0 ≤ j → j < 16 → kF c' x1 j = if j < k then revP (kF c x1) j else kF c x1 j) → kR (fun s => s = x1) c c' → kW2 G S0 kM_X11_reverses (d + 1) 2 [some (kA 558), some (kI x1), some (kI k)] [] c' P := by
    intro n
    induction n with
    | zero =>
      intro k hk c' h1 h2
      exact v_X11_reverses_2 hL (by omega) (by omega) (by omega) ⟨fun _ => h c' (fun j a b => by rw [h1 j a b, if_pos (by omega)]) h2, fun q => by omega⟩
    | succ n ih =>
      intro k hk c' h1 h2
      refine v_X11_reverses_2 hL (by omega) (by omega) (by omega) ⟨fun q => by omega, fun _ => ⟨fun z => ?_, fun z => ?_⟩⟩
      · refine ih (k + 1) (by omega) _ (fun j a b => ?_) (h2.up (by omega) rfl)
        rw [kF_up (by omega) ⟨a, b⟩]
        by_cases e : j = k
        · subst e
          have e9 : c' 559 (16 * x1 + k) = kF c x1 k := by have := h1 k a b; rw [if_neg (by omega)] at this; exact this
          rw [if_pos ⟨rfl, rfl⟩, if_pos (by omega), e9]
          unfold revP
          rw [if_pos z]
        · rw [if_neg (fun q => e q.2), h1 j a b]
          by_cases e2 : j < k
          · rw [if_pos e2, if_pos (by omega)]
          · rw [if_neg e2, if_neg (by omega)]
      · refine ih (k + 1) (by omega) _ (fun j a b => ?_) h2
        rw [h1 j a b]
        by_cases e : j = k
        · subst e
          rw [if_neg (by omega), if_pos (by omega)]
          unfold revP
          rw [if_neg z]
        · by_cases e2 : j < k
          · rw [if_pos e2, if_pos (by omega)]
          · rw [if_neg e2, if_neg (by omega)]
  exact v_X11_reverses hL (by omega) (loop 16 0 (by omega) c (fun j a b => by rw [if_neg (by omega)]) kR.rf)
theorem s_X11_turnsWhole {G : KG} {S0 : KSh} (hL : kLay S0) {d : Nat} {P : Option AV → KMem → Prop} {c : KMem} {x1 x2 : Int} (hp : 0 ≤ x1 ∧ x1 < 100 ∧ (x2 = 0 ∨ x2 = 1)) (hS : kSgn c) (h : ∀ c', kEq (kF c' x1) (whlP (if x2 = 0 then 1 else -1) (kF c x1)) → kR (fun s => s = x1) c c' → P none c') : kC2 G S0 kM_X11_turnsWhole (d + 1) [kA 558, kI x1, kI x2] c P := by
  have L2 : ∀ n k : Nat, k + n = 16 → ∀ c', kR (fun s => s = x1) c c' → (∀ j : Int, 0 ≤ j → j < k → kF c' x1 j = whlP (if x2 = 0 then 1 else -1) (kF c x1) j) → (∀ j : Nat, j < 16 → c' 560 j = whlP (if x2 = 0 then 1 else -1) (kF c x1) j) → kW2 G S0 kM_X11_turnsWhole (d + 1) 55 [some (kA 558), some (kI x1), none, some (kI k)] [] c' P := by
    intro n
    induction n with
    | zero =>
      intro k hk c' h1 h2 h3
      exact v_X11_turnsWhole_55 hL (by omega) (by omega) (by omega) ⟨fun _ => h c' (fun j a b => h2 j a (by omega)) h1, fun q => by omega⟩
    | succ n ih =>
      intro k hk c' h1 h2 h3
      refine v_X11_turnsWhole_55 hL (by omega) (by omega) (by omega) ⟨fun q => by omega, fun _ => ?_⟩
      refine ih (k + 1) (by omega) _ (h1.up (by omega) rfl) (fun j a b => ?_) (fun j hj => (kup_n (Or.inl (by decide))).trans (h3 j hj))
      rw [kF_up (by omega) ⟨a, by omega⟩]
      by_cases e : j = k
      · subst e
        rw [if_pos ⟨rfl, rfl⟩]
        exact h3 k (by omega)
      · rw [if_neg (fun q => e q.2)]
        exact h2 j a (by omega)
  have L1 : ∀ n k : Nat, k + n = 16 → ∀ c', kR (fun _ => False) c c' → (∀ j : Nat, j < 16 → 15 ^^^ j < k → c' 560 j = whlP (if x2 = 0 then 1 else -1) (kF c x1) j) → kW2 G S0 kM_X11_turnsWhole (d + 1) 2 [some (kA 558), some (kI x1), some (kI x2), some (kI k)] [] c' P := by
    intro n
    induction n with
    | zero =>
      intro k hk c' h1 h2
      refine v_X11_turnsWhole_2 hL (by omega) (by omega) (by omega) (by omega) ⟨fun _ => ?_, fun q => by omega⟩
      exact L2 16 0 (by omega) c' (h1.tr kR.rf (fun _ q => q.elim) (fun _ q => q)) (fun j a b => by omega) (fun j hj => h2 j hj (by have := (kx16 15 (by omega) j hj).1; omega))
    | succ n ih =>
      intro k hk c' h1 h2
      have ef : c' 559 (16 * x1 + k) = kF c x1 k := h1.1 x1 id hp.1 k (by omega) (by omega)
      have es : c' 568 (16 * k + 15) = ksg k 15 := (hS.kept h1) k 15 (by omega) (by omega)
      obtain ⟨q1, q2, q3⟩ := kx16 15 (by omega) k (by omega)
      have ex : kxor 15 k = ((15 ^^^ k : Nat) : Int) := kxor_nat 15 k (by omega) (by omega)
      have hs := ksg_32 k 15
      have key : ∀ v : Int, v = (if x2 = 0 then 1 else -1) * ksg k 15 * kF c x1 k → kW2 G S0 kM_X11_turnsWhole (d + 1) 2 [some (kA 558), some (kI x1), some (kI x2), some (kI ((k : Int) + 1))] [] (kup c' 560 ((15 ^^^ k : Nat) : Int) v) P := by
        intro v hv
        refine ih (k + 1) (by omega) _ h1.made (fun j hj hj2 => ?_)
        by_cases e : j = 15 ^^^ k
        · subst e
          rw [kup_s, hv]
          unfold whlP
          have e8 : 15 ^^^ ((15 ^^^ k : Nat) : Int).toNat = k := by rw [show ((15 ^^^ k : Nat) : Int).toNat = 15 ^^^ k by omega]; exact q3
          rw [e8]
        · rw [kup_n (Or.inr (by omega))]
          refine h2 j hj ?_
          have hne : 15 ^^^ j ≠ k := fun q => e (by rw [← q]; exact (kx16 15 (by omega) j hj).2.2.symm)
          omega
      refine v_X11_turnsWhole_2 hL (by omega) (by omega) (by omega) (by omega) ⟨fun q => by omega, fun _ => ⟨fun z => ⟨?_, ?_, ?_⟩, fun z => ⟨?_, ?_, ?_⟩⟩⟩
      · rw [es]; unfold k32 at hs ⊢; omega
      · rw [ex]; omega
      · rw [ex, ef, es]; exact key _ (by rw [if_pos z])
      · rw [es]; unfold ksg; split <;> exact k32i (by omega)
      · rw [ex]; omega
      · rw [ex, ef, es]; exact key _ (by rw [if_neg z])
  exact v_X11_turnsWhole hL (by omega) (by omega) (L1 16 0 (by omega) c kR.rf (fun j hj hj2 => by omega))
theorem s_X11_areSame {G : KG} {S0 : KSh} (hL : kLay S0) {d : Nat} {P : Option AV → KMem → Prop} {c : KMem} {x1 x2 : Int} (hp : 0 ≤ x1 ∧ x1 < 100 ∧ 0 ≤ x2 ∧ x2 < 100) (h64 : ∀ k : Int, 0 ≤ k → k < 16 → k64 (kF c x1 k)) (h64b : ∀ k : Int, 0 ≤ k → k < 16 → k64 (kF c x2 k)) (h1 : kEq (kF c x1) (kF c x2) → P (some (kI 1)) c) (h0 : ¬ kEq (kF c x1) (kF c x2) → P (some (kI 0)) c) : kC2 G S0 kM_X11_areSame (d + 1) [kA 558, kI x1, kI x2] c P := by
  have loop : ∀ n k : Nat, k + n = 16 → (∀ j : Int, 0 ≤ j → j < k → kF c x1 j = kF c x2 j) → kW2 G S0 kM_X11_areSame (d + 1) 2 [some (kA 558), some (kI x1), some (kI x2), some (kI k)] [] c P := by
    intro n
    induction n with
    | zero =>
      intro k hk q
      exact v_X11_areSame_2 hL (by omega) (by omega) (by omega) (by omega) ⟨fun _ => h1 (fun j a b => q j a (by omega)), fun z => by omega⟩
    | succ n ih =>
      intro k hk q
      refine v_X11_areSame_2 hL (by omega) (by omega) (by omega) (by omega) ⟨fun z => by omega, fun _ => ⟨h64 k (by omega) (by omega), h64b k (by omega) (by omega), fun z => ?_, fun z => h0 (fun y => z (y k (by omega) (by omega)))⟩⟩
      refine ih (k + 1) (by omega) (fun j a b => ?_)
      by_cases e : j = k
      · subst e; exact z
      · exact q j a (by omega)
  exact v_X11_areSame hL (by omega) (by omega) (loop 16 0 (by omega) (fun j a b => by omega))
theorem s_X11_laysPlace {G : KG} {S0 : KSh} (hL : kLay S0) {d : Nat} {P : Option AV → KMem → Prop} {c : KMem} {x1 x2 x4 : Int} (hp : 0 ≤ x1 ∧ x1 < 100) (h : ∀ c', kEq (kF c' x1) (plcP x2 x4) → kR (fun s => s = x1) c c' → P none c') : kC2 G S0 kM_X11_laysPlace (d + 1) [kA 558, kI x1, kL x2, kL x4] c P := by
  refine v_X11_laysPlace hL (by omega) hp (s_X11_empties hL hp (fun c' h1 h2 => ⟨rfl, ?_⟩))
  refine h _ (fun j a b => ?_) ((((h2.up (by omega) rfl).up (by omega) rfl).up (by omega) rfl).up (by omega) rfl)
  rw [kF_up (by omega) ⟨a, b⟩, kF_up (by omega) ⟨a, b⟩, kF_up (by omega) ⟨a, b⟩, kF_up (by omega) ⟨a, b⟩, h1 j a b]
  unfold plcP
  by_cases e1 : j = 1
  · subst e1; simp
  · by_cases e2 : j = 2
    · subst e2; simp
    · by_cases e4 : j = 4
      · subst e4; simp
      · by_cases e8 : j = 8
        · subst e8; simp
        · simp [e1, e2, e4, e8]
theorem s_X11_gradesOf {G : KG} {S0 : KSh} (hL : kLay S0) {d : Nat} {P : Option AV → KMem → Prop} {c : KMem} {x1 : Int} (hp : 0 ≤ x1 ∧ x1 < 100) (h64 : ∀ k : Int, 0 ≤ k → k < 16 → k64 (kF c x1 k)) (h : P (some (kI (kgr (kF c x1)))) c) : kC2 G S0 kM_X11_gradesOf (d + 1) [kA 558, kI x1] c P := by
  have loop : ∀ n k : Nat, k + n = 16 → kW2 G S0 kM_X11_gradesOf (d + 1) 4 [some (kA 558), some (kI x1), some (kI (kgrN k (kF c x1))), some (kI k)] [] c P := by
    intro n
    induction n with
    | zero =>
      intro k hk
      obtain rfl : k = 16 := by omega
      have := kgrN_lt (f := kF c x1) 16 (by omega)
      exact v_X11_gradesOf_4 hL (by omega) (by omega) (by omega) (by omega) ⟨fun _ => h, fun z => by omega⟩
    | succ n ih =>
      intro k hk
      have h1 := kgrN_lt (f := kF c x1) k (by omega)
      have e1 : kgrN (k + 1) (kF c x1) = if kF c x1 k = 0 then kgrN k (kF c x1) else kgrN k (kF c x1) ||| 2 ^ kpop k := rfl
      refine v_X11_gradesOf_4 hL (by omega) (by omega) (by omega) (by omega) ⟨fun z => by omega, fun _ => ⟨h64 k (by omega) (by omega), fun z => ?_, fun z => ?_⟩⟩
      · have := ih (k + 1) (by omega)
        rw [e1, if_pos z] at this
        exact this
      · have := ih (k + 1) (by omega)
        rw [e1, if_neg z] at this
        have h2 : ∀ n, n < 16 → kpop n ≤ 4 := by decide +kernel
        have h3 := h2 k (by omega)
        have h4 : 2 ^ kpop k < 32 := Nat.lt_of_le_of_lt (Nat.pow_le_pow_right (by omega) h3) (by decide)
        rw [show (k : Int).toNat = k by omega, kshl1 (kpop k) (by omega), kor_nat _ _ (by omega) (by omega)]
        exact this
  exact v_X11_gradesOf hL (by omega) (loop 16 0 (by omega))
