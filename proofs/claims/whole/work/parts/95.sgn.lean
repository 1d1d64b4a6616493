set_option maxRecDepth 4000 in
theorem v_X11_signBy {G : KG} {S0 : KSh} (hL : kLay S0) {d : Nat} {P : Option AV → KMem → Prop} {c : KMem} {x1 x2 : Int} (r1 : -2147483648 ≤ x1 ∧ x1 < 2147483648) (r2 : -2147483648 ≤ x2 ∧ x2 < 2147483648) (H : kW2 G S0 kM_X11_signBy (d + 1) 5 [some (kA 558), some (kI x1), some (kI x2), some (kI 0), some (kI 0), none, none, none] [] c P) : kC2 G S0 kM_X11_signBy (d + 1) [kA 558, kI x1, kI x2] c P := by
  refine k2_met (by decide) rfl (Nat.le_of_ble_eq_true rfl) (l0 := [some (kA 558), some (kI x1), some (kI x2), none, none, none, none, none]) rfl ?_
  refine kw_iconst dX11_signBy_0 ?_
  refine kw_istore_n dX11_signBy_1 (Nat.le_of_ble_eq_true rfl) ?_
  refine kw_iconst dX11_signBy_2 ?_
  refine kw_istore dX11_signBy_3 (Nat.le_of_ble_eq_true rfl) ?_
  exact kw_forget (ls' := [some (kA 558), some (kI x1), some (kI x2), some (kI 0), some (kI 0), none, none, none]) ⟨Or.inr rfl, ⟨Or.inr rfl, ⟨Or.inr rfl, ⟨Or.inr rfl, ⟨Or.inr rfl, ⟨Or.inr rfl, ⟨Or.inr rfl, ⟨Or.inr rfl, trivial⟩⟩⟩⟩⟩⟩⟩⟩ H
set_option maxRecDepth 4000 in
theorem v_X11_signBy_5 {G : KG} {S0 : KSh} (hL : kLay S0) {d : Nat} {P : Option AV → KMem → Prop} {c : KMem} {x1 x2 x3 x4 : Int} (r1 : -2147483648 ≤ x1 ∧ x1 < 2147483648) (r2 : -2147483648 ≤ x2 ∧ x2 < 2147483648) (r3 : -2147483648 ≤ x3 ∧ x3 < 2147483648) (r4 : -2147483648 ≤ x4 ∧ x4 < 2147483648) (hp : 0 ≤ x3 ∧ x3 ≤ x4) (H : (4 ≤ x4 → (kW2 G S0 kM_X11_signBy (d + 1) 44 [some (kA 558), some (kI x1), some (kI x2), some (kI x3), some (kI 0), none, none, none] [] c P)) ∧ (x4 < 4 → (((kand (kshr x1 x4) 1 = 1) → (kW2 G S0 kM_X11_signBy (d + 1) 5 [some (kA 558), some (kI x1), some (kI x2), some (kI (x3 + 1)), some (kI (x4 + 1)), none, none, none] [] (kup c 569 x3 x4) P)) ∧ (¬ (kand (kshr x1 x4) 1 = 1) → (kW2 G S0 kM_X11_signBy (d + 1) 5 [some (kA 558), some (kI x1), some (kI x2), some (kI x3), some (kI (x4 + 1)), none, none, none] [] c P))))) : kW2 G S0 kM_X11_signBy (d + 1) 5 [some (kA 558), some (kI x1), some (kI x2), some (kI x3), some (kI x4), none, none, none] [] c P := by
  refine kw_iload dX11_signBy_5 rfl ?_
  refine kw_iconst dX11_signBy_7 ?_
  refine kw_icmp_ge 41 dX11_signBy_8 (by decide) (k32i (by omega)) (k32i (by omega)) (fun h1 => ?_) (fun h1 => ?_)
  · have H := H.1 h1
    refine kw_iconst dX11_signBy_41 ?_
    refine kw_istore dX11_signBy_42 (Nat.le_of_ble_eq_true rfl) ?_
    exact kw_forget (ls' := [some (kA 558), some (kI x1), some (kI x2), some (kI x3), some (kI 0), none, none, none]) ⟨Or.inr rfl, ⟨Or.inr rfl, ⟨Or.inr rfl, ⟨Or.inr rfl, ⟨Or.inr rfl, ⟨Or.inr rfl, ⟨Or.inr rfl, ⟨Or.inr rfl, trivial⟩⟩⟩⟩⟩⟩⟩⟩ H
  · have H := H.2 h1
    refine kw_iload_n dX11_signBy_11 rfl ?_
    refine kw_iload dX11_signBy_12 rfl ?_
    refine k2_callS2I m_X11_has dX11_signBy_14 wl_X11_80 (Nat.le_of_ble_eq_true rfl) (s_X11_has hL (k32i (by omega)) (k32i (by omega)) (fun h2 => ⟨_, rfl, ?_⟩) (fun h2 => ⟨_, rfl, ?_⟩))
    · have H := H.1 h2
      refine kw_if_ne 23 dX11_signBy_17 (by decide) (k32i (by omega)) (fun _ => ?_) (fun h3 => absurd h3 (by decide))
      refine kw_aload_n dX11_signBy_23 rfl ?_
      refine k2_getR fd_X11_10 dX11_signBy_24 wf_X11_42 (lsh_558 hL) (lrf_558_10 hL) ?_
      refine kw_iload_n dX11_signBy_27 rfl ?_
      refine kw_iload dX11_signBy_28 rfl ?_
      refine k2_iast dX11_signBy_30 (lsh_569 hL) (by omega) (by omega) ?_
      refine kw_iload_n dX11_signBy_31 rfl ?_
      refine kw_iconst dX11_signBy_32 ?_
      refine kw_iadd dX11_signBy_33 ?_
      refine kw_istore_n dX11_signBy_34 (Nat.le_of_ble_eq_true rfl) ?_
      refine kw_iinc dX11_signBy_35 rfl ?_
      refine kw_goto 5 dX11_signBy_38 (by decide) ?_
      exact kw_forget (ls' := [some (kA 558), some (kI x1), some (kI x2), some (kI (x3 + 1)), some (kI (x4 + 1)), none, none, none]) ⟨Or.inr rfl, ⟨Or.inr rfl, ⟨Or.inr rfl, ⟨Or.inr rfl, ⟨Or.inr rfl, ⟨Or.inr rfl, ⟨Or.inr rfl, ⟨Or.inr rfl, trivial⟩⟩⟩⟩⟩⟩⟩⟩ H
    · have H := H.2 h2
      refine kw_if_ne 23 dX11_signBy_17 (by decide) (k32i (by omega)) (fun h4 => absurd h4 (by decide)) (fun _ => ?_)
      refine kw_goto 35 dX11_signBy_20 (by decide) ?_
      refine kw_iinc dX11_signBy_35 rfl ?_
      refine kw_goto 5 dX11_signBy_38 (by decide) ?_
      exact kw_forget (ls' := [some (kA 558), some (kI x1), some (kI x2), some (kI x3), some (kI (x4 + 1)), none, none, none]) ⟨Or.inr rfl, ⟨Or.inr rfl, ⟨Or.inr rfl, ⟨Or.inr rfl, ⟨Or.inr rfl, ⟨Or.inr rfl, ⟨Or.inr rfl, ⟨Or.inr rfl, trivial⟩⟩⟩⟩⟩⟩⟩⟩ H
set_option maxRecDepth 4000 in
theorem v_X11_signBy_44 {G : KG} {S0 : KSh} (hL : kLay S0) {d : Nat} {P : Option AV → KMem → Prop} {c : KMem} {x1 x2 x3 x4 : Int} (r1 : -2147483648 ≤ x1 ∧ x1 < 2147483648) (r2 : -2147483648 ≤ x2 ∧ x2 < 2147483648) (r3 : -2147483648 ≤ x3 ∧ x3 < 2147483648) (r4 : -2147483648 ≤ x4 ∧ x4 < 2147483648) (hp : 0 ≤ x3 ∧ x3 ≤ 4 + x4) (H : (4 ≤ x4 → (kW2 G S0 kM_X11_signBy (d + 1) 86 [some (kA 558), some (kI x1), some (kI x2), some (kI x3), some (kI 1), some (kI 1), none, none] [] c P)) ∧ (x4 < 4 → (((kand (kshr x2 x4) 1 = 1) → (kW2 G S0 kM_X11_signBy (d + 1) 44 [some (kA 558), some (kI x1), some (kI x2), some (kI (x3 + 1)), some (kI (x4 + 1)), none, none, none] [] (kup c 569 x3 x4) P)) ∧ (¬ (kand (kshr x2 x4) 1 = 1) → (kW2 G S0 kM_X11_signBy (d + 1) 44 [some (kA 558), some (kI x1), some (kI x2), some (kI x3), some (kI (x4 + 1)), none, none, none] [] c P))))) : kW2 G S0 kM_X11_signBy (d + 1) 44 [some (kA 558), some (kI x1), some (kI x2), some (kI x3), some (kI x4), none, none, none] [] c P := by
  refine kw_iload dX11_signBy_44 rfl ?_
  refine kw_iconst dX11_signBy_46 ?_
  refine kw_icmp_ge 80 dX11_signBy_47 (by decide) (k32i (by omega)) (k32i (by omega)) (fun h5 => ?_) (fun h5 => ?_)
  · have H := H.1 h5
    refine kw_iconst dX11_signBy_80 ?_
    refine kw_istore dX11_signBy_81 (Nat.le_of_ble_eq_true rfl) ?_
    refine kw_iconst dX11_signBy_83 ?_
    refine kw_istore dX11_signBy_84 (Nat.le_of_ble_eq_true rfl) ?_
    exact kw_forget (ls' := [some (kA 558), some (kI x1), some (kI x2), some (kI x3), some (kI 1), some (kI 1), none, none]) ⟨Or.inr rfl, ⟨Or.inr rfl, ⟨Or.inr rfl, ⟨Or.inr rfl, ⟨Or.inr rfl, ⟨Or.inr rfl, ⟨Or.inr rfl, ⟨Or.inr rfl, trivial⟩⟩⟩⟩⟩⟩⟩⟩ H
  · have H := H.2 h5
    refine kw_iload_n dX11_signBy_50 rfl ?_
    refine kw_iload dX11_signBy_51 rfl ?_
    refine k2_callS2I m_X11_has dX11_signBy_53 wl_X11_80 (Nat.le_of_ble_eq_true rfl) (s_X11_has hL (k32i (by omega)) (k32i (by omega)) (fun h6 => ⟨_, rfl, ?_⟩) (fun h6 => ⟨_, rfl, ?_⟩))
    · have H := H.1 h6
      refine kw_if_ne 62 dX11_signBy_56 (by decide) (k32i (by omega)) (fun _ => ?_) (fun h7 => absurd h7 (by decide))
      refine kw_aload_n dX11_signBy_62 rfl ?_
      refine k2_getR fd_X11_10 dX11_signBy_63 wf_X11_42 (lsh_558 hL) (lrf_558_10 hL) ?_
      refine kw_iload_n dX11_signBy_66 rfl ?_
      refine kw_iload dX11_signBy_67 rfl ?_
      refine k2_iast dX11_signBy_69 (lsh_569 hL) (by omega) (by omega) ?_
      refine kw_iload_n dX11_signBy_70 rfl ?_
      refine kw_iconst dX11_signBy_71 ?_
      refine kw_iadd dX11_signBy_72 ?_
      refine kw_istore_n dX11_signBy_73 (Nat.le_of_ble_eq_true rfl) ?_
      refine kw_iinc dX11_signBy_74 rfl ?_
      refine kw_goto 44 dX11_signBy_77 (by decide) ?_
      exact kw_forget (ls' := [some (kA 558), some (kI x1), some (kI x2), some (kI (x3 + 1)), some (kI (x4 + 1)), none, none, none]) ⟨Or.inr rfl, ⟨Or.inr rfl, ⟨Or.inr rfl, ⟨Or.inr rfl, ⟨Or.inr rfl, ⟨Or.inr rfl, ⟨Or.inr rfl, ⟨Or.inr rfl, trivial⟩⟩⟩⟩⟩⟩⟩⟩ H
    · have H := H.2 h6
      refine kw_if_ne 62 dX11_signBy_56 (by decide) (k32i (by omega)) (fun h8 => absurd h8 (by decide)) (fun _ => ?_)
      refine kw_goto 74 dX11_signBy_59 (by decide) ?_
      refine kw_iinc dX11_signBy_74 rfl ?_
      refine kw_goto 44 dX11_signBy_77 (by decide) ?_
      exact kw_forget (ls' := [some (kA 558), some (kI x1), some (kI x2), some (kI x3), some (kI (x4 + 1)), none, none, none]) ⟨Or.inr rfl, ⟨Or.inr rfl, ⟨Or.inr rfl, ⟨Or.inr rfl, ⟨Or.inr rfl, ⟨Or.inr rfl, ⟨Or.inr rfl, ⟨Or.inr rfl, trivial⟩⟩⟩⟩⟩⟩⟩⟩ H
set_option maxRecDepth 4000 in
theorem v_X11_signBy_86 {G : KG} {S0 : KSh} (hL : kLay S0) {d : Nat} {P : Option AV → KMem → Prop} {c : KMem} {x1 x2 x3 x4 x5 : Int} (r1 : -2147483648 ≤ x1 ∧ x1 < 2147483648) (r2 : -2147483648 ≤ x2 ∧ x2 < 2147483648) (r3 : -2147483648 ≤ x3 ∧ x3 < 2147483648) (r4 : -2147483648 ≤ x4 ∧ x4 < 2147483648) (r5 : 0 ≤ x5 ∧ x5 < 2147483648) (hp : x3 ≤ 8 ∧ 1 ≤ x5) (H : (x3 ≤ x5 → (((kand (kshr (kand x1 x2) 3) 1 = 1) → (P (some (kI (-x4))) c)) ∧ (¬ (kand (kshr (kand x1 x2) 3) 1 = 1) → (P (some (kI x4)) c)))) ∧ (x5 < x3 → (kW2 G S0 kM_X11_signBy (d + 1) 96 [some (kA 558), some (kI x1), some (kI x2), some (kI x3), some (kI x4), some (kI x5), some (kI x5), none] [] c P))) : kW2 G S0 kM_X11_signBy (d + 1) 86 [some (kA 558), some (kI x1), some (kI x2), some (kI x3), some (kI x4), some (kI x5), none, none] [] c P := by
  refine kw_iload dX11_signBy_86 rfl ?_
  refine kw_iload_n dX11_signBy_88 rfl ?_
  refine kw_icmp_ge 173 dX11_signBy_89 (by decide) (k32i (by omega)) (k32i (by omega)) (fun h9 => ?_) (fun h9 => ?_)
  · have H := H.1 h9
    refine kw_iload_n dX11_signBy_173 rfl ?_
    refine kw_iload_n dX11_signBy_174 rfl ?_
    refine kw_iand dX11_signBy_175 ?_
    refine kw_iconst dX11_signBy_176 ?_
    refine k2_callS2I m_X11_has dX11_signBy_177 wl_X11_80 (Nat.le_of_ble_eq_true rfl) (s_X11_has hL (k32_kand _ _) (k32i (by omega)) (fun h10 => ⟨_, rfl, ?_⟩) (fun h10 => ⟨_, rfl, ?_⟩))
    · have H := H.1 h10
      refine kw_if_eq 189 dX11_signBy_180 (by decide) (k32i (by omega)) (fun h11 => absurd h11 (by decide)) (fun _ => ?_)
      refine kw_iload dX11_signBy_183 rfl ?_
      refine kw_ineg dX11_signBy_185 ?_
      refine kw_goto 191 dX11_signBy_186 (by decide) ?_
      refine k2_iret dX11_signBy_191 rfl H
    · have H := H.2 h10
      refine kw_if_eq 189 dX11_signBy_180 (by decide) (k32i (by omega)) (fun _ => ?_) (fun h12 => absurd h12 (by decide))
      refine kw_iload dX11_signBy_189 rfl ?_
      refine k2_iret dX11_signBy_191 rfl H
  · have H := H.2 h9
    refine kw_iload dX11_signBy_92 rfl ?_
    refine kw_istore dX11_signBy_94 (Nat.le_of_ble_eq_true rfl) ?_
    exact kw_forget (ls' := [some (kA 558), some (kI x1), some (kI x2), some (kI x3), some (kI x4), some (kI x5), some (kI x5), none]) ⟨Or.inr rfl, ⟨Or.inr rfl, ⟨Or.inr rfl, ⟨Or.inr rfl, ⟨Or.inr rfl, ⟨Or.inr rfl, ⟨Or.inr rfl, ⟨Or.inr rfl, trivial⟩⟩⟩⟩⟩⟩⟩⟩ H
set_option maxRecDepth 4000 in
theorem v_X11_signBy_96 {G : KG} {S0 : KSh} (hL : kLay S0) {d : Nat} {P : Option AV → KMem → Prop} {c : KMem} {x1 x2 x3 x4 x5 x6 : Int} (r1 : -2147483648 ≤ x1 ∧ x1 < 2147483648) (r2 : -2147483648 ≤ x2 ∧ x2 < 2147483648) (r3 : -2147483648 ≤ x3 ∧ x3 < 2147483648) (r4 : -2147483648 ≤ x4 ∧ x4 < 2147483648) (r5 : 0 ≤ x5 ∧ x5 < 2147483648) (r6 : -2147483648 ≤ x6 ∧ x6 < 2147483648) (hp : x5 < x3 ∧ x3 ≤ 8 ∧ x6 ≤ x5) (H : (x6 ≤ 0 → (kW2 G S0 kM_X11_signBy (d + 1) 86 [some (kA 558), some (kI x1), some (kI x2), some (kI x3), some (kI x4), some (kI (x5 + 1)), none, none] [] c P)) ∧ (0 < x6 → ((k32 (c 569 x6)) ∧ ((k32 (c 569 (x6 - 1))) ∧ (((c 569 (x6 - 1)) ≤ (c 569 x6) → (kW2 G S0 kM_X11_signBy (d + 1) 86 [some (kA 558), some (kI x1), some (kI x2), some (kI x3), some (kI x4), some (kI (x5 + 1)), none, none] [] c P)) ∧ ((c 569 x6) < (c 569 (x6 - 1)) → (kW2 G S0 kM_X11_signBy (d + 1) 96 [some (kA 558), some (kI x1), some (kI x2), some (kI x3), some (kI (-x4)), some (kI x5), some (kI (x6 + -1)), none] [] (kup (kup c 569 x6 (c 569 (x6 - 1))) 569 (x6 - 1) (c 569 x6)) P))))))) : kW2 G S0 kM_X11_signBy (d + 1) 96 [some (kA 558), some (kI x1), some (kI x2), some (kI x3), some (kI x4), some (kI x5), some (kI x6), none] [] c P := by
  refine kw_iload dX11_signBy_96 rfl ?_
  refine kw_if_le 167 dX11_signBy_98 (by decide) (k32i (by omega)) (fun h13 => ?_) (fun h13 => ?_)
  · have H := H.1 h13
    refine kw_iinc dX11_signBy_167 rfl ?_
    refine kw_goto 86 dX11_signBy_170 (by decide) ?_
    exact kw_forget (ls' := [some (kA 558), some (kI x1), some (kI x2), some (kI x3), some (kI x4), some (kI (x5 + 1)), none, none]) ⟨Or.inr rfl, ⟨Or.inr rfl, ⟨Or.inr rfl, ⟨Or.inr rfl, ⟨Or.inr rfl, ⟨Or.inr rfl, ⟨Or.inl rfl, ⟨Or.inr rfl, trivial⟩⟩⟩⟩⟩⟩⟩⟩ H
  · have H := H.2 h13
    refine kw_aload_n dX11_signBy_101 rfl ?_
    refine k2_getR fd_X11_10 dX11_signBy_102 wf_X11_42 (lsh_558 hL) (lrf_558_10 hL) ?_
    refine kw_iload dX11_signBy_105 rfl ?_
    refine k2_iald dX11_signBy_107 (lsh_569 hL) (by omega) (by omega) ?_
    refine kw_aload_n dX11_signBy_108 rfl ?_
    refine k2_getR fd_X11_10 dX11_signBy_109 wf_X11_42 (lsh_558 hL) (lrf_558_10 hL) ?_
    refine kw_iload dX11_signBy_112 rfl ?_
    refine kw_iconst dX11_signBy_114 ?_
    refine kw_isub dX11_signBy_115 ?_
    refine k2_iald dX11_signBy_116 (lsh_569 hL) (by omega) (by omega) ?_
    have o15 := H.1
    have H := H.2
    have o16 := H.1
    have H := H.2
    refine kw_icmp_ge 167 dX11_signBy_117 (by decide) o15 o16 (fun h14 => ?_) (fun h14 => ?_)
    · have H := H.1 h14
      refine kw_iinc dX11_signBy_167 rfl ?_
      refine kw_goto 86 dX11_signBy_170 (by decide) ?_
      exact kw_forget (ls' := [some (kA 558), some (kI x1), some (kI x2), some (kI x3), some (kI x4), some (kI (x5 + 1)), none, none]) ⟨Or.inr rfl, ⟨Or.inr rfl, ⟨Or.inr rfl, ⟨Or.inr rfl, ⟨Or.inr rfl, ⟨Or.inr rfl, ⟨Or.inl rfl, ⟨Or.inr rfl, trivial⟩⟩⟩⟩⟩⟩⟩⟩ H
    · have H := H.2 h14
      refine kw_aload_n dX11_signBy_120 rfl ?_
      refine k2_getR fd_X11_10 dX11_signBy_121 wf_X11_42 (lsh_558 hL) (lrf_558_10 hL) ?_
      refine kw_iload dX11_signBy_124 rfl ?_
      refine k2_iald dX11_signBy_126 (lsh_569 hL) (by omega) (by omega) ?_
      refine kw_istore dX11_signBy_127 (Nat.le_of_ble_eq_true rfl) ?_
      refine kw_aload_n dX11_signBy_129 rfl ?_
      refine k2_getR fd_X11_10 dX11_signBy_130 wf_X11_42 (lsh_558 hL) (lrf_558_10 hL) ?_
      refine kw_iload dX11_signBy_133 rfl ?_
      refine kw_aload_n dX11_signBy_135 rfl ?_
      refine k2_getR fd_X11_10 dX11_signBy_136 wf_X11_42 (lsh_558 hL) (lrf_558_10 hL) ?_
      refine kw_iload dX11_signBy_139 rfl ?_
      refine kw_iconst dX11_signBy_141 ?_
      refine kw_isub dX11_signBy_142 ?_
      refine k2_iald dX11_signBy_143 (lsh_569 hL) (by omega) (by omega) ?_
      refine k2_iast dX11_signBy_144 (lsh_569 hL) (by omega) (by omega) ?_
      refine kw_aload_n dX11_signBy_145 rfl ?_
      refine k2_getR fd_X11_10 dX11_signBy_146 wf_X11_42 (lsh_558 hL) (lrf_558_10 hL) ?_
      refine kw_iload dX11_signBy_149 rfl ?_
      refine kw_iconst dX11_signBy_151 ?_
      refine kw_isub dX11_signBy_152 ?_
      refine kw_iload dX11_signBy_153 rfl ?_
      refine k2_iast dX11_signBy_155 (lsh_569 hL) (by omega) (by omega) ?_
      refine kw_iload dX11_signBy_156 rfl ?_
      refine kw_ineg dX11_signBy_158 ?_
      refine kw_istore dX11_signBy_159 (Nat.le_of_ble_eq_true rfl) ?_
      refine kw_iinc dX11_signBy_161 rfl ?_
      refine kw_goto 96 dX11_signBy_164 (by decide) ?_
      exact kw_forget (ls' := [some (kA 558), some (kI x1), some (kI x2), some (kI x3), some (kI (-x4)), some (kI x5), some (kI (x6 + -1)), none]) ⟨Or.inr rfl, ⟨Or.inr rfl, ⟨Or.inr rfl, ⟨Or.inr rfl, ⟨Or.inr rfl, ⟨Or.inr rfl, ⟨Or.inr rfl, ⟨Or.inl rfl, trivial⟩⟩⟩⟩⟩⟩⟩⟩ H
def gD : List Int → Nat → Int
  | [], _ => 0
  | x :: _, 0 => x
  | _ :: t, n + 1 => gD t n
def gS : List Int → Nat → Int → List Int
  | [], _, _ => []
  | _ :: t, 0, v => v :: t
  | x :: t, n + 1, v => x :: gS t n v
theorem gS_len : ∀ (U : List Int) (n : Nat) (v : Int), (gS U n v).length = U.length
  | [], _, _ => rfl
  | _ :: _, 0, _ => rfl
  | x :: t, n + 1, v => by rw [gS, List.length_cons, List.length_cons, gS_len t n v]
theorem gD_S : ∀ (U : List Int) (n : Nat) (v : Int) (m : Nat), n < U.length → gD (gS U n v) m = if m = n then v else gD U m
  | [], n, v, m, h => absurd h (Nat.not_lt_zero _)
  | x :: t, 0, v, 0, h => rfl
  | x :: t, 0, v, m + 1, h => by rw [if_neg (by omega)]; rfl
  | x :: t, n + 1, v, 0, h => by rw [if_neg (by omega)]; rfl
  | x :: t, n + 1, v, m + 1, h => by
    have := gD_S t n v m (by rw [List.length_cons] at h; omega)
    show gD (gS t n v) m = if m + 1 = n + 1 then v else gD t m
    rw [this]
    by_cases e : m = n
    · rw [if_pos e, if_pos (by omega)]
    · rw [if_neg e, if_neg (by omega)]
theorem gD_app : ∀ (U : List Int) (v : Int) (m : Nat), gD (U ++ [v]) m = if m = U.length then v else gD U m
  | [], v, 0 => rfl
  | [], v, m + 1 => by rw [if_neg (by simp)]; rfl
  | x :: t, v, 0 => by rw [if_neg (by simp)]; rfl
  | x :: t, v, m + 1 => by
    have := gD_app t v m
    show gD (t ++ [v]) m = if m + 1 = t.length + 1 then v else gD t m
    rw [this]
    by_cases e : m = t.length
    · rw [if_pos e, if_pos (by omega)]
    · rw [if_neg e, if_neg (by omega)]
/-- the units of one, behind others -/
def sgL (x : Nat) : Nat → Nat → List Int → List Int
  | 0, _, U => U
  | n + 1, k, U => sgL x n (k + 1) (if Nat.testBit x k = true then U ++ [(k : Int)] else U)
/-- one unit goes to its place -/
def sgI : Nat → List Int → Int → List Int × Int
  | 0, U, s => (U, s)
  | q + 1, U, s => if gD U (q + 1) < gD U q then sgI q (gS (gS U (q + 1) (gD U q)) q (gD U (q + 1))) (-s) else (U, s)
def sgO : Nat → Nat → List Int → Int → Int
  | 0, _, _, s => s
  | n + 1, i, U, s => sgO n (i + 1) (sgI i U s).1 (sgI i U s).2
def sgF (a b : Nat) : Int := if kand (kshr (kand (a : Int) (b : Int)) 3) 1 = 1 then -(sgO ((sgL b 4 0 (sgL a 4 0 [])).length - 1) 1 (sgL b 4 0 (sgL a 4 0 [])) 1) else sgO ((sgL b 4 0 (sgL a 4 0 [])).length - 1) 1 (sgL b 4 0 (sgL a 4 0 [])) 1
theorem sg_c : ∀ a, a < 16 → ∀ b, b < 16 → sgF a b = ksg a b := by decide +kernel
def sgV (U : List Int) : Prop := ∀ m : Nat, 0 ≤ gD U m ∧ gD U m ≤ 3
theorem sgV.app {U : List Int} {k : Nat} (h : sgV U) (hk : k < 4) : sgV (U ++ [(k : Int)]) := fun m => by
  rw [gD_app]
  split
  · omega
  · exact h m
theorem sgV.set {U : List Int} {n : Nat} {v : Int} (h : sgV U) (hn : n < U.length) (hv : 0 ≤ v ∧ v ≤ 3) : sgV (gS U n v) := fun m => by
  rw [gD_S U n v m hn]
  split
  · exact hv
  · exact h m
def sgR (U : List Int) (c : KMem) : Prop := ∀ m : Nat, m < U.length → c 569 (m : Int) = gD U m
theorem sgR.app {U : List Int} {v : Int} {c : KMem} (h : sgR U c) : sgR (U ++ [v]) (kup c 569 (U.length : Int) v) := fun m hm => by
  rw [List.length_append, List.length_singleton] at hm
  rw [gD_app]
  by_cases e : m = U.length
  · rw [if_pos e, e, kup_s]
  · rw [if_neg e, kup_n (Or.inr (by omega))]; exact h m (by omega)
theorem sgR.set {U : List Int} {n : Nat} {v : Int} {c : KMem} (h : sgR U c) (hn : n < U.length) : sgR (gS U n v) (kup c 569 (n : Int) v) := fun m hm => by
  rw [gS_len] at hm
  rw [gD_S U n v m hn]
  by_cases e : m = n
  · rw [if_pos e, e, kup_s]
  · rw [if_neg e, kup_n (Or.inr (by omega))]; exact h m hm
section SGN
variable {G : KG} {S0 : KSh} {d : Nat} {P : Option AV → KMem → Prop} {c : KMem}
theorem t_signBy (hL : kLay S0) {a b : Nat} (ha : a < 16) (hb : b < 16) (h : ∀ c', (∀ x i : Int, x ≠ 569 → c' x i = c x i) → P (some (kI (ksg a b))) c') : kC2 G S0 kM_X11_signBy (d + 1) [kA 558, kI (a : Int), kI (b : Int)] c P := by
  rw [← sg_c a ha b hb] at h
  unfold sgF at h
  have L3 : ∀ n i : Nat, 1 ≤ i → ∀ (U : List Int) (s : Int) (c' : KMem), U.length ≤ 8 → (i + n = U.length ∨ (n = 0 ∧ U.length ≤ i)) → i ≤ 8 → sgV U → sgR U c' → -1 ≤ s ∧ s ≤ 1 → (∀ x i : Int, x ≠ 569 → c' x i = c x i) → (∀ c', (∀ x i : Int, x ≠ 569 → c' x i = c x i) → P (some (kI (if kand (kshr (kand (a : Int) (b : Int)) 3) 1 = 1 then -(sgO n i U s) else sgO n i U s))) c') → kW2 G S0 kM_X11_signBy (d + 1) 86 [some (kA 558), some (kI (a : Int)), some (kI (b : Int)), some (kI (U.length : Int)), some (kI s), some (kI (i : Int)), none, none] [] c' P := by
    intro n
    induction n with
    | zero =>
      intro i hi U s c' hU hn h8 hv hr hs fr K
      refine v_X11_signBy_86 hL (by omega) (by omega) (by omega) (by omega) (by omega) (by omega) ⟨fun _ => ⟨fun z => ?_, fun z => ?_⟩, fun z => by omega⟩
      · have := K c' fr
        rw [if_pos z] at this; exact this
      · have := K c' fr
        rw [if_neg z] at this; exact this
    | succ n ih =>
      intro i hi U s c' hU hn h8 hv hr hs fr K
      have hin : i < U.length := by omega
      refine v_X11_signBy_86 hL (by omega) (by omega) (by omega) (by omega) (by omega) (by omega) ⟨fun z => by omega, fun _ => ?_⟩
      have inner : ∀ (q : Nat) (U2 : List Int) (s2 : Int) (c2 : KMem), q ≤ i → U2.length = U.length → sgV U2 → sgR U2 c2 → -1 ≤ s2 ∧ s2 ≤ 1 → (∀ x i : Int, x ≠ 569 → c2 x i = c x i) → sgI q U2 s2 = sgI i U s → kW2 G S0 kM_X11_signBy (d + 1) 96 [some (kA 558), some (kI (a : Int)), some (kI (b : Int)), some (kI (U.length : Int)), some (kI s2), some (kI (i : Int)), some (kI (q : Int)), none] [] c2 P := by
        have out : ∀ (U2 : List Int) (s2 : Int) (c2 : KMem), U2.length = U.length → sgV U2 → sgR U2 c2 → -1 ≤ s2 ∧ s2 ≤ 1 → (∀ x i : Int, x ≠ 569 → c2 x i = c x i) → (U2, s2) = sgI i U s → kW2 G S0 kM_X11_signBy (d + 1) 86 [some (kA 558), some (kI (a : Int)), some (kI (b : Int)), some (kI (U.length : Int)), some (kI s2), some (kI ((i : Int) + 1)), none, none] [] c2 P := by
          intro U2 s2 c2 e1 e2 e3 e4 e5 e6
          have e7 : sgO (n + 1) i U s = sgO n (i + 1) U2 s2 := by rw [sgO, ← e6]
          rw [e7] at K
          have := ih (i + 1) (by omega) U2 s2 c2 (by omega) (by omega) (by omega) e2 e3 e4 e5 K
          rw [e1] at this
          exact this
        intro q
        induction q with
        | zero =>
          intro U2 s2 c2 hq e1 e2 e3 e4 e5 e6
          refine v_X11_signBy_96 hL (by omega) (by omega) (by omega) (by omega) (by omega) (by omega) (by omega) ⟨fun _ => ?_, fun z => by omega⟩
          exact out U2 s2 c2 e1 e2 e3 e4 e5 e6
        | succ q ihq =>
          intro U2 s2 c2 hq e1 e2 e3 e4 e5 e6
          have g1 : c2 569 ((q + 1 : Nat) : Int) = gD U2 (q + 1) := e3 (q + 1) (by omega)
          have g0 : c2 569 (((q + 1 : Nat) : Int) - 1) = gD U2 q := by
            rw [show ((q + 1 : Nat) : Int) - 1 = (q : Int) by omega]; exact e3 q (by omega)
          have b1 := e2 (q + 1)
          have b0 := e2 q
          refine v_X11_signBy_96 hL (by omega) (by omega) (by omega) (by omega) (by omega) (by omega) (by omega) ⟨fun z => by omega, fun _ => ⟨by rw [g1]; exact k32i (by omega), by rw [g0]; exact k32i (by omega), fun z => ?_, fun z => ?_⟩⟩
          · rw [g1, g0] at z
            refine out U2 s2 c2 e1 e2 e3 e4 e5 ?_
            rw [← e6, sgI, if_neg (by omega)]
          · rw [g1, g0] at z
            rw [g1, g0, show ((q + 1 : Nat) : Int) - 1 = (q : Int) by omega, show ((q + 1 : Nat) : Int) + -1 = (q : Int) by omega]
            refine ihq (gS (gS U2 (q + 1) (gD U2 q)) q (gD U2 (q + 1))) (-s2) _ (by omega) (by rw [gS_len, gS_len]; exact e1) ((e2.set (by omega) b0).set (by rw [gS_len]; omega) b1) ((e3.set (by omega)).set (by rw [gS_len]; omega)) (by omega) (fun x i hx => by rw [kup_n (Or.inl hx), kup_n (Or.inl hx)]; exact e5 x i hx) ?_
            rw [← e6]
            conv => rhs; rw [sgI, if_pos z]
      exact inner i U s c' (Nat.le_refl _) rfl hv hr hs fr rfl
  have L2 : ∀ n k : Nat, k + n = 4 → ∀ (U : List Int) (c' : KMem), U.length ≤ 4 + k → sgV U → sgR U c' → (∀ x i : Int, x ≠ 569 → c' x i = c x i) → sgL b n k U = sgL b 4 0 (sgL a 4 0 []) → kW2 G S0 kM_X11_signBy (d + 1) 44 [some (kA 558), some (kI (a : Int)), some (kI (b : Int)), some (kI (U.length : Int)), some (kI (k : Int)), none, none, none] [] c' P := by
    intro n
    induction n with
    | zero =>
      intro k hk U c' hU hv hr fr e
      refine v_X11_signBy_44 hL (by omega) (by omega) (by omega) (by omega) (by omega) ⟨fun _ => ?_, fun z => by omega⟩
      have e' : U = sgL b 4 0 (sgL a 4 0 []) := e
      rw [← e'] at h
      exact L3 (U.length - 1) 1 (by omega) U 1 c' (by omega) (by omega) (by omega) hv hr (by omega) fr h
    | succ n ih =>
      intro k hk U c' hU hv hr fr e
      have bit := kbit_iff (m := (b : Int)) (k := k) (by omega) (by omega)
      have bb : kbit (b : Int) k = Nat.testBit b k := rfl
      rw [bb] at bit
      refine v_X11_signBy_44 hL (by omega) (by omega) (by omega) (by omega) (by omega) ⟨fun z => by omega, fun _ => ⟨fun z => ?_, fun z => ?_⟩⟩
      · have := ih (k + 1) (by omega) (U ++ [(k : Int)]) (kup c' 569 (U.length : Int) (k : Int)) (by rw [List.length_append, List.length_singleton]; omega) (hv.app (by omega)) hr.app (fun x i hx => (kup_n (Or.inl hx)).trans (fr x i hx)) (by rw [← e]; conv => rhs; rw [sgL, if_pos (bit.mp z)])
        rw [List.length_append, List.length_singleton] at this
        exact this
      · exact ih (k + 1) (by omega) U c' (by omega) hv hr fr (by rw [← e]; conv => rhs; rw [sgL, if_neg (fun w => z (bit.mpr w))])
  have L1 : ∀ n k : Nat, k + n = 4 → ∀ (U : List Int) (c' : KMem), U.length ≤ k → sgV U → sgR U c' → (∀ x i : Int, x ≠ 569 → c' x i = c x i) → sgL a n k U = sgL a 4 0 [] → kW2 G S0 kM_X11_signBy (d + 1) 5 [some (kA 558), some (kI (a : Int)), some (kI (b : Int)), some (kI (U.length : Int)), some (kI (k : Int)), none, none, none] [] c' P := by
    intro n
    induction n with
    | zero =>
      intro k hk U c' hU hv hr fr e
      refine v_X11_signBy_5 hL (by omega) (by omega) (by omega) (by omega) (by omega) ⟨fun _ => ?_, fun z => by omega⟩
      have e' : U = sgL a 4 0 [] := e
      exact L2 4 0 (by omega) U c' (by omega) hv hr fr (by rw [e'])
    | succ n ih =>
      intro k hk U c' hU hv hr fr e
      have bit := kbit_iff (m := (a : Int)) (k := k) (by omega) (by omega)
      have bb : kbit (a : Int) k = Nat.testBit a k := rfl
      rw [bb] at bit
      refine v_X11_signBy_5 hL (by omega) (by omega) (by omega) (by omega) (by omega) ⟨fun z => by omega, fun _ => ⟨fun z => ?_, fun z => ?_⟩⟩
      · have := ih (k + 1) (by omega) (U ++ [(k : Int)]) (kup c' 569 (U.length : Int) (k : Int)) (by rw [List.length_append, List.length_singleton]; omega) (hv.app (by omega)) hr.app (fun x i hx => (kup_n (Or.inl hx)).trans (fr x i hx)) (by rw [← e]; conv => rhs; rw [sgL, if_pos (bit.mp z)])
        rw [List.length_append, List.length_singleton] at this
        exact this
      · exact ih (k + 1) (by omega) U c' (by omega) hv hr fr (by rw [← e]; conv => rhs; rw [sgL, if_neg (fun w => z (bit.mpr w))])
  exact v_X11_signBy hL (by omega) (by omega) (L1 4 0 (by omega) [] c (Nat.le_refl _) (fun m => ⟨Int.le_refl _, (by decide : (0 : Int) ≤ 3)⟩) (fun m hm => absurd hm (Nat.not_lt_zero _)) (fun _ _ _ => rfl) rfl)
end SGN
