set_option maxRecDepth 4000 in
theorem v_X11_here {G : KG} {S0 : KSh} (hL : kLay S0) {d : Nat} {P : Option AV → KMem → Prop} {c : KMem}  (hp : 0 ≤ c 558 23 ∧ c 558 23 ≤ 120 ∧ 0 ≤ c 558 24 ∧ c 558 24 ≤ 120 ∧ 0 ≤ c 558 30 ∧ c 558 30 ≤ 1) (H : (k32 (c 558 23)) ∧ ((k32 (c 558 24)) ∧ (((c 558 23) < (c 558 24) → ((k32 (c 558 30)) ∧ (((c 558 30) = 0 → ((0 ≤ (c 558 23) ∧ (c 558 23) < 140) ∧ (P (some (kI (kand (c 570 (c 558 23)) 255))) c))) ∧ ((c 558 30) ≠ 0 → ((0 ≤ (c 558 23) ∧ (c 558 23) < 120) ∧ (P (some (kI (kand (c 571 (c 558 23)) 255))) c)))))) ∧ ((c 558 24) ≤ (c 558 23) → (P (some (kI (-1))) c))))) : kC2 G S0 kM_X11_here d [kA 558] c P := by
  refine k2_met (by decide) rfl (Nat.le_of_ble_eq_true rfl) (l0 := [some (kA 558)]) rfl ?_
  refine kw_aload_n dX11_here_0 rfl ?_
  refine k2_getI fd_X11_23 dX11_here_1 wf_X11_183 (lsh_558 hL) ?_
  refine kw_eI (b := (c 558 23)) rfl ?_
  refine kw_aload_n dX11_here_4 rfl ?_
  refine k2_getI fd_X11_24 dX11_here_5 wf_X11_186 (lsh_558 hL) ?_
  refine kw_eI (b := (c 558 24)) rfl ?_
  have o2 := H.1
  have H := H.2
  have o3 := H.1
  have H := H.2
  refine kw_icmp_lt 15 dX11_here_8 (by decide) o2 o3 (fun h1 => ?_) (fun h1 => ?_)
  · have H := H.1 h1
    refine kw_aload_n dX11_here_15 rfl ?_
    refine k2_getI fd_X11_30 dX11_here_16 wf_X11_189 (lsh_558 hL) ?_
    refine kw_eI (b := (c 558 30)) rfl ?_
    have o5 := H.1
    have H := H.2
    refine kw_if_eq 34 dX11_here_19 (by decide) o5 (fun h4 => ?_) (fun h4 => ?_)
    · have H := H.1 h4
      refine kw_aload_n dX11_here_34 rfl ?_
      refine k2_getR fd_X11_16 dX11_here_35 wf_X11_45 (lsh_558 hL) (lrf_558_16 hL) ?_
      refine kw_aload_n dX11_here_38 rfl ?_
      refine k2_getI fd_X11_23 dX11_here_39 wf_X11_183 (lsh_558 hL) ?_
      refine kw_eI (b := (c 558 23)) rfl ?_
      have o6 := H.1
      have H := H.2
      refine k2_bald dX11_here_42 (lsh_570 hL) (by omega) o6 ?_
      refine kw_sipush dX11_here_43 (by decide) ?_
      refine kw_iand dX11_here_46 ?_
      refine k2_iret dX11_here_47 rfl H
    · have H := H.2 h4
      refine kw_aload_n dX11_here_22 rfl ?_
      refine k2_getR fd_X11_17 dX11_here_23 wf_X11_49 (lsh_558 hL) (lrf_558_17 hL) ?_
      refine kw_aload_n dX11_here_26 rfl ?_
      refine k2_getI fd_X11_23 dX11_here_27 wf_X11_183 (lsh_558 hL) ?_
      refine kw_eI (b := (c 558 23)) rfl ?_
      have o7 := H.1
      have H := H.2
      refine k2_bald dX11_here_30 (lsh_571 hL) (by omega) o7 ?_
      refine kw_goto 43 dX11_here_31 (by decide) ?_
      refine kw_sipush dX11_here_43 (by decide) ?_
      refine kw_iand dX11_here_46 ?_
      refine k2_iret dX11_here_47 rfl H
  · have H := H.2 h1
    refine kw_iconst dX11_here_11 ?_
    refine kw_goto 47 dX11_here_12 (by decide) ?_
    refine k2_iret dX11_here_47 rfl H
set_option maxRecDepth 4000 in
theorem v_X11_wrongAt {G : KG} {S0 : KSh} (hL : kLay S0) {d : Nat} {P : Option AV → KMem → Prop} {c : KMem} {x1 x2 : Int} (r1 : -2147483648 ≤ x1 ∧ x1 < 2147483648) (r2 : -2147483648 ≤ x2 ∧ x2 < 2147483648) (H : P (some (kI 0)) (kup c 558 25 (((-1000) * x1) - x2))) : kC2 G S0 kM_X11_wrongAt d [kA 558, kI x1, kI x2] c P := by
  refine k2_met (by decide) rfl (Nat.le_of_ble_eq_true rfl) (l0 := [some (kA 558), some (kI x1), some (kI x2)]) rfl ?_
  refine kw_aload_n dX11_wrongAt_0 rfl ?_
  refine kw_sipush dX11_wrongAt_1 (by decide) ?_
  refine kw_iload_n dX11_wrongAt_4 rfl ?_
  refine kw_imul dX11_wrongAt_5 ?_
  refine kw_iload_n dX11_wrongAt_6 rfl ?_
  refine kw_isub dX11_wrongAt_7 ?_
  refine k2_putI fp_X11_25 dX11_wrongAt_8 wf_X11_193 (lsh_558 hL) ?_
  refine kw_iconst dX11_wrongAt_11 ?_
  refine k2_zret dX11_wrongAt_12 rfl (Or.inl rfl) H
set_option maxRecDepth 4000 in
theorem v_X11_takesSign {G : KG} {S0 : KSh} (hL : kLay S0) {d : Nat} {P : Option AV → KMem → Prop} {c : KMem} {x1 : Int} (r1 : -2147483648 ≤ x1 ∧ x1 < 2147483648) (H : kC2 G S0 kM_X11_here d [kA 558] c (kRI (fun z1 c2 => (k32 z1) ∧ ((z1 = x1 → (P (some (kI 1)) (kup c2 558 23 ((c2 558 23) + 1)))) ∧ (z1 ≠ x1 → (kC2 G S0 kM_X11_wrongAt d [kA 558, kI 1, kI (c2 558 23)] c2 (kRI (fun z5 c6 => (z5 = 0 ∨ z5 = 1) ∧ (P (some (kI z5)) c6))))))))) : kC2 G S0 kM_X11_takesSign (d + 1) [kA 558, kI x1] c P := by
  refine k2_met (by decide) rfl (Nat.le_of_ble_eq_true rfl) (l0 := [some (kA 558), some (kI x1)]) rfl ?_
  refine kw_aload_n dX11_takesSign_0 rfl ?_
  refine k2_callV0I (ci := 9) (N := 38) (T := TX11) rfl (lsh_558 hL) m_X11_here dX11_takesSign_1 wl_X11_196 (Nat.le_of_ble_eq_true rfl) (kC2_mono H (fun r c2 H => ?_))
  obtain ⟨z1, rfl, H⟩ := H
  refine ⟨z1, rfl, ?_⟩
  refine kw_iload_n dX11_takesSign_4 rfl ?_
  have o4 := H.1
  have H := H.2
  refine kw_icmp_eq 18 dX11_takesSign_5 (by decide) o4 (k32i (by omega)) (fun h3 => ?_) (fun h3 => ?_)
  · have H := H.1 h3
    refine kw_aload_n dX11_takesSign_18 rfl ?_
    refine kw_aload_n dX11_takesSign_19 rfl ?_
    refine k2_getI fd_X11_23 dX11_takesSign_20 wf_X11_183 (lsh_558 hL) ?_
    refine kw_iconst dX11_takesSign_23 ?_
    refine kw_iadd dX11_takesSign_24 ?_
    refine k2_putI fp_X11_23 dX11_takesSign_25 wf_X11_183 (lsh_558 hL) ?_
    refine kw_iconst dX11_takesSign_28 ?_
    refine k2_zret dX11_takesSign_29 rfl (Or.inr rfl) H
  · have H := H.2 h3
    refine kw_aload_n dX11_takesSign_8 rfl ?_
    refine kw_iconst dX11_takesSign_9 ?_
    refine kw_aload_n dX11_takesSign_10 rfl ?_
    refine k2_getI fd_X11_23 dX11_takesSign_11 wf_X11_183 (lsh_558 hL) ?_
    refine k2_callV2I (ci := 9) (N := 38) (T := TX11) rfl (lsh_558 hL) m_X11_wrongAt dX11_takesSign_14 wl_X11_200 (Nat.le_of_ble_eq_true rfl) (kC2_mono H (fun r c6 H => ?_))
    obtain ⟨z5, rfl, H⟩ := H
    refine ⟨z5, rfl, ?_⟩
    have o7 := H.1
    have H := H.2
    refine k2_zret dX11_takesSign_17 rfl o7 H
set_option maxRecDepth 4000 in
theorem v_X11_isDigit {G : KG} {S0 : KSh} (hL : kLay S0) {d : Nat} {P : Option AV → KMem → Prop} {c : KMem} {x0 : Int} (r0 : -2147483648 ≤ x0 ∧ x0 < 2147483648) (H : ((48 ≤ x0 ∧ x0 ≤ 57) → (P (some (kI 1)) c)) ∧ (¬ (48 ≤ x0 ∧ x0 ≤ 57) → (P (some (kI 0)) c))) : kC2 G S0 kM_X11_isDigit (d + 1) [kI x0] c P := by
  refine k2_met (by decide) rfl (Nat.le_of_ble_eq_true rfl) (l0 := [some (kI x0)]) rfl ?_
  refine kw_iload_n dX11_isDigit_0 rfl ?_
  refine kw_bipush dX11_isDigit_1 (by decide) ?_
  refine kw_bipush dX11_isDigit_3 (by decide) ?_
  refine k2_callS3I m_X11_in dX11_isDigit_5 wl_X11_100 (Nat.le_of_ble_eq_true rfl) (s_X11_in hL (k32i (by omega)) (k32i (by omega)) (k32i (by omega)) (fun h1 => ⟨_, rfl, ?_⟩) (fun h1 => ⟨_, rfl, ?_⟩))
  · have H := H.1 h1
    refine k2_zret dX11_isDigit_8 rfl (Or.inr rfl) H
  · have H := H.2 h1
    refine k2_zret dX11_isDigit_8 rfl (Or.inl rfl) H
set_option maxRecDepth 4000 in
theorem v_X11_readsNumber {G : KG} {S0 : KSh} (hL : kLay S0) {d : Nat} {P : Option AV → KMem → Prop} {c : KMem} {x1 : Int} (r1 : -2147483648 ≤ x1 ∧ x1 < 2147483648) (H : kC2 G S0 kM_X11_here (d + 1) [kA 558] c (kRI (fun z1 c2 => kC2 G S0 kM_X11_isDigit (d + 1) [kI z1] c2 (kRI (fun z3 c4 => (k32 z3) ∧ ((z3 ≠ 0 → (kW2 G S0 kM_X11_readsNumber (d + 2) 30 [some (kA 558), some (kI x1), some (kI (c 558 23))] [] (kup c4 558 26 0) P)) ∧ (z3 = 0 → (kC2 G S0 kM_X11_wrongAt (d + 1) [kA 558, kI 1, kI (c4 558 23)] c4 (kRI (fun z7 c8 => (z7 = 0 ∨ z7 = 1) ∧ (P (some (kI z7)) c8))))))))))) : kC2 G S0 kM_X11_readsNumber (d + 2) [kA 558, kI x1] c P := by
  refine k2_met (by decide) rfl (Nat.le_of_ble_eq_true rfl) (l0 := [some (kA 558), some (kI x1), none]) rfl ?_
  refine kw_aload_n dX11_readsNumber_0 rfl ?_
  refine k2_getI fd_X11_23 dX11_readsNumber_1 wf_X11_183 (lsh_558 hL) ?_
  refine kw_istore_n dX11_readsNumber_4 (Nat.le_of_ble_eq_true rfl) ?_
  refine kw_aload_n dX11_readsNumber_5 rfl ?_
  refine k2_callV0I (ci := 9) (N := 38) (T := TX11) rfl (lsh_558 hL) m_X11_here dX11_readsNumber_6 wl_X11_196 (Nat.le_of_ble_eq_true rfl) (kC2_mono H (fun r c2 H => ?_))
  obtain ⟨z1, rfl, H⟩ := H
  refine ⟨z1, rfl, ?_⟩
  refine k2_callS1I m_X11_isDigit dX11_readsNumber_9 wl_X11_203 (Nat.le_of_ble_eq_true rfl) (kC2_mono H (fun r c4 H => ?_))
  obtain ⟨z3, rfl, H⟩ := H
  refine ⟨z3, rfl, ?_⟩
  have o6 := H.1
  have H := H.2
  refine kw_if_ne 25 dX11_readsNumber_12 (by decide) o6 (fun h5 => ?_) (fun h5 => ?_)
  · have H := H.1 h5
    refine kw_aload_n dX11_readsNumber_25 rfl ?_
    refine kw_iconst dX11_readsNumber_26 ?_
    refine k2_putI fp_X11_26 dX11_readsNumber_27 wf_X11_206 (lsh_558 hL) ?_
    exact kw_forget (ls' := [some (kA 558), some (kI x1), some (kI (c 558 23))]) ⟨Or.inr rfl, ⟨Or.inr rfl, ⟨Or.inr rfl, trivial⟩⟩⟩ H
  · have H := H.2 h5
    refine kw_aload_n dX11_readsNumber_15 rfl ?_
    refine kw_iconst dX11_readsNumber_16 ?_
    refine kw_aload_n dX11_readsNumber_17 rfl ?_
    refine k2_getI fd_X11_23 dX11_readsNumber_18 wf_X11_183 (lsh_558 hL) ?_
    refine k2_callV2I (ci := 9) (N := 38) (T := TX11) rfl (lsh_558 hL) m_X11_wrongAt dX11_readsNumber_21 wl_X11_200 (Nat.le_of_ble_eq_true rfl) (kC2_mono H (fun r c8 H => ?_))
    obtain ⟨z7, rfl, H⟩ := H
    refine ⟨z7, rfl, ?_⟩
    have o9 := H.1
    have H := H.2
    refine k2_zret dX11_readsNumber_24 rfl o9 H
set_option maxRecDepth 4000 in
theorem v_X11_readsNumber_30 {G : KG} {S0 : KSh} (hL : kLay S0) {d : Nat} {P : Option AV → KMem → Prop} {c : KMem} {x1 x2 : Int} (r1 : -2147483648 ≤ x1 ∧ x1 < 2147483648) (r2 : -2147483648 ≤ x2 ∧ x2 < 2147483648) (hp : 0 ≤ x2 ∧ x2 ≤ 120) (H : kC2 G S0 kM_X11_here (d + 1) [kA 558] c (kRI (fun z10 c11 => kC2 G S0 kM_X11_isDigit (d + 1) [kI z10] c11 (kRI (fun z12 c13 => (k32 z12) ∧ ((z12 = 0 → ((k32 (c13 558 26)) ∧ (((c13 558 26) ≤ x1 → (P (some (kI 1)) c13)) ∧ (x1 < (c13 558 26) → (kC2 G S0 kM_X11_wrongAt (d + 1) [kA 558, kI 3, kI x2] c13 (kRI (fun z18 c19 => (k32 z18) ∧ ((z18 = 0 → (P (some (kI 0)) c19)) ∧ (z18 ≠ 0 → (P (some (kI 1)) c19)))))))))) ∧ (z12 ≠ 0 → ((k32 (c13 558 23)) ∧ (((c13 558 23) ≠ (x2 + 4) → (kC2 G S0 kM_X11_here (d + 1) [kA 558] c13 (kRI (fun z24 c25 => kW2 G S0 kM_X11_readsNumber (d + 2) 30 [some (kA 558), some (kI x1), some (kI x2)] [] (kup (kup c25 558 26 (((10 * (c13 558 26)) + z24) - 48)) 558 23 ((c25 558 23) + 1)) P)))) ∧ ((c13 558 23) = (x2 + 4) → (kC2 G S0 kM_X11_wrongAt (d + 1) [kA 558, kI 2, kI (c13 558 23)] c13 (kRI (fun z26 c27 => (z26 = 0 ∨ z26 = 1) ∧ (P (some (kI z26)) c27)))))))))))))) : kW2 G S0 kM_X11_readsNumber (d + 2) 30 [some (kA 558), some (kI x1), some (kI x2)] [] c P := by
  refine kw_aload_n dX11_readsNumber_30 rfl ?_
  refine k2_callV0I (ci := 9) (N := 38) (T := TX11) rfl (lsh_558 hL) m_X11_here dX11_readsNumber_31 wl_X11_196 (Nat.le_of_ble_eq_true rfl) (kC2_mono H (fun r c11 H => ?_))
  obtain ⟨z10, rfl, H⟩ := H
  refine ⟨z10, rfl, ?_⟩
  refine k2_callS1I m_X11_isDigit dX11_readsNumber_34 wl_X11_203 (Nat.le_of_ble_eq_true rfl) (kC2_mono H (fun r c13 H => ?_))
  obtain ⟨z12, rfl, H⟩ := H
  refine ⟨z12, rfl, ?_⟩
  have o15 := H.1
  have H := H.2
  refine kw_if_eq 92 dX11_readsNumber_37 (by decide) o15 (fun h14 => ?_) (fun h14 => ?_)
  · have H := H.1 h14
    refine kw_aload_n dX11_readsNumber_92 rfl ?_
    refine k2_getI fd_X11_26 dX11_readsNumber_93 wf_X11_206 (lsh_558 hL) ?_
    refine kw_iload_n dX11_readsNumber_96 rfl ?_
    have o17 := H.1
    have H := H.2
    refine kw_icmp_le 109 dX11_readsNumber_97 (by decide) o17 (k32i (by omega)) (fun h16 => ?_) (fun h16 => ?_)
    · have H := H.1 h16
      refine kw_iconst dX11_readsNumber_109 ?_
      refine kw_goto 114 dX11_readsNumber_110 (by decide) ?_
      refine k2_zret dX11_readsNumber_114 rfl (Or.inr rfl) H
    · have H := H.2 h16
      refine kw_aload_n dX11_readsNumber_100 rfl ?_
      refine kw_iconst dX11_readsNumber_101 ?_
      refine kw_iload_n dX11_readsNumber_102 rfl ?_
      refine k2_callV2I (ci := 9) (N := 38) (T := TX11) rfl (lsh_558 hL) m_X11_wrongAt dX11_readsNumber_103 wl_X11_200 (Nat.le_of_ble_eq_true rfl) (kC2_mono H (fun r c19 H => ?_))
      obtain ⟨z18, rfl, H⟩ := H
      refine ⟨z18, rfl, ?_⟩
      have o21 := H.1
      have H := H.2
      refine kw_if_eq 113 dX11_readsNumber_106 (by decide) o21 (fun h20 => ?_) (fun h20 => ?_)
      · have H := H.1 h20
        refine kw_iconst dX11_readsNumber_113 ?_
        refine k2_zret dX11_readsNumber_114 rfl (Or.inl rfl) H
      · have H := H.2 h20
        refine kw_iconst dX11_readsNumber_109 ?_
        refine kw_goto 114 dX11_readsNumber_110 (by decide) ?_
        refine k2_zret dX11_readsNumber_114 rfl (Or.inr rfl) H
  · have H := H.2 h14
    refine kw_aload_n dX11_readsNumber_40 rfl ?_
    refine k2_getI fd_X11_23 dX11_readsNumber_41 wf_X11_183 (lsh_558 hL) ?_
    refine kw_iload_n dX11_readsNumber_44 rfl ?_
    refine kw_iconst dX11_readsNumber_45 ?_
    refine kw_iadd dX11_readsNumber_46 ?_
    have o23 := H.1
    have H := H.2
    refine kw_icmp_ne 60 dX11_readsNumber_47 (by decide) o23 (k32i (by omega)) (fun h22 => ?_) (fun h22 => ?_)
    · have H := H.1 h22
      refine kw_aload_n dX11_readsNumber_60 rfl ?_
      refine kw_bipush dX11_readsNumber_61 (by decide) ?_
      refine kw_aload_n dX11_readsNumber_63 rfl ?_
      refine k2_getI fd_X11_26 dX11_readsNumber_64 wf_X11_206 (lsh_558 hL) ?_
      refine kw_imul dX11_readsNumber_67 ?_
      refine kw_aload_n dX11_readsNumber_68 rfl ?_
      refine k2_callV0I (ci := 9) (N := 38) (T := TX11) rfl (lsh_558 hL) m_X11_here dX11_readsNumber_69 wl_X11_196 (Nat.le_of_ble_eq_true rfl) (kC2_mono H (fun r c25 H => ?_))
      obtain ⟨z24, rfl, H⟩ := H
      refine ⟨z24, rfl, ?_⟩
      refine kw_iadd dX11_readsNumber_72 ?_
      refine kw_bipush dX11_readsNumber_73 (by decide) ?_
      refine kw_isub dX11_readsNumber_75 ?_
      refine k2_putI fp_X11_26 dX11_readsNumber_76 wf_X11_206 (lsh_558 hL) ?_
      refine kw_aload_n dX11_readsNumber_79 rfl ?_
      refine kw_aload_n dX11_readsNumber_80 rfl ?_
      refine k2_getI fd_X11_23 dX11_readsNumber_81 wf_X11_183 (lsh_558 hL) ?_
      refine kw_eI (kup_n (Or.inr (by omega))) ?_
      refine kw_iconst dX11_readsNumber_84 ?_
      refine kw_iadd dX11_readsNumber_85 ?_
      refine k2_putI fp_X11_23 dX11_readsNumber_86 wf_X11_183 (lsh_558 hL) ?_
      refine kw_goto 30 dX11_readsNumber_89 (by decide) ?_
      exact kw_forget (ls' := [some (kA 558), some (kI x1), some (kI x2)]) ⟨Or.inr rfl, ⟨Or.inr rfl, ⟨Or.inr rfl, trivial⟩⟩⟩ H
    · have H := H.2 h22
      refine kw_aload_n dX11_readsNumber_50 rfl ?_
      refine kw_iconst dX11_readsNumber_51 ?_
      refine kw_aload_n dX11_readsNumber_52 rfl ?_
      refine k2_getI fd_X11_23 dX11_readsNumber_53 wf_X11_183 (lsh_558 hL) ?_
      refine k2_callV2I (ci := 9) (N := 38) (T := TX11) rfl (lsh_558 hL) m_X11_wrongAt dX11_readsNumber_56 wl_X11_200 (Nat.le_of_ble_eq_true rfl) (kC2_mono H (fun r c27 H => ?_))
      obtain ⟨z26, rfl, H⟩ := H
      refine ⟨z26, rfl, ?_⟩
      have o28 := H.1
      have H := H.2
      refine k2_zret dX11_readsNumber_59 rfl o28 H
set_option maxRecDepth 4000 in
theorem v_X11_readsWhere {G : KG} {S0 : KSh} (hL : kLay S0) {d : Nat} {P : Option AV → KMem → Prop} {c : KMem}  (H : kC2 G S0 kM_X11_here (d + 2) [kA 558] c (kRI (fun z1 c2 => (k32 z1) ∧ ((z1 ≠ 45 → (kC2 G S0 kM_X11_readsNumber (d + 2) [kA 558, kI 99] c2 (kRI (fun z6 c7 => (k32 z6) ∧ ((z6 ≠ 0 → (P (some (kI 1)) c7)) ∧ (z6 = 0 → (P (some (kI 0)) c7))))))) ∧ (z1 = 45 → (kC2 G S0 kM_X11_readsNumber (d + 2) [kA 558, kI 99] (kup c2 558 23 ((c2 558 23) + 1)) (kRI (fun z12 c13 => (k32 z12) ∧ ((z12 ≠ 0 → (P (some (kI 1)) (kup c13 558 26 (-(c13 558 26))))) ∧ (z12 = 0 → (P (some (kI 0)) c13))))))))))) : kC2 G S0 kM_X11_readsWhere (d + 3) [kA 558] c P := by
  refine k2_met (by decide) rfl (Nat.le_of_ble_eq_true rfl) (l0 := [some (kA 558), none]) rfl ?_
  refine kw_aload_n dX11_readsWhere_0 rfl ?_
  refine k2_callV0I (ci := 9) (N := 38) (T := TX11) rfl (lsh_558 hL) m_X11_here dX11_readsWhere_1 wl_X11_196 (Nat.le_of_ble_eq_true rfl) (kC2_mono H (fun r c2 H => ?_))
  obtain ⟨z1, rfl, H⟩ := H
  refine ⟨z1, rfl, ?_⟩
  refine kw_bipush dX11_readsWhere_4 (by decide) ?_
  have o4 := H.1
  have H := H.2
  refine kw_icmp_ne 13 dX11_readsWhere_6 (by decide) o4 (k32i (by omega)) (fun h3 => ?_) (fun h3 => ?_)
  · have H := H.1 h3
    refine kw_iconst dX11_readsWhere_13 ?_
    refine kw_istore_n dX11_readsWhere_14 (Nat.le_of_ble_eq_true rfl) ?_
    refine kw_iload_n dX11_readsWhere_15 rfl ?_
    refine kw_if_eq 29 dX11_readsWhere_16 (by decide) (k32i (by omega)) (fun _ => ?_) (fun h5 => absurd h5 (by decide))
    refine kw_aload_n dX11_readsWhere_29 rfl ?_
    refine kw_bipush dX11_readsWhere_30 (by decide) ?_
    refine k2_callV1I (ci := 9) (N := 38) (T := TX11) rfl (lsh_558 hL) m_X11_readsNumber dX11_readsWhere_32 wl_X11_209 (Nat.le_of_ble_eq_true rfl) (kC2_mono H (fun r c7 H => ?_))
    obtain ⟨z6, rfl, H⟩ := H
    refine ⟨z6, rfl, ?_⟩
    have o9 := H.1
    have H := H.2
    refine kw_if_ne 40 dX11_readsWhere_35 (by decide) o9 (fun h8 => ?_) (fun h8 => ?_)
    · have H := H.1 h8
      refine kw_iload_n dX11_readsWhere_40 rfl ?_
      refine kw_if_eq 53 dX11_readsWhere_41 (by decide) (k32i (by omega)) (fun _ => ?_) (fun h10 => absurd h10 (by decide))
      refine kw_iconst dX11_readsWhere_53 ?_
      refine k2_zret dX11_readsWhere_54 rfl (Or.inr rfl) H
    · have H := H.2 h8
      refine kw_iconst dX11_readsWhere_38 ?_
      refine k2_zret dX11_readsWhere_39 rfl (Or.inl rfl) H
  · have H := H.2 h3
    refine kw_iconst dX11_readsWhere_9 ?_
    refine kw_goto 14 dX11_readsWhere_10 (by decide) ?_
    refine kw_istore_n dX11_readsWhere_14 (Nat.le_of_ble_eq_true rfl) ?_
    refine kw_iload_n dX11_readsWhere_15 rfl ?_
    refine kw_if_eq 29 dX11_readsWhere_16 (by decide) (k32i (by omega)) (fun h11 => absurd h11 (by decide)) (fun _ => ?_)
    refine kw_aload_n dX11_readsWhere_19 rfl ?_
    refine kw_aload_n dX11_readsWhere_20 rfl ?_
    refine k2_getI fd_X11_23 dX11_readsWhere_21 wf_X11_183 (lsh_558 hL) ?_
    refine kw_iconst dX11_readsWhere_24 ?_
    refine kw_iadd dX11_readsWhere_25 ?_
    refine k2_putI fp_X11_23 dX11_readsWhere_26 wf_X11_183 (lsh_558 hL) ?_
    refine kw_aload_n dX11_readsWhere_29 rfl ?_
    refine kw_bipush dX11_readsWhere_30 (by decide) ?_
    refine k2_callV1I (ci := 9) (N := 38) (T := TX11) rfl (lsh_558 hL) m_X11_readsNumber dX11_readsWhere_32 wl_X11_209 (Nat.le_of_ble_eq_true rfl) (kC2_mono H (fun r c13 H => ?_))
    obtain ⟨z12, rfl, H⟩ := H
    refine ⟨z12, rfl, ?_⟩
    have o15 := H.1
    have H := H.2
    refine kw_if_ne 40 dX11_readsWhere_35 (by decide) o15 (fun h14 => ?_) (fun h14 => ?_)
    · have H := H.1 h14
      refine kw_iload_n dX11_readsWhere_40 rfl ?_
      refine kw_if_eq 53 dX11_readsWhere_41 (by decide) (k32i (by omega)) (fun h16 => absurd h16 (by decide)) (fun _ => ?_)
      refine kw_aload_n dX11_readsWhere_44 rfl ?_
      refine kw_aload_n dX11_readsWhere_45 rfl ?_
      refine k2_getI fd_X11_26 dX11_readsWhere_46 wf_X11_206 (lsh_558 hL) ?_
      refine kw_ineg dX11_readsWhere_49 ?_
      refine k2_putI fp_X11_26 dX11_readsWhere_50 wf_X11_206 (lsh_558 hL) ?_
      refine kw_iconst dX11_readsWhere_53 ?_
      refine k2_zret dX11_readsWhere_54 rfl (Or.inr rfl) H
    · have H := H.2 h14
      refine kw_iconst dX11_readsWhere_38 ?_
      refine k2_zret dX11_readsWhere_39 rfl (Or.inl rfl) H
set_option maxRecDepth 4000 in
theorem v_X11_waitsFor {G : KG} {S0 : KSh} (hL : kLay S0) {d : Nat} {P : Option AV → KMem → Prop} {c : KMem} {x1 x2 x3 : Int} (r1 : -2147483648 ≤ x1 ∧ x1 < 2147483648) (r2 : -2147483648 ≤ x2 ∧ x2 < 2147483648) (r3 : -2147483648 ≤ x3 ∧ x3 < 2147483648) (H : (0 ≤ (c 558 27) ∧ (c 558 27) < 80) ∧ (P none (kup (kup (kup (kup c 572 (c 558 27) x1) 573 (c 558 27) x2) 574 (c 558 27) x3) 558 27 ((c 558 27) + 1)))) : kC2 G S0 kM_X11_waitsFor d [kA 558, kI x1, kI x2, kI x3] c P := by
  refine k2_met (by decide) rfl (Nat.le_of_ble_eq_true rfl) (l0 := [some (kA 558), some (kI x1), some (kI x2), some (kI x3)]) rfl ?_
  refine kw_aload_n dX11_waitsFor_0 rfl ?_
  refine k2_getR fd_X11_18 dX11_waitsFor_1 wf_X11_52 (lsh_558 hL) (lrf_558_18 hL) ?_
  refine kw_aload_n dX11_waitsFor_4 rfl ?_
  refine k2_getI fd_X11_27 dX11_waitsFor_5 wf_X11_212 (lsh_558 hL) ?_
  refine kw_iload_n dX11_waitsFor_8 rfl ?_
  have o1 := H.1
  have H := H.2
  refine k2_iast dX11_waitsFor_9 (lsh_572 hL) (by omega) o1 ?_
  refine kw_aload_n dX11_waitsFor_10 rfl ?_
  refine k2_getR fd_X11_19 dX11_waitsFor_11 wf_X11_55 (lsh_558 hL) (lrf_558_19 hL) ?_
  refine kw_aload_n dX11_waitsFor_14 rfl ?_
  refine k2_getI fd_X11_27 dX11_waitsFor_15 wf_X11_212 (lsh_558 hL) ?_
  refine kw_eI (kup_n (Or.inl (by decide))) ?_
  refine kw_iload_n dX11_waitsFor_18 rfl ?_
  refine k2_iast dX11_waitsFor_19 (lsh_573 hL) (by omega) o1 ?_
  refine kw_aload_n dX11_waitsFor_20 rfl ?_
  refine k2_getR fd_X11_20 dX11_waitsFor_21 wf_X11_58 (lsh_558 hL) (lrf_558_20 hL) ?_
  refine kw_aload_n dX11_waitsFor_24 rfl ?_
  refine k2_getI fd_X11_27 dX11_waitsFor_25 wf_X11_212 (lsh_558 hL) ?_
  refine kw_eI ((kup_n (Or.inl (by decide))).trans (kup_n (Or.inl (by decide)))) ?_
  refine kw_iload_n dX11_waitsFor_28 rfl ?_
  refine k2_iast dX11_waitsFor_29 (lsh_574 hL) (by omega) o1 ?_
  refine kw_aload_n dX11_waitsFor_30 rfl ?_
  refine kw_aload_n dX11_waitsFor_31 rfl ?_
  refine k2_getI fd_X11_27 dX11_waitsFor_32 wf_X11_212 (lsh_558 hL) ?_
  refine kw_eI ((kup_n (Or.inl (by decide))).trans ((kup_n (Or.inl (by decide))).trans (kup_n (Or.inl (by decide))))) ?_
  refine kw_iconst dX11_waitsFor_35 ?_
  refine kw_iadd dX11_waitsFor_36 ?_
  refine k2_putI fp_X11_27 dX11_waitsFor_37 wf_X11_212 (lsh_558 hL) ?_
  refine k2_ret dX11_waitsFor_40 rfl H
set_option maxRecDepth 4000 in
theorem v_X11_uppermost {G : KG} {S0 : KSh} (hL : kLay S0) {d : Nat} {P : Option AV → KMem → Prop} {c : KMem}  (H : (k32 (c 558 27)) ∧ (((c 558 27) ≠ 0 → ((0 ≤ ((c 558 27) - 1) ∧ ((c 558 27) - 1) < 80) ∧ (P (some (kI (c 572 ((c 558 27) - 1)))) c))) ∧ ((c 558 27) = 0 → (P (some (kI (-1))) c)))) : kC2 G S0 kM_X11_uppermost d [kA 558] c P := by
  refine k2_met (by decide) rfl (Nat.le_of_ble_eq_true rfl) (l0 := [some (kA 558)]) rfl ?_
  refine kw_aload_n dX11_uppermost_0 rfl ?_
  refine k2_getI fd_X11_27 dX11_uppermost_1 wf_X11_212 (lsh_558 hL) ?_
  have o2 := H.1
  have H := H.2
  refine kw_if_ne 11 dX11_uppermost_4 (by decide) o2 (fun h1 => ?_) (fun h1 => ?_)
  · have H := H.1 h1
    refine kw_aload_n dX11_uppermost_11 rfl ?_
    refine k2_getR fd_X11_18 dX11_uppermost_12 wf_X11_52 (lsh_558 hL) (lrf_558_18 hL) ?_
    refine kw_aload_n dX11_uppermost_15 rfl ?_
    refine k2_getI fd_X11_27 dX11_uppermost_16 wf_X11_212 (lsh_558 hL) ?_
    refine kw_iconst dX11_uppermost_19 ?_
    refine kw_isub dX11_uppermost_20 ?_
    have o3 := H.1
    have H := H.2
    refine k2_iald dX11_uppermost_21 (lsh_572 hL) (by omega) o3 ?_
    refine k2_iret dX11_uppermost_22 rfl H
  · have H := H.2 h1
    refine kw_iconst dX11_uppermost_7 ?_
    refine kw_goto 22 dX11_uppermost_8 (by decide) ?_
    refine k2_iret dX11_uppermost_22 rfl H
set_option maxRecDepth 4000 in
theorem v_X11_opener {G : KG} {S0 : KSh} (hL : kLay S0) {d : Nat} {P : Option AV → KMem → Prop} {c : KMem} {x0 : Int} (r0 : -2147483648 ≤ x0 ∧ x0 < 2147483648) (H : (x0 ≠ 40 → ((x0 ≠ 126 → ((x0 ≠ 35 → ((x0 ≠ 33 → ((x0 ≠ 45 → ((x0 ≠ 103 → (P (some (kI (-1))) c)) ∧ (x0 = 103 → (P (some (kI 12)) c)))) ∧ (x0 = 45 → (P (some (kI 11)) c)))) ∧ (x0 = 33 → (P (some (kI 10)) c)))) ∧ (x0 = 35 → (P (some (kI 9)) c)))) ∧ (x0 = 126 → (P (some (kI 8)) c)))) ∧ (x0 = 40 → (P (some (kI 7)) c))) : kC2 G S0 kM_X11_opener d [kI x0] c P := by
  refine k2_met (by decide) rfl (Nat.le_of_ble_eq_true rfl) (l0 := [some (kI x0)]) rfl ?_
  refine kw_iload_n dX11_opener_0 rfl ?_
  refine kw_bipush dX11_opener_1 (by decide) ?_
  refine kw_icmp_ne 11 dX11_opener_3 (by decide) (k32i (by omega)) (k32i (by omega)) (fun h1 => ?_) (fun h1 => ?_)
  · have H := H.1 h1
    refine kw_iload_n dX11_opener_11 rfl ?_
    refine kw_bipush dX11_opener_12 (by decide) ?_
    refine kw_icmp_ne 22 dX11_opener_14 (by decide) (k32i (by omega)) (k32i (by omega)) (fun h2 => ?_) (fun h2 => ?_)
    · have H := H.1 h2
      refine kw_iload_n dX11_opener_22 rfl ?_
      refine kw_bipush dX11_opener_23 (by decide) ?_
      refine kw_icmp_ne 33 dX11_opener_25 (by decide) (k32i (by omega)) (k32i (by omega)) (fun h3 => ?_) (fun h3 => ?_)
      · have H := H.1 h3
        refine kw_iload_n dX11_opener_33 rfl ?_
        refine kw_bipush dX11_opener_34 (by decide) ?_
        refine kw_icmp_ne 44 dX11_opener_36 (by decide) (k32i (by omega)) (k32i (by omega)) (fun h4 => ?_) (fun h4 => ?_)
        · have H := H.1 h4
          refine kw_iload_n dX11_opener_44 rfl ?_
          refine kw_bipush dX11_opener_45 (by decide) ?_
          refine kw_icmp_ne 55 dX11_opener_47 (by decide) (k32i (by omega)) (k32i (by omega)) (fun h5 => ?_) (fun h5 => ?_)
          · have H := H.1 h5
            refine kw_iload_n dX11_opener_55 rfl ?_
            refine kw_bipush dX11_opener_56 (by decide) ?_
            refine kw_icmp_ne 66 dX11_opener_58 (by decide) (k32i (by omega)) (k32i (by omega)) (fun h6 => ?_) (fun h6 => ?_)
            · have H := H.1 h6
              refine kw_iconst dX11_opener_66 ?_
              refine k2_iret dX11_opener_67 rfl H
            · have H := H.2 h6
              refine kw_bipush dX11_opener_61 (by decide) ?_
              refine kw_goto 67 dX11_opener_63 (by decide) ?_
              refine k2_iret dX11_opener_67 rfl H
          · have H := H.2 h5
            refine kw_bipush dX11_opener_50 (by decide) ?_
            refine kw_goto 67 dX11_opener_52 (by decide) ?_
            refine k2_iret dX11_opener_67 rfl H
        · have H := H.2 h4
          refine kw_bipush dX11_opener_39 (by decide) ?_
          refine kw_goto 67 dX11_opener_41 (by decide) ?_
          refine k2_iret dX11_opener_67 rfl H
      · have H := H.2 h3
        refine kw_bipush dX11_opener_28 (by decide) ?_
        refine kw_goto 67 dX11_opener_30 (by decide) ?_
        refine k2_iret dX11_opener_67 rfl H
    · have H := H.2 h2
      refine kw_bipush dX11_opener_17 (by decide) ?_
      refine kw_goto 67 dX11_opener_19 (by decide) ?_
      refine k2_iret dX11_opener_67 rfl H
  · have H := H.2 h1
    refine kw_bipush dX11_opener_6 (by decide) ?_
    refine kw_goto 67 dX11_opener_8 (by decide) ?_
    refine k2_iret dX11_opener_67 rfl H
set_option maxRecDepth 4000 in
theorem v_X11_opens {G : KG} {S0 : KSh} (hL : kLay S0) {d : Nat} {P : Option AV → KMem → Prop} {c : KMem} {x1 : Int} (r1 : -2147483648 ≤ x1 ∧ x1 < 2147483648) (H : (k32 (c 558 28)) ∧ (((c 558 28) ≠ 6 → ((x1 ≠ 12 → (kC2 G S0 kM_X11_waitsFor (d + 1) [kA 558, kI x1, kI (c 558 23), kI 0] (kup (kup c 558 28 ((c 558 28) + 1)) 558 23 ((c 558 23) + 1)) (kRN (fun c5 => P (some (kI 1)) c5)))) ∧ (x1 = 12 → (kC2 G S0 kM_X11_here (d + 1) [kA 558] (kup (kup c 558 28 ((c 558 28) + 1)) 558 23 ((c 558 23) + 1)) (kRI (fun z6 c7 => kC2 G S0 kM_X11_isDigit (d + 1) [kI z6] c7 (kRI (fun z8 c9 => (k32 z8) ∧ ((z8 ≠ 0 → (kC2 G S0 kM_X11_here (d + 1) [kA 558] c9 (kRI (fun z12 c13 => (k32 (z12 - 48)) ∧ (((z12 - 48) ≤ 4 → (kC2 G S0 kM_X11_waitsFor (d + 1) [kA 558, kI x1, kI (c 558 23), kI (z12 - 48)] (kup c13 558 23 ((c13 558 23) + 1)) (kRN (fun c17 => P (some (kI 1)) c17)))) ∧ (4 < (z12 - 48) → (kC2 G S0 kM_X11_wrongAt (d + 1) [kA 558, kI 3, kI (c13 558 23)] c13 (kRI (fun z18 c19 => (z18 = 0 ∨ z18 = 1) ∧ (P (some (kI z18)) c19)))))))))) ∧ (z8 = 0 → (kC2 G S0 kM_X11_wrongAt (d + 1) [kA 558, kI 1, kI (c9 558 23)] c9 (kRI (fun z21 c22 => (z21 = 0 ∨ z21 = 1) ∧ (P (some (kI z21)) c22)))))))))))))) ∧ ((c 558 28) = 6 → (kC2 G S0 kM_X11_wrongAt (d + 1) [kA 558, kI 5, kI (c 558 23)] c (kRI (fun z24 c25 => (z24 = 0 ∨ z24 = 1) ∧ (P (some (kI z24)) c25))))))) : kC2 G S0 kM_X11_opens (d + 2) [kA 558, kI x1] c P := by
  refine k2_met (by decide) rfl (Nat.le_of_ble_eq_true rfl) (l0 := [some (kA 558), some (kI x1), none, none]) rfl ?_
  refine kw_aload_n dX11_opens_0 rfl ?_
  refine k2_getI fd_X11_23 dX11_opens_1 wf_X11_183 (lsh_558 hL) ?_
  refine kw_istore_n dX11_opens_4 (Nat.le_of_ble_eq_true rfl) ?_
  refine kw_aload_n dX11_opens_5 rfl ?_
  refine k2_getI fd_X11_28 dX11_opens_6 wf_X11_215 (lsh_558 hL) ?_
  refine kw_bipush dX11_opens_9 (by decide) ?_
  have o2 := H.1
  have H := H.2
  refine kw_icmp_ne 21 dX11_opens_11 (by decide) o2 (k32i (by omega)) (fun h1 => ?_) (fun h1 => ?_)
  · have H := H.1 h1
    refine kw_aload_n dX11_opens_21 rfl ?_
    refine kw_aload_n dX11_opens_22 rfl ?_
    refine k2_getI fd_X11_28 dX11_opens_23 wf_X11_215 (lsh_558 hL) ?_
    refine kw_iconst dX11_opens_26 ?_
    refine kw_iadd dX11_opens_27 ?_
    refine k2_putI fp_X11_28 dX11_opens_28 wf_X11_215 (lsh_558 hL) ?_
    refine kw_aload_n dX11_opens_31 rfl ?_
    refine kw_aload_n dX11_opens_32 rfl ?_
    refine k2_getI fd_X11_23 dX11_opens_33 wf_X11_183 (lsh_558 hL) ?_
    refine kw_eI (kup_n (Or.inr (by omega))) ?_
    refine kw_iconst dX11_opens_36 ?_
    refine kw_iadd dX11_opens_37 ?_
    refine k2_putI fp_X11_23 dX11_opens_38 wf_X11_183 (lsh_558 hL) ?_
    refine kw_iconst dX11_opens_41 ?_
    refine kw_istore_n dX11_opens_42 (Nat.le_of_ble_eq_true rfl) ?_
    refine kw_iload_n dX11_opens_43 rfl ?_
    refine kw_bipush dX11_opens_44 (by decide) ?_
    refine kw_icmp_ne 102 dX11_opens_46 (by decide) (k32i (by omega)) (k32i (by omega)) (fun h3 => ?_) (fun h3 => ?_)
    · have H := H.1 h3
      refine kw_aload_n dX11_opens_102 rfl ?_
      refine kw_iload_n dX11_opens_103 rfl ?_
      refine kw_iload_n dX11_opens_104 rfl ?_
      refine kw_iload_n dX11_opens_105 rfl ?_
      refine k2_callV3N (ci := 9) (N := 38) (T := TX11) rfl (lsh_558 hL) m_X11_waitsFor dX11_opens_106 wl_X11_218 (Nat.le_of_ble_eq_true rfl) (kC2_mono H (fun r c5 H => ?_))
      obtain ⟨rfl, H⟩ := H
      refine ⟨rfl, ?_⟩
      refine kw_iconst dX11_opens_109 ?_
      refine k2_zret dX11_opens_110 rfl (Or.inr rfl) H
    · have H := H.2 h3
      refine kw_aload_n dX11_opens_49 rfl ?_
      refine k2_callV0I (ci := 9) (N := 38) (T := TX11) rfl (lsh_558 hL) m_X11_here dX11_opens_50 wl_X11_196 (Nat.le_of_ble_eq_true rfl) (kC2_mono H (fun r c7 H => ?_))
      obtain ⟨z6, rfl, H⟩ := H
      refine ⟨z6, rfl, ?_⟩
      refine k2_callS1I m_X11_isDigit dX11_opens_53 wl_X11_203 (Nat.le_of_ble_eq_true rfl) (kC2_mono H (fun r c9 H => ?_))
      obtain ⟨z8, rfl, H⟩ := H
      refine ⟨z8, rfl, ?_⟩
      have o11 := H.1
      have H := H.2
      refine kw_if_ne 69 dX11_opens_56 (by decide) o11 (fun h10 => ?_) (fun h10 => ?_)
      · have H := H.1 h10
        refine kw_aload_n dX11_opens_69 rfl ?_
        refine k2_callV0I (ci := 9) (N := 38) (T := TX11) rfl (lsh_558 hL) m_X11_here dX11_opens_70 wl_X11_196 (Nat.le_of_ble_eq_true rfl) (kC2_mono H (fun r c13 H => ?_))
        obtain ⟨z12, rfl, H⟩ := H
        refine ⟨z12, rfl, ?_⟩
        refine kw_bipush dX11_opens_73 (by decide) ?_
        refine kw_isub dX11_opens_75 ?_
        refine kw_istore_n dX11_opens_76 (Nat.le_of_ble_eq_true rfl) ?_
        refine kw_iload_n dX11_opens_77 rfl ?_
        refine kw_iconst dX11_opens_78 ?_
        have o15 := H.1
        have H := H.2
        refine kw_icmp_le 92 dX11_opens_79 (by decide) o15 (k32i (by omega)) (fun h14 => ?_) (fun h14 => ?_)
        · have H := H.1 h14
          refine kw_aload_n dX11_opens_92 rfl ?_
          refine kw_aload_n dX11_opens_93 rfl ?_
          refine k2_getI fd_X11_23 dX11_opens_94 wf_X11_183 (lsh_558 hL) ?_
          refine kw_iconst dX11_opens_97 ?_
          refine kw_iadd dX11_opens_98 ?_
          refine k2_putI fp_X11_23 dX11_opens_99 wf_X11_183 (lsh_558 hL) ?_
          refine kw_aload_n dX11_opens_102 rfl ?_
          refine kw_iload_n dX11_opens_103 rfl ?_
          refine kw_iload_n dX11_opens_104 rfl ?_
          refine kw_iload_n dX11_opens_105 rfl ?_
          refine k2_callV3N (ci := 9) (N := 38) (T := TX11) rfl (lsh_558 hL) m_X11_waitsFor dX11_opens_106 wl_X11_218 (Nat.le_of_ble_eq_true rfl) (kC2_mono H (fun r c17 H => ?_))
          obtain ⟨rfl, H⟩ := H
          refine ⟨rfl, ?_⟩
          refine kw_iconst dX11_opens_109 ?_
          refine k2_zret dX11_opens_110 rfl (Or.inr rfl) H
        · have H := H.2 h14
          refine kw_aload_n dX11_opens_82 rfl ?_
          refine kw_iconst dX11_opens_83 ?_
          refine kw_aload_n dX11_opens_84 rfl ?_
          refine k2_getI fd_X11_23 dX11_opens_85 wf_X11_183 (lsh_558 hL) ?_
          refine k2_callV2I (ci := 9) (N := 38) (T := TX11) rfl (lsh_558 hL) m_X11_wrongAt dX11_opens_88 wl_X11_200 (Nat.le_of_ble_eq_true rfl) (kC2_mono H (fun r c19 H => ?_))
          obtain ⟨z18, rfl, H⟩ := H
          refine ⟨z18, rfl, ?_⟩
          have o20 := H.1
          have H := H.2
          refine k2_zret dX11_opens_91 rfl o20 H
      · have H := H.2 h10
        refine kw_aload_n dX11_opens_59 rfl ?_
        refine kw_iconst dX11_opens_60 ?_
        refine kw_aload_n dX11_opens_61 rfl ?_
        refine k2_getI fd_X11_23 dX11_opens_62 wf_X11_183 (lsh_558 hL) ?_
        refine k2_callV2I (ci := 9) (N := 38) (T := TX11) rfl (lsh_558 hL) m_X11_wrongAt dX11_opens_65 wl_X11_200 (Nat.le_of_ble_eq_true rfl) (kC2_mono H (fun r c22 H => ?_))
        obtain ⟨z21, rfl, H⟩ := H
        refine ⟨z21, rfl, ?_⟩
        have o23 := H.1
        have H := H.2
        refine k2_zret dX11_opens_68 rfl o23 H
  · have H := H.2 h1
    refine kw_aload_n dX11_opens_14 rfl ?_
    refine kw_iconst dX11_opens_15 ?_
    refine kw_iload_n dX11_opens_16 rfl ?_
    refine k2_callV2I (ci := 9) (N := 38) (T := TX11) rfl (lsh_558 hL) m_X11_wrongAt dX11_opens_17 wl_X11_200 (Nat.le_of_ble_eq_true rfl) (kC2_mono H (fun r c25 H => ?_))
    obtain ⟨z24, rfl, H⟩ := H
    refine ⟨z24, rfl, ?_⟩
    have o26 := H.1
    have H := H.2
    refine k2_zret dX11_opens_20 rfl o26 H
set_option maxRecDepth 4000 in
theorem v_X11_readsPlace {G : KG} {S0 : KSh} (hL : kLay S0) {d : Nat} {P : Option AV → KMem → Prop} {c : KMem}  (H : kC2 G S0 kM_X11_readsWhere (d + 3) [kA 558] (kup c 558 23 ((c 558 23) + 1)) (kRI (fun z1 c2 => (k32 z1) ∧ ((z1 ≠ 0 → (kC2 G S0 kM_X11_takesSign (d + 3) [kA 558, kI 44] c2 (kRI (fun z5 c6 => (k32 z5) ∧ ((z5 = 0 → (P (some (kI 0)) c6)) ∧ (z5 ≠ 0 → (kC2 G S0 kM_X11_readsWhere (d + 3) [kA 558] c6 (kRI (fun z9 c10 => (k32 z9) ∧ ((z9 ≠ 0 → ((k32 (c2 558 26)) ∧ ((k32 (c10 558 26)) ∧ (kC2 G S0 kM_X11_laysPlace (d + 3) [kA 558, kI (44 + (c10 558 29)), kL (c2 558 26), kL (c10 558 26)] c10 (kRN (fun c16 => P (some (kI 1)) (kup c16 558 29 ((c16 558 29) + 1)))))))) ∧ (z9 = 0 → (P (some (kI 0)) c10)))))))))))) ∧ (z1 = 0 → (P (some (kI 0)) c2)))))) : kC2 G S0 kM_X11_readsPlace (d + 4) [kA 558] c P := by
  refine k2_met (by decide) rfl (Nat.le_of_ble_eq_true rfl) (l0 := [some (kA 558), none]) rfl ?_
  refine kw_aload_n dX11_readsPlace_0 rfl ?_
  refine kw_aload_n dX11_readsPlace_1 rfl ?_
  refine k2_getI fd_X11_23 dX11_readsPlace_2 wf_X11_183 (lsh_558 hL) ?_
  refine kw_iconst dX11_readsPlace_5 ?_
  refine kw_iadd dX11_readsPlace_6 ?_
  refine k2_putI fp_X11_23 dX11_readsPlace_7 wf_X11_183 (lsh_558 hL) ?_
  refine kw_aload_n dX11_readsPlace_10 rfl ?_
  refine k2_callV0I (ci := 9) (N := 38) (T := TX11) rfl (lsh_558 hL) m_X11_readsWhere dX11_readsPlace_11 wl_X11_222 (Nat.le_of_ble_eq_true rfl) (kC2_mono H (fun r c2 H => ?_))
  obtain ⟨z1, rfl, H⟩ := H
  refine ⟨z1, rfl, ?_⟩
  have o4 := H.1
  have H := H.2
  refine kw_if_ne 19 dX11_readsPlace_14 (by decide) o4 (fun h3 => ?_) (fun h3 => ?_)
  · have H := H.1 h3
    refine kw_aload_n dX11_readsPlace_19 rfl ?_
    refine k2_getI fd_X11_26 dX11_readsPlace_20 wf_X11_206 (lsh_558 hL) ?_
    refine kw_istore_n dX11_readsPlace_23 (Nat.le_of_ble_eq_true rfl) ?_
    refine kw_aload_n dX11_readsPlace_24 rfl ?_
    refine kw_bipush dX11_readsPlace_25 (by decide) ?_
    refine k2_callV1I (ci := 9) (N := 38) (T := TX11) rfl (lsh_558 hL) m_X11_takesSign dX11_readsPlace_27 wl_X11_226 (Nat.le_of_ble_eq_true rfl) (kC2_mono H (fun r c6 H => ?_))
    obtain ⟨z5, rfl, H⟩ := H
    refine ⟨z5, rfl, ?_⟩
    have o8 := H.1
    have H := H.2
    refine kw_if_eq 40 dX11_readsPlace_30 (by decide) o8 (fun h7 => ?_) (fun h7 => ?_)
    · have H := H.1 h7
      refine kw_iconst dX11_readsPlace_40 ?_
      refine k2_zret dX11_readsPlace_41 rfl (Or.inl rfl) H
    · have H := H.2 h7
      refine kw_aload_n dX11_readsPlace_33 rfl ?_
      refine k2_callV0I (ci := 9) (N := 38) (T := TX11) rfl (lsh_558 hL) m_X11_readsWhere dX11_readsPlace_34 wl_X11_222 (Nat.le_of_ble_eq_true rfl) (kC2_mono H (fun r c10 H => ?_))
      obtain ⟨z9, rfl, H⟩ := H
      refine ⟨z9, rfl, ?_⟩
      have o12 := H.1
      have H := H.2
      refine kw_if_ne 42 dX11_readsPlace_37 (by decide) o12 (fun h11 => ?_) (fun h11 => ?_)
      · have H := H.1 h11
        refine kw_aload_n dX11_readsPlace_42 rfl ?_
        refine kw_bipush dX11_readsPlace_43 (by decide) ?_
        refine kw_aload_n dX11_readsPlace_45 rfl ?_
        refine k2_getI fd_X11_29 dX11_readsPlace_46 wf_X11_229 (lsh_558 hL) ?_
        refine kw_iadd dX11_readsPlace_49 ?_
        refine kw_iload_n dX11_readsPlace_50 rfl ?_
        have o13 := H.1
        have H := H.2
        refine kw_i2l dX11_readsPlace_51 o13 ?_
        refine kw_aload_n dX11_readsPlace_52 rfl ?_
        refine k2_getI fd_X11_26 dX11_readsPlace_53 wf_X11_206 (lsh_558 hL) ?_
        have o14 := H.1
        have H := H.2
        refine kw_i2l dX11_readsPlace_56 o14 ?_
        refine k2_callV3N (ci := 9) (N := 38) (T := TX11) rfl (lsh_558 hL) m_X11_laysPlace dX11_readsPlace_57 wl_X11_232 (Nat.le_of_ble_eq_true rfl) (kC2_mono H (fun r c16 H => ?_))
        obtain ⟨rfl, H⟩ := H
        refine ⟨rfl, ?_⟩
        refine kw_aload_n dX11_readsPlace_60 rfl ?_
        refine kw_aload_n dX11_readsPlace_61 rfl ?_
        refine k2_getI fd_X11_29 dX11_readsPlace_62 wf_X11_229 (lsh_558 hL) ?_
        refine kw_iconst dX11_readsPlace_65 ?_
        refine kw_iadd dX11_readsPlace_66 ?_
        refine k2_putI fp_X11_29 dX11_readsPlace_67 wf_X11_229 (lsh_558 hL) ?_
        refine kw_iconst dX11_readsPlace_70 ?_
        refine k2_zret dX11_readsPlace_71 rfl (Or.inr rfl) H
      · have H := H.2 h11
        refine kw_iconst dX11_readsPlace_40 ?_
        refine k2_zret dX11_readsPlace_41 rfl (Or.inl rfl) H
  · have H := H.2 h3
    refine kw_iconst dX11_readsPlace_17 ?_
    refine k2_zret dX11_readsPlace_18 rfl (Or.inl rfl) H
set_option maxRecDepth 4000 in
theorem v_X11_partsFor {G : KG} {S0 : KSh} (hL : kLay S0) {d : Nat} {P : Option AV → KMem → Prop} {c : KMem} {x0 : Int} (r0 : -2147483648 ≤ x0 ∧ x0 < 2147483648) (H : (x0 ≠ 120 → ((x0 ≠ 121 → ((x0 ≠ 112 → ((x0 ≠ 109 → ((x0 ≠ 119 → ((x0 ≠ 102 → (P (some (kI 0)) c)) ∧ (x0 = 102 → (P (some (kI 272)) c)))) ∧ (x0 = 119 → (P (some (kI 32768)) c)))) ∧ (x0 = 109 → (P (some (kI 256)) c)))) ∧ (x0 = 112 → (P (some (kI 16)) c)))) ∧ (x0 = 121 → (P (some (kI 4)) c)))) ∧ (x0 = 120 → (P (some (kI 2)) c))) : kC2 G S0 kM_X11_partsFor d [kI x0] c P := by
  refine k2_met (by decide) rfl (Nat.le_of_ble_eq_true rfl) (l0 := [some (kI x0)]) rfl ?_
  refine kw_iload_n dX11_partsFor_0 rfl ?_
  refine kw_bipush dX11_partsFor_1 (by decide) ?_
  refine kw_icmp_ne 10 dX11_partsFor_3 (by decide) (k32i (by omega)) (k32i (by omega)) (fun h1 => ?_) (fun h1 => ?_)
  · have H := H.1 h1
    refine kw_iload_n dX11_partsFor_10 rfl ?_
    refine kw_bipush dX11_partsFor_11 (by decide) ?_
    refine kw_icmp_ne 20 dX11_partsFor_13 (by decide) (k32i (by omega)) (k32i (by omega)) (fun h2 => ?_) (fun h2 => ?_)
    · have H := H.1 h2
      refine kw_iload_n dX11_partsFor_20 rfl ?_
      refine kw_bipush dX11_partsFor_21 (by decide) ?_
      refine kw_icmp_ne 31 dX11_partsFor_23 (by decide) (k32i (by omega)) (k32i (by omega)) (fun h3 => ?_) (fun h3 => ?_)
      · have H := H.1 h3
        refine kw_iload_n dX11_partsFor_31 rfl ?_
        refine kw_bipush dX11_partsFor_32 (by decide) ?_
        refine kw_icmp_ne 43 dX11_partsFor_34 (by decide) (k32i (by omega)) (k32i (by omega)) (fun h4 => ?_) (fun h4 => ?_)
        · have H := H.1 h4
          refine kw_iload_n dX11_partsFor_43 rfl ?_
          refine kw_bipush dX11_partsFor_44 (by decide) ?_
          refine kw_icmp_ne 54 dX11_partsFor_46 (by decide) (k32i (by omega)) (k32i (by omega)) (fun h5 => ?_) (fun h5 => ?_)
          · have H := H.1 h5
            refine kw_iload_n dX11_partsFor_54 rfl ?_
            refine kw_bipush dX11_partsFor_55 (by decide) ?_
            refine kw_icmp_ne 66 dX11_partsFor_57 (by decide) (k32i (by omega)) (k32i (by omega)) (fun h6 => ?_) (fun h6 => ?_)
            · have H := H.1 h6
              refine kw_iconst dX11_partsFor_66 ?_
              refine k2_iret dX11_partsFor_67 rfl H
            · have H := H.2 h6
              refine kw_sipush dX11_partsFor_60 (by decide) ?_
              refine kw_goto 67 dX11_partsFor_63 (by decide) ?_
              refine k2_iret dX11_partsFor_67 rfl H
          · have H := H.2 h5
            refine kw_ldc dX11_partsFor_49 wk_X11_236 ?_
            refine kw_goto 67 dX11_partsFor_51 (by decide) ?_
            refine k2_iret dX11_partsFor_67 rfl H
        · have H := H.2 h4
          refine kw_sipush dX11_partsFor_37 (by decide) ?_
          refine kw_goto 67 dX11_partsFor_40 (by decide) ?_
          refine k2_iret dX11_partsFor_67 rfl H
      · have H := H.2 h3
        refine kw_bipush dX11_partsFor_26 (by decide) ?_
        refine kw_goto 67 dX11_partsFor_28 (by decide) ?_
        refine k2_iret dX11_partsFor_67 rfl H
    · have H := H.2 h2
      refine kw_iconst dX11_partsFor_16 ?_
      refine kw_goto 67 dX11_partsFor_17 (by decide) ?_
      refine k2_iret dX11_partsFor_67 rfl H
  · have H := H.2 h1
    refine kw_iconst dX11_partsFor_6 ?_
    refine kw_goto 67 dX11_partsFor_7 (by decide) ?_
    refine k2_iret dX11_partsFor_67 rfl H
set_option maxRecDepth 4000 in
theorem v_X11_readsAtom {G : KG} {S0 : KSh} (hL : kLay S0) {d : Nat} {P : Option AV → KMem → Prop} {c : KMem}  (H : kC2 G S0 kM_X11_here (d + 4) [kA 558] c (kRI (fun z1 c2 => (k32 z1) ∧ ((z1 ≠ 64 → (kC2 G S0 kM_X11_empties (d + 4) [kA 558, kI (44 + (c2 558 29))] c2 (kRN (fun c6 => kC2 G S0 kM_X11_isDigit (d + 4) [kI z1] c6 (kRI (fun z7 c8 => (k32 z7) ∧ ((z7 = 0 → (((65 ≤ z1 ∧ z1 ≤ 76) → ((0 ≤ ((12 + z1) - 65) ∧ ((12 + z1) - 65) < 24) ∧ ((k32 (c8 564 ((12 + z1) - 65))) ∧ (((c8 564 ((12 + z1) - 65)) ≠ 0 → (kC2 G S0 kM_X11_copies (d + 4) [kA 558, kI ((12 + z1) - 65), kI (44 + (c2 558 29))] c8 (kRN (fun c17 => kW2 G S0 kM_X11_readsAtom (d + 5) 183 [some (kA 558), none, none, none] [] (kup c17 558 23 ((c17 558 23) + 1)) P)))) ∧ ((c8 564 ((12 + z1) - 65)) = 0 → (kC2 G S0 kM_X11_wrongAt (d + 4) [kA 558, kI 7, kI (c8 558 23)] c8 (kRI (fun z18 c19 => (z18 = 0 ∨ z18 = 1) ∧ (P (some (kI z18)) c19))))))))) ∧ (¬ (65 ≤ z1 ∧ z1 ≤ 76) → (kC2 G S0 kM_X11_partsFor (d + 4) [kI z1] c8 (kRI (fun z22 c23 => (k32 z22) ∧ ((z22 ≠ 0 → (kW2 G S0 kM_X11_readsAtom (d + 5) 143 [some (kA 558), some (kI z1), some (kI (44 + (c2 558 29))), some (kI 0)] [] c23 P)) ∧ (z22 = 0 → (kC2 G S0 kM_X11_wrongAt (d + 4) [kA 558, kI 1, kI (c23 558 23)] c23 (kRI (fun z26 c27 => (z26 = 0 ∨ z26 = 1) ∧ (P (some (kI z26)) c27)))))))))))) ∧ (z7 ≠ 0 → (kC2 G S0 kM_X11_readsNumber (d + 4) [kA 558, kI 9999] c8 (kRI (fun z29 c30 => (k32 z29) ∧ ((z29 ≠ 0 → ((k32 (c30 558 26)) ∧ ((k32 (44 + (c2 558 29))) ∧ ((0 ≤ ((16 * (44 + (c2 558 29))) + 0) ∧ ((16 * (44 + (c2 558 29))) + 0) < 1600) ∧ (kW2 G S0 kM_X11_readsAtom (d + 5) 183 [some (kA 558), none, none, none] [] (kup c30 559 ((16 * (44 + (c2 558 29))) + 0) (c30 558 26)) P))))) ∧ (z29 = 0 → (P (some (kI 0)) c30)))))))))))))) ∧ (z1 = 64 → (kC2 G S0 kM_X11_readsPlace (d + 4) [kA 558] c2 (kRI (fun z36 c37 => (z36 = 0 ∨ z36 = 1) ∧ (P (some (kI z36)) c37))))))))) : kC2 G S0 kM_X11_readsAtom (d + 5) [kA 558] c P := by
  refine k2_met (by decide) rfl (Nat.le_of_ble_eq_true rfl) (l0 := [some (kA 558), none, none, none]) rfl ?_
  refine kw_aload_n dX11_readsAtom_0 rfl ?_
  refine k2_callV0I (ci := 9) (N := 38) (T := TX11) rfl (lsh_558 hL) m_X11_here dX11_readsAtom_1 wl_X11_196 (Nat.le_of_ble_eq_true rfl) (kC2_mono H (fun r c2 H => ?_))
  obtain ⟨z1, rfl, H⟩ := H
  refine ⟨z1, rfl, ?_⟩
  refine kw_istore_n dX11_readsAtom_4 (Nat.le_of_ble_eq_true rfl) ?_
  refine kw_iload_n dX11_readsAtom_5 rfl ?_
  refine kw_bipush dX11_readsAtom_6 (by decide) ?_
  have o4 := H.1
  have H := H.2
  refine kw_icmp_ne 16 dX11_readsAtom_8 (by decide) o4 (k32i (by omega)) (fun h3 => ?_) (fun h3 => ?_)
  · have H := H.1 h3
    refine kw_bipush dX11_readsAtom_16 (by decide) ?_
    refine kw_aload_n dX11_readsAtom_18 rfl ?_
    refine k2_getI fd_X11_29 dX11_readsAtom_19 wf_X11_229 (lsh_558 hL) ?_
    refine kw_iadd dX11_readsAtom_22 ?_
    refine kw_istore_n dX11_readsAtom_23 (Nat.le_of_ble_eq_true rfl) ?_
    refine kw_aload_n dX11_readsAtom_24 rfl ?_
    refine kw_iload_n dX11_readsAtom_25 rfl ?_
    refine k2_callV1N (ci := 9) (N := 38) (T := TX11) rfl (lsh_558 hL) m_X11_empties dX11_readsAtom_26 wl_X11_105 (Nat.le_of_ble_eq_true rfl) (kC2_mono H (fun r c6 H => ?_))
    obtain ⟨rfl, H⟩ := H
    refine ⟨rfl, ?_⟩
    refine kw_iload_n dX11_readsAtom_29 rfl ?_
    refine k2_callS1I m_X11_isDigit dX11_readsAtom_30 wl_X11_203 (Nat.le_of_ble_eq_true rfl) (kC2_mono H (fun r c8 H => ?_))
    obtain ⟨z7, rfl, H⟩ := H
    refine ⟨z7, rfl, ?_⟩
    have o10 := H.1
    have H := H.2
    refine kw_if_eq 62 dX11_readsAtom_33 (by decide) o10 (fun h9 => ?_) (fun h9 => ?_)
    · have H := H.1 h9
      refine kw_iload_n dX11_readsAtom_62 rfl ?_
      refine kw_bipush dX11_readsAtom_63 (by decide) ?_
      refine kw_bipush dX11_readsAtom_65 (by decide) ?_
      refine k2_callS3I m_X11_in dX11_readsAtom_67 wl_X11_100 (Nat.le_of_ble_eq_true rfl) (s_X11_in hL o4 (k32i (by omega)) (k32i (by omega)) (fun h11 => ⟨_, rfl, ?_⟩) (fun h11 => ⟨_, rfl, ?_⟩))
      · have H := H.1 h11
        refine kw_if_eq 124 dX11_readsAtom_70 (by decide) (k32i (by omega)) (fun h12 => absurd h12 (by decide)) (fun _ => ?_)
        refine kw_aload_n dX11_readsAtom_73 rfl ?_
        refine k2_getR fd_X11_5 dX11_readsAtom_74 wf_X11_25 (lsh_558 hL) (lrf_558_5 hL) ?_
        refine kw_bipush dX11_readsAtom_77 (by decide) ?_
        refine kw_iload_n dX11_readsAtom_79 rfl ?_
        refine kw_iadd dX11_readsAtom_80 ?_
        refine kw_bipush dX11_readsAtom_81 (by decide) ?_
        refine kw_isub dX11_readsAtom_83 ?_
        have o13 := H.1
        have H := H.2
        refine k2_zald dX11_readsAtom_84 (lsh_564 hL) (by omega) o13 ?_
        have o15 := H.1
        have H := H.2
        refine kw_if_ne 99 dX11_readsAtom_85 (by decide) o15 (fun h14 => ?_) (fun h14 => ?_)
        · have H := H.1 h14
          refine kw_aload_n dX11_readsAtom_99 rfl ?_
          refine kw_bipush dX11_readsAtom_100 (by decide) ?_
          refine kw_iload_n dX11_readsAtom_102 rfl ?_
          refine kw_iadd dX11_readsAtom_103 ?_
          refine kw_bipush dX11_readsAtom_104 (by decide) ?_
          refine kw_isub dX11_readsAtom_106 ?_
          refine kw_iload_n dX11_readsAtom_107 rfl ?_
          refine k2_callV2N (ci := 9) (N := 38) (T := TX11) rfl (lsh_558 hL) m_X11_copies dX11_readsAtom_108 wl_X11_132 (Nat.le_of_ble_eq_true rfl) (kC2_mono H (fun r c17 H => ?_))
          obtain ⟨rfl, H⟩ := H
          refine ⟨rfl, ?_⟩
          refine kw_aload_n dX11_readsAtom_111 rfl ?_
          refine kw_aload_n dX11_readsAtom_112 rfl ?_
          refine k2_getI fd_X11_23 dX11_readsAtom_113 wf_X11_183 (lsh_558 hL) ?_
          refine kw_iconst dX11_readsAtom_116 ?_
          refine kw_iadd dX11_readsAtom_117 ?_
          refine k2_putI fp_X11_23 dX11_readsAtom_118 wf_X11_183 (lsh_558 hL) ?_
          refine kw_goto 183 dX11_readsAtom_121 (by decide) ?_
          exact kw_forget (ls' := [some (kA 558), none, none, none]) ⟨Or.inr rfl, ⟨Or.inl rfl, ⟨Or.inl rfl, ⟨Or.inr rfl, trivial⟩⟩⟩⟩ H
        · have H := H.2 h14
          refine kw_aload_n dX11_readsAtom_88 rfl ?_
          refine kw_bipush dX11_readsAtom_89 (by decide) ?_
          refine kw_aload_n dX11_readsAtom_91 rfl ?_
          refine k2_getI fd_X11_23 dX11_readsAtom_92 wf_X11_183 (lsh_558 hL) ?_
          refine k2_callV2I (ci := 9) (N := 38) (T := TX11) rfl (lsh_558 hL) m_X11_wrongAt dX11_readsAtom_95 wl_X11_200 (Nat.le_of_ble_eq_true rfl) (kC2_mono H (fun r c19 H => ?_))
          obtain ⟨z18, rfl, H⟩ := H
          refine ⟨z18, rfl, ?_⟩
          have o20 := H.1
          have H := H.2
          refine k2_zret dX11_readsAtom_98 rfl o20 H
      · have H := H.2 h11
        refine kw_if_eq 124 dX11_readsAtom_70 (by decide) (k32i (by omega)) (fun _ => ?_) (fun h21 => absurd h21 (by decide))
        refine kw_iload_n dX11_readsAtom_124 rfl ?_
        refine k2_callS1I m_X11_partsFor dX11_readsAtom_125 wl_X11_240 (Nat.le_of_ble_eq_true rfl) (kC2_mono H (fun r c23 H => ?_))
        obtain ⟨z22, rfl, H⟩ := H
        refine ⟨z22, rfl, ?_⟩
        have o25 := H.1
        have H := H.2
        refine kw_if_ne 141 dX11_readsAtom_128 (by decide) o25 (fun h24 => ?_) (fun h24 => ?_)
        · have H := H.1 h24
          refine kw_iconst dX11_readsAtom_141 ?_
          refine kw_istore_n dX11_readsAtom_142 (Nat.le_of_ble_eq_true rfl) ?_
          exact kw_forget (ls' := [some (kA 558), some (kI z1), some (kI (44 + (c2 558 29))), some (kI 0)]) ⟨Or.inr rfl, ⟨Or.inr rfl, ⟨Or.inr rfl, ⟨Or.inr rfl, trivial⟩⟩⟩⟩ H
        · have H := H.2 h24
          refine kw_aload_n dX11_readsAtom_131 rfl ?_
          refine kw_iconst dX11_readsAtom_132 ?_
          refine kw_aload_n dX11_readsAtom_133 rfl ?_
          refine k2_getI fd_X11_23 dX11_readsAtom_134 wf_X11_183 (lsh_558 hL) ?_
          refine k2_callV2I (ci := 9) (N := 38) (T := TX11) rfl (lsh_558 hL) m_X11_wrongAt dX11_readsAtom_137 wl_X11_200 (Nat.le_of_ble_eq_true rfl) (kC2_mono H (fun r c27 H => ?_))
          obtain ⟨z26, rfl, H⟩ := H
          refine ⟨z26, rfl, ?_⟩
          have o28 := H.1
          have H := H.2
          refine k2_zret dX11_readsAtom_140 rfl o28 H
    · have H := H.2 h9
      refine kw_aload_n dX11_readsAtom_36 rfl ?_
      refine kw_sipush dX11_readsAtom_37 (by decide) ?_
      refine k2_callV1I (ci := 9) (N := 38) (T := TX11) rfl (lsh_558 hL) m_X11_readsNumber dX11_readsAtom_40 wl_X11_209 (Nat.le_of_ble_eq_true rfl) (kC2_mono H (fun r c30 H => ?_))
      obtain ⟨z29, rfl, H⟩ := H
      refine ⟨z29, rfl, ?_⟩
      have o32 := H.1
      have H := H.2
      refine kw_if_ne 48 dX11_readsAtom_43 (by decide) o32 (fun h31 => ?_) (fun h31 => ?_)
      · have H := H.1 h31
        refine kw_aload_n dX11_readsAtom_48 rfl ?_
        refine kw_iload_n dX11_readsAtom_49 rfl ?_
        refine kw_iconst dX11_readsAtom_50 ?_
        refine kw_aload_n dX11_readsAtom_51 rfl ?_
        refine k2_getI fd_X11_26 dX11_readsAtom_52 wf_X11_206 (lsh_558 hL) ?_
        have o33 := H.1
        have H := H.2
        refine kw_i2l dX11_readsAtom_55 o33 ?_
        have o34 := H.1
        have H := H.2
        have o35 := H.1
        have H := H.2
        refine k2_callV3N (ci := 9) (N := 38) (T := TX11) rfl (lsh_558 hL) m_X11_sets dX11_readsAtom_56 wl_X11_92 (Nat.le_of_ble_eq_true rfl) (s_X11_sets hL o34 (k32i (by omega)) o35 ⟨rfl, ?_⟩)
        refine kw_goto 183 dX11_readsAtom_59 (by decide) ?_
        exact kw_forget (ls' := [some (kA 558), none, none, none]) ⟨Or.inr rfl, ⟨Or.inl rfl, ⟨Or.inl rfl, ⟨Or.inr rfl, trivial⟩⟩⟩⟩ H
      · have H := H.2 h31
        refine kw_iconst dX11_readsAtom_46 ?_
        refine k2_zret dX11_readsAtom_47 rfl (Or.inl rfl) H
  · have H := H.2 h3
    refine kw_aload_n dX11_readsAtom_11 rfl ?_
    refine k2_callV0I (ci := 9) (N := 38) (T := TX11) rfl (lsh_558 hL) m_X11_readsPlace dX11_readsAtom_12 wl_X11_237 (Nat.le_of_ble_eq_true rfl) (kC2_mono H (fun r c37 H => ?_))
    obtain ⟨z36, rfl, H⟩ := H
    refine ⟨z36, rfl, ?_⟩
    have o38 := H.1
    have H := H.2
    refine k2_zret dX11_readsAtom_15 rfl o38 H
set_option maxRecDepth 4000 in
theorem v_X11_readsAtom_183 {G : KG} {S0 : KSh} (hL : kLay S0) {d : Nat} {P : Option AV → KMem → Prop} {c : KMem}  (H : P (some (kI 1)) (kup c 558 29 ((c 558 29) + 1))) : kW2 G S0 kM_X11_readsAtom (d + 5) 183 [some (kA 558), none, none, none] [] c P := by
  refine kw_aload_n dX11_readsAtom_183 rfl ?_
  refine kw_aload_n dX11_readsAtom_184 rfl ?_
  refine k2_getI fd_X11_29 dX11_readsAtom_185 wf_X11_229 (lsh_558 hL) ?_
  refine kw_iconst dX11_readsAtom_188 ?_
  refine kw_iadd dX11_readsAtom_189 ?_
  refine k2_putI fp_X11_29 dX11_readsAtom_190 wf_X11_229 (lsh_558 hL) ?_
  refine kw_iconst dX11_readsAtom_193 ?_
  refine k2_zret dX11_readsAtom_194 rfl (Or.inr rfl) H
set_option maxRecDepth 4000 in
theorem v_X11_readsAtom_143 {G : KG} {S0 : KSh} (hL : kLay S0) {d : Nat} {P : Option AV → KMem → Prop} {c : KMem} {x1 x2 x3 : Int} (r1 : -2147483648 ≤ x1 ∧ x1 < 2147483648) (r2 : -2147483648 ≤ x2 ∧ x2 < 2147483648) (r3 : 0 ≤ x3 ∧ x3 < 2147483648) (hp : 0 ≤ x2 ∧ x2 < 100) (H : (16 ≤ x3 → (kW2 G S0 kM_X11_readsAtom (d + 5) 183 [some (kA 558), none, none, none] [] (kup c 558 23 ((c 558 23) + 1)) P)) ∧ (x3 < 16 → (kC2 G S0 kM_X11_partsFor (d + 4) [kI x1] c (kRI (fun z40 c41 => (k32 z40) ∧ (((kand (kshr z40 x3) 1 = 1) → (kW2 G S0 kM_X11_readsAtom (d + 5) 143 [some (kA 558), some (kI x1), some (kI x2), some (kI (x3 + 1))] [] (kup c41 559 ((16 * x2) + x3) 1) P)) ∧ (¬ (kand (kshr z40 x3) 1 = 1) → (kW2 G S0 kM_X11_readsAtom (d + 5) 143 [some (kA 558), some (kI x1), some (kI x2), some (kI (x3 + 1))] [] c41 P)))))))) : kW2 G S0 kM_X11_readsAtom (d + 5) 143 [some (kA 558), some (kI x1), some (kI x2), some (kI x3)] [] c P := by
  refine kw_iload_n dX11_readsAtom_143 rfl ?_
  refine kw_bipush dX11_readsAtom_144 (by decide) ?_
  refine kw_icmp_ge 173 dX11_readsAtom_146 (by decide) (k32i (by omega)) (k32i (by omega)) (fun h39 => ?_) (fun h39 => ?_)
  · have H := H.1 h39
    refine kw_aload_n dX11_readsAtom_173 rfl ?_
    refine kw_aload_n dX11_readsAtom_174 rfl ?_
    refine k2_getI fd_X11_23 dX11_readsAtom_175 wf_X11_183 (lsh_558 hL) ?_
    refine kw_iconst dX11_readsAtom_178 ?_
    refine kw_iadd dX11_readsAtom_179 ?_
    refine k2_putI fp_X11_23 dX11_readsAtom_180 wf_X11_183 (lsh_558 hL) ?_
    exact kw_forget (ls' := [some (kA 558), none, none, none]) ⟨Or.inr rfl, ⟨Or.inl rfl, ⟨Or.inl rfl, ⟨Or.inl rfl, trivial⟩⟩⟩⟩ H
  · have H := H.2 h39
    refine kw_iload_n dX11_readsAtom_149 rfl ?_
    refine k2_callS1I m_X11_partsFor dX11_readsAtom_150 wl_X11_240 (Nat.le_of_ble_eq_true rfl) (kC2_mono H (fun r c41 H => ?_))
    obtain ⟨z40, rfl, H⟩ := H
    refine ⟨z40, rfl, ?_⟩
    refine kw_iload_n dX11_readsAtom_153 rfl ?_
    have o42 := H.1
    have H := H.2
    refine k2_callS2I m_X11_has dX11_readsAtom_154 wl_X11_80 (Nat.le_of_ble_eq_true rfl) (s_X11_has hL o42 (k32i (by omega)) (fun h43 => ⟨_, rfl, ?_⟩) (fun h43 => ⟨_, rfl, ?_⟩))
    · have H := H.1 h43
      refine kw_if_eq 167 dX11_readsAtom_157 (by decide) (k32i (by omega)) (fun h44 => absurd h44 (by decide)) (fun _ => ?_)
      refine kw_aload_n dX11_readsAtom_160 rfl ?_
      refine kw_iload_n dX11_readsAtom_161 rfl ?_
      refine kw_iload_n dX11_readsAtom_162 rfl ?_
      refine kw_lconst1 dX11_readsAtom_163 ?_
      refine k2_callV3N (ci := 9) (N := 38) (T := TX11) rfl (lsh_558 hL) m_X11_sets dX11_readsAtom_164 wl_X11_92 (Nat.le_of_ble_eq_true rfl) (s_X11_sets hL (k32i (by omega)) (k32i (by omega)) (by omega) ⟨rfl, ?_⟩)
      refine kw_iinc dX11_readsAtom_167 rfl ?_
      refine kw_goto 143 dX11_readsAtom_170 (by decide) ?_
      exact kw_forget (ls' := [some (kA 558), some (kI x1), some (kI x2), some (kI (x3 + 1))]) ⟨Or.inr rfl, ⟨Or.inr rfl, ⟨Or.inr rfl, ⟨Or.inr rfl, trivial⟩⟩⟩⟩ H
    · have H := H.2 h43
      refine kw_if_eq 167 dX11_readsAtom_157 (by decide) (k32i (by omega)) (fun _ => ?_) (fun h45 => absurd h45 (by decide))
      refine kw_iinc dX11_readsAtom_167 rfl ?_
      refine kw_goto 143 dX11_readsAtom_170 (by decide) ?_
      exact kw_forget (ls' := [some (kA 558), some (kI x1), some (kI x2), some (kI (x3 + 1))]) ⟨Or.inr rfl, ⟨Or.inr rfl, ⟨Or.inr rfl, ⟨Or.inr rfl, trivial⟩⟩⟩⟩ H
set_option maxRecDepth 4000 in
theorem v_X11_turns {G : KG} {S0 : KSh} (hL : kLay S0) {d : Nat} {P : Option AV → KMem → Prop} {c : KMem} {x1 x2 x3 : Int} (r1 : -2147483648 ≤ x1 ∧ x1 < 2147483648) (r2 : -2147483648 ≤ x2 ∧ x2 < 2147483648) (r3 : -2147483648 ≤ x3 ∧ x3 < 2147483648) (H : (x1 ≠ 8 ∧ x1 ≠ 9 ∧ x1 ≠ 10 ∧ x1 ≠ 11 → (kW2 G S0 kM_X11_turns (d + 3) 86 [some (kA 558), none, some (kI x2), some (kI x3), some (kI 0)] [] c P)) ∧ (x1 = 8 → (kC2 G S0 kM_X11_reverses (d + 2) [kA 558, kI x2] c (kRN (fun c3 => P none c3)))) ∧ (x1 = 9 → (kC2 G S0 kM_X11_turnsWhole (d + 2) [kA 558, kI x2, kI 1] c (kRN (fun c5 => P none c5)))) ∧ (x1 = 10 → (kC2 G S0 kM_X11_normals (d + 2) [kA 558, kI x2] c (kRN (fun c7 => P none c7)))) ∧ (x1 = 11 → (kW2 G S0 kM_X11_turns (d + 3) 54 [some (kA 558), none, some (kI x2), none, some (kI 0)] [] c P))) : kC2 G S0 kM_X11_turns (d + 3) [kA 558, kI x1, kI x2, kI x3] c P := by
  refine k2_met (by decide) rfl (Nat.le_of_ble_eq_true rfl) (l0 := [some (kA 558), some (kI x1), some (kI x2), some (kI x3), none]) rfl ?_
  refine kw_iload_n dX11_turns_0 rfl ?_
  refine k2_tsw dX11_turns_1 (k32i (by omega)) 83 (by decide) (fun h1 => ?_) ?_
  · have H := H.1 (by omega)
    refine kw_iconst dX11_turns_83 ?_
    refine kw_istore dX11_turns_84 (Nat.le_of_ble_eq_true rfl) ?_
    exact kw_forget (ls' := [some (kA 558), none, some (kI x2), some (kI x3), some (kI 0)]) ⟨Or.inr rfl, ⟨Or.inl rfl, ⟨Or.inr rfl, ⟨Or.inr rfl, ⟨Or.inr rfl, trivial⟩⟩⟩⟩⟩ H
  · intro j off tgt e1 e2 e3 e4
    have hj : j < 4 := by omega
    by_cases f0 : j = 0
    · subst f0
      have e5 : off = 31 := Option.some.inj (e3.symm.trans (by decide))
      obtain rfl : tgt = 32 := by omega
      have H := H.2.1 (by omega)
      refine kw_aload_n dX11_turns_32 rfl ?_
      refine kw_iload_n dX11_turns_33 rfl ?_
      refine k2_callV1N (ci := 9) (N := 38) (T := TX11) rfl (lsh_558 hL) m_X11_reverses dX11_turns_34 wl_X11_149 (Nat.le_of_ble_eq_true rfl) (kC2_mono H (fun r c3 H => ?_))
      obtain ⟨rfl, H⟩ := H
      refine ⟨rfl, ?_⟩
      refine k2_ret dX11_turns_37 rfl H
    by_cases f1 : j = 1
    · subst f1
      have e5 : off = 37 := Option.some.inj (e3.symm.trans (by decide))
      obtain rfl : tgt = 38 := by omega
      have H := H.2.2.1 (by omega)
      refine kw_aload_n dX11_turns_38 rfl ?_
      refine kw_iload_n dX11_turns_39 rfl ?_
      refine kw_iconst dX11_turns_40 ?_
      refine k2_callV2N (ci := 9) (N := 38) (T := TX11) rfl (lsh_558 hL) m_X11_turnsWhole dX11_turns_41 wl_X11_136 (Nat.le_of_ble_eq_true rfl) (kC2_mono H (fun r c5 H => ?_))
      obtain ⟨rfl, H⟩ := H
      refine ⟨rfl, ?_⟩
      refine k2_ret dX11_turns_44 rfl H
    by_cases f2 : j = 2
    · subst f2
      have e5 : off = 44 := Option.some.inj (e3.symm.trans (by decide))
      obtain rfl : tgt = 45 := by omega
      have H := H.2.2.2.1 (by omega)
      refine kw_aload_n dX11_turns_45 rfl ?_
      refine kw_iload_n dX11_turns_46 rfl ?_
      refine k2_callV1N (ci := 9) (N := 38) (T := TX11) rfl (lsh_558 hL) m_X11_normals dX11_turns_47 wl_X11_165 (Nat.le_of_ble_eq_true rfl) (kC2_mono H (fun r c7 H => ?_))
      obtain ⟨rfl, H⟩ := H
      refine ⟨rfl, ?_⟩
      refine k2_ret dX11_turns_50 rfl H
    by_cases f3 : j = 3
    · subst f3
      have e5 : off = 50 := Option.some.inj (e3.symm.trans (by decide))
      obtain rfl : tgt = 51 := by omega
      have H := H.2.2.2.2 (by omega)
      refine kw_iconst dX11_turns_51 ?_
      refine kw_istore dX11_turns_52 (Nat.le_of_ble_eq_true rfl) ?_
      exact kw_forget (ls' := [some (kA 558), none, some (kI x2), none, some (kI 0)]) ⟨Or.inr rfl, ⟨Or.inl rfl, ⟨Or.inr rfl, ⟨Or.inl rfl, ⟨Or.inr rfl, trivial⟩⟩⟩⟩⟩ H
    omega
set_option maxRecDepth 4000 in
theorem v_X11_turns_86 {G : KG} {S0 : KSh} (hL : kLay S0) {d : Nat} {P : Option AV → KMem → Prop} {c : KMem} {x2 x3 x4 : Int} (r2 : -2147483648 ≤ x2 ∧ x2 < 2147483648) (r3 : -2147483648 ≤ x3 ∧ x3 < 2147483648) (r4 : 0 ≤ x4 ∧ x4 < 2147483648) (hp : 0 ≤ x2 ∧ x2 < 100) (H : (16 ≤ x4 → (P none c)) ∧ (x4 < 16 → (((kpop (Int.toNat x4) : Int) = x3 → (kW2 G S0 kM_X11_turns (d + 3) 86 [some (kA 558), none, some (kI x2), some (kI x3), some (kI (x4 + 1))] [] c P)) ∧ ((kpop (Int.toNat x4) : Int) ≠ x3 → (kW2 G S0 kM_X11_turns (d + 3) 86 [some (kA 558), none, some (kI x2), some (kI x3), some (kI (x4 + 1))] [] (kup c 559 ((16 * x2) + x4) 0) P))))) : kW2 G S0 kM_X11_turns (d + 3) 86 [some (kA 558), none, some (kI x2), some (kI x3), some (kI x4)] [] c P := by
  refine kw_iload dX11_turns_86 rfl ?_
  refine kw_bipush dX11_turns_88 (by decide) ?_
  refine kw_icmp_ge 116 dX11_turns_90 (by decide) (k32i (by omega)) (k32i (by omega)) (fun h8 => ?_) (fun h8 => ?_)
  · have H := H.1 h8
    refine k2_ret dX11_turns_116 rfl H
  · have H := H.2 h8
    refine kw_iload dX11_turns_93 rfl ?_
    refine k2_callS1I m_X11_sizeOf dX11_turns_95 wl_X11_96 (Nat.le_of_ble_eq_true rfl) (s_X11_sizeOf hL (by omega) ⟨_, rfl, ?_⟩)
    refine kw_iload_n dX11_turns_98 rfl ?_
    refine kw_icmp_eq 110 dX11_turns_99 (by decide) (k32_pop _) (k32i (by omega)) (fun h9 => ?_) (fun h9 => ?_)
    · have H := H.1 h9
      refine kw_iinc dX11_turns_110 rfl ?_
      refine kw_goto 86 dX11_turns_113 (by decide) ?_
      exact kw_forget (ls' := [some (kA 558), none, some (kI x2), some (kI x3), some (kI (x4 + 1))]) ⟨Or.inr rfl, ⟨Or.inr rfl, ⟨Or.inr rfl, ⟨Or.inr rfl, ⟨Or.inr rfl, trivial⟩⟩⟩⟩⟩ H
    · have H := H.2 h9
      refine kw_aload_n dX11_turns_102 rfl ?_
      refine kw_iload_n dX11_turns_103 rfl ?_
      refine kw_iload dX11_turns_104 rfl ?_
      refine kw_lconst0 dX11_turns_106 ?_
      refine k2_callV3N (ci := 9) (N := 38) (T := TX11) rfl (lsh_558 hL) m_X11_sets dX11_turns_107 wl_X11_92 (Nat.le_of_ble_eq_true rfl) (s_X11_sets hL (k32i (by omega)) (k32i (by omega)) (by omega) ⟨rfl, ?_⟩)
      refine kw_iinc dX11_turns_110 rfl ?_
      refine kw_goto 86 dX11_turns_113 (by decide) ?_
      exact kw_forget (ls' := [some (kA 558), none, some (kI x2), some (kI x3), some (kI (x4 + 1))]) ⟨Or.inr rfl, ⟨Or.inr rfl, ⟨Or.inr rfl, ⟨Or.inr rfl, ⟨Or.inr rfl, trivial⟩⟩⟩⟩⟩ H
set_option maxRecDepth 4000 in
theorem v_X11_turns_54 {G : KG} {S0 : KSh} (hL : kLay S0) {d : Nat} {P : Option AV → KMem → Prop} {c : KMem} {x2 x4 : Int} (r2 : -2147483648 ≤ x2 ∧ x2 < 2147483648) (r4 : 0 ≤ x4 ∧ x4 < 2147483648) (hp : 0 ≤ x2 ∧ x2 < 100) (H : (16 ≤ x4 → (P none c)) ∧ (x4 < 16 → (kW2 G S0 kM_X11_turns (d + 3) 54 [some (kA 558), none, some (kI x2), none, some (kI (x4 + 1))] [] (kup c 559 ((16 * x2) + x4) (-(c 559 ((16 * x2) + x4)))) P))) : kW2 G S0 kM_X11_turns (d + 3) 54 [some (kA 558), none, some (kI x2), none, some (kI x4)] [] c P := by
  refine kw_iload dX11_turns_54 rfl ?_
  refine kw_bipush dX11_turns_56 (by decide) ?_
  refine kw_icmp_ge 82 dX11_turns_58 (by decide) (k32i (by omega)) (k32i (by omega)) (fun h10 => ?_) (fun h10 => ?_)
  · have H := H.1 h10
    refine k2_ret dX11_turns_82 rfl H
  · have H := H.2 h10
    refine kw_aload_n dX11_turns_61 rfl ?_
    refine kw_iload_n dX11_turns_62 rfl ?_
    refine kw_iload dX11_turns_63 rfl ?_
    refine kw_aload_n dX11_turns_65 rfl ?_
    refine kw_iload_n dX11_turns_66 rfl ?_
    refine kw_iload dX11_turns_67 rfl ?_
    refine k2_callV2L (ci := 9) (N := 38) (T := TX11) rfl (lsh_558 hL) m_X11_at dX11_turns_69 wl_X11_84 (Nat.le_of_ble_eq_true rfl) (s_X11_at hL (k32i (by omega)) (k32i (by omega)) (by omega) ⟨_, rfl, ?_⟩)
    refine kw_lneg dX11_turns_72 ?_
    refine k2_callV3N (ci := 9) (N := 38) (T := TX11) rfl (lsh_558 hL) m_X11_sets dX11_turns_73 wl_X11_92 (Nat.le_of_ble_eq_true rfl) (s_X11_sets hL (k32i (by omega)) (k32i (by omega)) (by omega) ⟨rfl, ?_⟩)
    refine kw_iinc dX11_turns_76 rfl ?_
    refine kw_goto 54 dX11_turns_79 (by decide) ?_
    exact kw_forget (ls' := [some (kA 558), none, some (kI x2), none, some (kI (x4 + 1))]) ⟨Or.inr rfl, ⟨Or.inr rfl, ⟨Or.inr rfl, ⟨Or.inr rfl, ⟨Or.inr rfl, trivial⟩⟩⟩⟩⟩ H
set_option maxRecDepth 4000 in
theorem v_X11_settlesSign {G : KG} {S0 : KSh} (hL : kLay S0) {d : Nat} {P : Option AV → KMem → Prop} {c : KMem}  (H : kC2 G S0 kM_X11_uppermost (d + 2) [kA 558] c (kRI (fun z1 c2 => (0 ≤ ((c2 558 27) - 1) ∧ ((c2 558 27) - 1) < 80) ∧ ((k32 z1) ∧ ((z1 ≠ 3 → ((z1 ≠ 4 → ((z1 = 5 → (kW2 G S0 kM_X11_settlesSign (d + 3) 104 [some (kA 558), some (kI z1), some (kI (c2 573 ((c2 558 27) - 1))), some (kI ((44 + ((c2 558 29) - 1)) - 1)), some (kI (44 + ((c2 558 29) - 1))), none, some (kI 0)] [] (kup (kup c2 558 27 ((c2 558 27) - 1)) 558 29 ((c2 558 29) - 1)) P)) ∧ (z1 ≠ 5 → ((z1 ≠ 6 → (kC2 G S0 kM_X11_joins (d + 2) [kA 558, kI z1, kI ((44 + ((c2 558 29) - 1)) - 1), kI (44 + ((c2 558 29) - 1)), kI ((44 + ((c2 558 29) - 1)) - 1)] (kup (kup c2 558 27 ((c2 558 27) - 1)) 558 29 ((c2 558 29) - 1)) (kRN (fun c10 => kC2 G S0 kM_X11_isWithin (d + 2) [kA 558, kI ((44 + ((c2 558 29) - 1)) - 1)] c10 (kRI (fun z11 c12 => kW2 G S0 kM_X11_settlesSign (d + 3) 183 [some (kA 558), none, some (kI (c2 573 ((c2 558 27) - 1))), none, none, some (kI z11), none] [] c12 P)))))) ∧ (z1 = 6 → (kW2 G S0 kM_X11_settlesSign (d + 3) 104 [some (kA 558), some (kI z1), some (kI (c2 573 ((c2 558 27) - 1))), some (kI ((44 + ((c2 558 29) - 1)) - 1)), some (kI (44 + ((c2 558 29) - 1))), none, some (kI 0)] [] (kup (kup c2 558 27 ((c2 558 27) - 1)) 558 29 ((c2 558 29) - 1)) P)))))) ∧ (z1 = 4 → (kC2 G S0 kM_X11_mirrors (d + 2) [kA 558, kI ((44 + ((c2 558 29) - 1)) - 1), kI (44 + ((c2 558 29) - 1))] (kup (kup c2 558 27 ((c2 558 27) - 1)) 558 29 ((c2 558 29) - 1)) (kRI (fun z13 c14 => kW2 G S0 kM_X11_settlesSign (d + 3) 183 [some (kA 558), none, some (kI (c2 573 ((c2 558 27) - 1))), none, none, some (kI z13), none] [] c14 P)))))) ∧ (z1 = 3 → (kC2 G S0 kM_X11_meets (d + 2) [kA 558, kI ((44 + ((c2 558 29) - 1)) - 1), kI (44 + ((c2 558 29) - 1))] (kup (kup c2 558 27 ((c2 558 27) - 1)) 558 29 ((c2 558 29) - 1)) (kRI (fun z15 c16 => kW2 G S0 kM_X11_settlesSign (d + 3) 183 [some (kA 558), none, some (kI (c2 573 ((c2 558 27) - 1))), none, none, some (kI z15), none] [] c16 P))))))))) : kC2 G S0 kM_X11_settlesSign (d + 3) [kA 558] c P := by
  refine k2_met (by decide) rfl (Nat.le_of_ble_eq_true rfl) (l0 := [some (kA 558), none, none, none, none, none, none]) rfl ?_
  refine kw_aload_n dX11_settlesSign_0 rfl ?_
  refine k2_callV0I (ci := 9) (N := 38) (T := TX11) rfl (lsh_558 hL) m_X11_uppermost dX11_settlesSign_1 wl_X11_243 (Nat.le_of_ble_eq_true rfl) (kC2_mono H (fun r c2 H => ?_))
  obtain ⟨z1, rfl, H⟩ := H
  refine ⟨z1, rfl, ?_⟩
  refine kw_istore_n dX11_settlesSign_4 (Nat.le_of_ble_eq_true rfl) ?_
  refine kw_aload_n dX11_settlesSign_5 rfl ?_
  refine k2_getR fd_X11_19 dX11_settlesSign_6 wf_X11_55 (lsh_558 hL) (lrf_558_19 hL) ?_
  refine kw_aload_n dX11_settlesSign_9 rfl ?_
  refine k2_getI fd_X11_27 dX11_settlesSign_10 wf_X11_212 (lsh_558 hL) ?_
  refine kw_iconst dX11_settlesSign_13 ?_
  refine kw_isub dX11_settlesSign_14 ?_
  have o3 := H.1
  have H := H.2
  refine k2_iald dX11_settlesSign_15 (lsh_573 hL) (by omega) o3 ?_
  refine kw_istore_n dX11_settlesSign_16 (Nat.le_of_ble_eq_true rfl) ?_
  refine kw_aload_n dX11_settlesSign_17 rfl ?_
  refine kw_aload_n dX11_settlesSign_18 rfl ?_
  refine k2_getI fd_X11_27 dX11_settlesSign_19 wf_X11_212 (lsh_558 hL) ?_
  refine kw_iconst dX11_settlesSign_22 ?_
  refine kw_isub dX11_settlesSign_23 ?_
  refine k2_putI fp_X11_27 dX11_settlesSign_24 wf_X11_212 (lsh_558 hL) ?_
  refine kw_aload_n dX11_settlesSign_27 rfl ?_
  refine kw_aload_n dX11_settlesSign_28 rfl ?_
  refine k2_getI fd_X11_29 dX11_settlesSign_29 wf_X11_229 (lsh_558 hL) ?_
  refine kw_eI (kup_n (Or.inr (by omega))) ?_
  refine kw_iconst dX11_settlesSign_32 ?_
  refine kw_isub dX11_settlesSign_33 ?_
  refine k2_putI fp_X11_29 dX11_settlesSign_34 wf_X11_229 (lsh_558 hL) ?_
  refine kw_bipush dX11_settlesSign_37 (by decide) ?_
  refine kw_aload_n dX11_settlesSign_39 rfl ?_
  refine k2_getI fd_X11_29 dX11_settlesSign_40 wf_X11_229 (lsh_558 hL) ?_
  refine kw_eI (kup_s _ _ _ _) ?_
  refine kw_iadd dX11_settlesSign_43 ?_
  refine kw_iconst dX11_settlesSign_44 ?_
  refine kw_isub dX11_settlesSign_45 ?_
  refine kw_istore_n dX11_settlesSign_46 (Nat.le_of_ble_eq_true rfl) ?_
  refine kw_bipush dX11_settlesSign_47 (by decide) ?_
  refine kw_aload_n dX11_settlesSign_49 rfl ?_
  refine k2_getI fd_X11_29 dX11_settlesSign_50 wf_X11_229 (lsh_558 hL) ?_
  refine kw_eI (kup_s _ _ _ _) ?_
  refine kw_iadd dX11_settlesSign_53 ?_
  refine kw_istore dX11_settlesSign_54 (Nat.le_of_ble_eq_true rfl) ?_
  refine kw_iload_n dX11_settlesSign_56 rfl ?_
  refine kw_iconst dX11_settlesSign_57 ?_
  have o5 := H.1
  have H := H.2
  refine kw_icmp_ne 73 dX11_settlesSign_58 (by decide) o5 (k32i (by omega)) (fun h4 => ?_) (fun h4 => ?_)
  · have H := H.1 h4
    refine kw_iload_n dX11_settlesSign_73 rfl ?_
    refine kw_iconst dX11_settlesSign_74 ?_
    refine kw_icmp_ne 90 dX11_settlesSign_75 (by decide) o5 (k32i (by omega)) (fun h6 => ?_) (fun h6 => ?_)
    · have H := H.1 h6
      refine kw_iload_n dX11_settlesSign_90 rfl ?_
      refine kw_iconst dX11_settlesSign_91 ?_
      refine kw_icmp_eq 101 dX11_settlesSign_92 (by decide) o5 (k32i (by omega)) (fun h7 => ?_) (fun h7 => ?_)
      · have H := H.1 h7
        refine kw_iconst dX11_settlesSign_101 ?_
        refine kw_istore dX11_settlesSign_102 (Nat.le_of_ble_eq_true rfl) ?_
        exact kw_forget (ls' := [some (kA 558), some (kI z1), some (kI (c2 573 ((c2 558 27) - 1))), some (kI ((44 + ((c2 558 29) - 1)) - 1)), some (kI (44 + ((c2 558 29) - 1))), none, some (kI 0)]) ⟨Or.inr rfl, ⟨Or.inr rfl, ⟨Or.inr rfl, ⟨Or.inr rfl, ⟨Or.inr rfl, ⟨Or.inr rfl, ⟨Or.inr rfl, trivial⟩⟩⟩⟩⟩⟩⟩ H
      · have H := H.2 h7
        refine kw_iload_n dX11_settlesSign_95 rfl ?_
        refine kw_bipush dX11_settlesSign_96 (by decide) ?_
        refine kw_icmp_ne 167 dX11_settlesSign_98 (by decide) o5 (k32i (by omega)) (fun h8 => ?_) (fun h8 => ?_)
        · have H := H.1 h8
          refine kw_aload_n dX11_settlesSign_167 rfl ?_
          refine kw_iload_n dX11_settlesSign_168 rfl ?_
          refine kw_iload_n dX11_settlesSign_169 rfl ?_
          refine kw_iload dX11_settlesSign_170 rfl ?_
          refine kw_iload_n dX11_settlesSign_172 rfl ?_
          refine k2_callV4N (ci := 9) (N := 38) (T := TX11) rfl (lsh_558 hL) m_X11_joins dX11_settlesSign_173 wl_X11_111 (Nat.le_of_ble_eq_true rfl) (kC2_mono H (fun r c10 H => ?_))
          obtain ⟨rfl, H⟩ := H
          refine ⟨rfl, ?_⟩
          refine kw_aload_n dX11_settlesSign_176 rfl ?_
          refine kw_iload_n dX11_settlesSign_177 rfl ?_
          refine k2_callV1I (ci := 9) (N := 38) (T := TX11) rfl (lsh_558 hL) m_X11_isWithin dX11_settlesSign_178 wl_X11_168 (Nat.le_of_ble_eq_true rfl) (kC2_mono H (fun r c12 H => ?_))
          obtain ⟨z11, rfl, H⟩ := H
          refine ⟨z11, rfl, ?_⟩
          refine kw_istore dX11_settlesSign_181 (Nat.le_of_ble_eq_true rfl) ?_
          exact kw_forget (ls' := [some (kA 558), none, some (kI (c2 573 ((c2 558 27) - 1))), none, none, some (kI z11), none]) ⟨Or.inr rfl, ⟨Or.inl rfl, ⟨Or.inr rfl, ⟨Or.inl rfl, ⟨Or.inl rfl, ⟨Or.inr rfl, ⟨Or.inr rfl, trivial⟩⟩⟩⟩⟩⟩⟩ H
        · have H := H.2 h8
          refine kw_iconst dX11_settlesSign_101 ?_
          refine kw_istore dX11_settlesSign_102 (Nat.le_of_ble_eq_true rfl) ?_
          exact kw_forget (ls' := [some (kA 558), some (kI z1), some (kI (c2 573 ((c2 558 27) - 1))), some (kI ((44 + ((c2 558 29) - 1)) - 1)), some (kI (44 + ((c2 558 29) - 1))), none, some (kI 0)]) ⟨Or.inr rfl, ⟨Or.inr rfl, ⟨Or.inr rfl, ⟨Or.inr rfl, ⟨Or.inr rfl, ⟨Or.inr rfl, ⟨Or.inr rfl, trivial⟩⟩⟩⟩⟩⟩⟩ H
    · have H := H.2 h6
      refine kw_aload_n dX11_settlesSign_78 rfl ?_
      refine kw_iload_n dX11_settlesSign_79 rfl ?_
      refine kw_iload dX11_settlesSign_80 rfl ?_
      refine k2_callV2I (ci := 9) (N := 38) (T := TX11) rfl (lsh_558 hL) m_X11_mirrors dX11_settlesSign_82 wl_X11_249 (Nat.le_of_ble_eq_true rfl) (kC2_mono H (fun r c14 H => ?_))
      obtain ⟨z13, rfl, H⟩ := H
      refine ⟨z13, rfl, ?_⟩
      refine kw_istore dX11_settlesSign_85 (Nat.le_of_ble_eq_true rfl) ?_
      refine kw_goto 183 dX11_settlesSign_87 (by decide) ?_
      exact kw_forget (ls' := [some (kA 558), none, some (kI (c2 573 ((c2 558 27) - 1))), none, none, some (kI z13), none]) ⟨Or.inr rfl, ⟨Or.inl rfl, ⟨Or.inr rfl, ⟨Or.inl rfl, ⟨Or.inl rfl, ⟨Or.inr rfl, ⟨Or.inr rfl, trivial⟩⟩⟩⟩⟩⟩⟩ H
  · have H := H.2 h4
    refine kw_aload_n dX11_settlesSign_61 rfl ?_
    refine kw_iload_n dX11_settlesSign_62 rfl ?_
    refine kw_iload dX11_settlesSign_63 rfl ?_
    refine k2_callV2I (ci := 9) (N := 38) (T := TX11) rfl (lsh_558 hL) m_X11_meets dX11_settlesSign_65 wl_X11_246 (Nat.le_of_ble_eq_true rfl) (kC2_mono H (fun r c16 H => ?_))
    obtain ⟨z15, rfl, H⟩ := H
    refine ⟨z15, rfl, ?_⟩
    refine kw_istore dX11_settlesSign_68 (Nat.le_of_ble_eq_true rfl) ?_
    refine kw_goto 183 dX11_settlesSign_70 (by decide) ?_
    exact kw_forget (ls' := [some (kA 558), none, some (kI (c2 573 ((c2 558 27) - 1))), none, none, some (kI z15), none]) ⟨Or.inr rfl, ⟨Or.inl rfl, ⟨Or.inr rfl, ⟨Or.inl rfl, ⟨Or.inl rfl, ⟨Or.inr rfl, ⟨Or.inr rfl, trivial⟩⟩⟩⟩⟩⟩⟩ H
set_option maxRecDepth 4000 in
theorem v_X11_settlesSign_104 {G : KG} {S0 : KSh} (hL : kLay S0) {d : Nat} {P : Option AV → KMem → Prop} {c : KMem} {x1 x2 x3 x4 x6 : Int} (r1 : -2147483648 ≤ x1 ∧ x1 < 2147483648) (r2 : -2147483648 ≤ x2 ∧ x2 < 2147483648) (r3 : -2147483648 ≤ x3 ∧ x3 < 2147483648) (r4 : -2147483648 ≤ x4 ∧ x4 < 2147483648) (r6 : 0 ≤ x6 ∧ x6 < 2147483648) (hp : 0 ≤ x3 ∧ x3 < 100 ∧ 0 ≤ x4 ∧ x4 < 100) (H : (16 ≤ x6 → (kC2 G S0 kM_X11_isWithin (d + 2) [kA 558, kI x3] c (kRI (fun z18 c19 => kW2 G S0 kM_X11_settlesSign (d + 3) 183 [some (kA 558), none, some (kI x2), none, none, some (kI z18), none] [] c19 P)))) ∧ (x6 < 16 → ((x1 ≠ 5 → (kW2 G S0 kM_X11_settlesSign (d + 3) 104 [some (kA 558), some (kI x1), some (kI x2), some (kI x3), some (kI x4), none, some (kI (x6 + 1))] [] (kup c 559 ((16 * x3) + x6) ((c 559 ((16 * x3) + x6)) + (-(c 559 ((16 * x4) + x6))))) P)) ∧ (x1 = 5 → (kW2 G S0 kM_X11_settlesSign (d + 3) 104 [some (kA 558), some (kI x1), some (kI x2), some (kI x3), some (kI x4), none, some (kI (x6 + 1))] [] (kup c 559 ((16 * x3) + x6) ((c 559 ((16 * x3) + x6)) + (c 559 ((16 * x4) + x6)))) P))))) : kW2 G S0 kM_X11_settlesSign (d + 3) 104 [some (kA 558), some (kI x1), some (kI x2), some (kI x3), some (kI x4), none, some (kI x6)] [] c P := by
  refine kw_iload dX11_settlesSign_104 rfl ?_
  refine kw_bipush dX11_settlesSign_106 (by decide) ?_
  refine kw_icmp_ge 157 dX11_settlesSign_108 (by decide) (k32i (by omega)) (k32i (by omega)) (fun h17 => ?_) (fun h17 => ?_)
  · have H := H.1 h17
    refine kw_aload_n dX11_settlesSign_157 rfl ?_
    refine kw_iload_n dX11_settlesSign_158 rfl ?_
    refine k2_callV1I (ci := 9) (N := 38) (T := TX11) rfl (lsh_558 hL) m_X11_isWithin dX11_settlesSign_159 wl_X11_168 (Nat.le_of_ble_eq_true rfl) (kC2_mono H (fun r c19 H => ?_))
    obtain ⟨z18, rfl, H⟩ := H
    refine ⟨z18, rfl, ?_⟩
    refine kw_istore dX11_settlesSign_162 (Nat.le_of_ble_eq_true rfl) ?_
    refine kw_goto 183 dX11_settlesSign_164 (by decide) ?_
    exact kw_forget (ls' := [some (kA 558), none, some (kI x2), none, none, some (kI z18), none]) ⟨Or.inr rfl, ⟨Or.inl rfl, ⟨Or.inr rfl, ⟨Or.inl rfl, ⟨Or.inl rfl, ⟨Or.inr rfl, ⟨Or.inl rfl, trivial⟩⟩⟩⟩⟩⟩⟩ H
  · have H := H.2 h17
    refine kw_aload_n dX11_settlesSign_111 rfl ?_
    refine kw_iload_n dX11_settlesSign_112 rfl ?_
    refine kw_iload dX11_settlesSign_113 rfl ?_
    refine kw_aload_n dX11_settlesSign_115 rfl ?_
    refine kw_iload_n dX11_settlesSign_116 rfl ?_
    refine kw_iload dX11_settlesSign_117 rfl ?_
    refine k2_callV2L (ci := 9) (N := 38) (T := TX11) rfl (lsh_558 hL) m_X11_at dX11_settlesSign_119 wl_X11_84 (Nat.le_of_ble_eq_true rfl) (s_X11_at hL (k32i (by omega)) (k32i (by omega)) (by omega) ⟨_, rfl, ?_⟩)
    refine kw_iload_n dX11_settlesSign_122 rfl ?_
    refine kw_iconst dX11_settlesSign_123 ?_
    refine kw_icmp_ne 138 dX11_settlesSign_124 (by decide) (k32i (by omega)) (k32i (by omega)) (fun h20 => ?_) (fun h20 => ?_)
    · have H := H.1 h20
      refine kw_aload_n dX11_settlesSign_138 rfl ?_
      refine kw_iload dX11_settlesSign_139 rfl ?_
      refine kw_iload dX11_settlesSign_141 rfl ?_
      refine k2_callV2L (ci := 9) (N := 38) (T := TX11) rfl (lsh_558 hL) m_X11_at dX11_settlesSign_143 wl_X11_84 (Nat.le_of_ble_eq_true rfl) (s_X11_at hL (k32i (by omega)) (k32i (by omega)) (by omega) ⟨_, rfl, ?_⟩)
      refine kw_lneg dX11_settlesSign_146 ?_
      refine kw_ladd dX11_settlesSign_147 ?_
      refine k2_callV3N (ci := 9) (N := 38) (T := TX11) rfl (lsh_558 hL) m_X11_sets dX11_settlesSign_148 wl_X11_92 (Nat.le_of_ble_eq_true rfl) (s_X11_sets hL (k32i (by omega)) (k32i (by omega)) (by omega) ⟨rfl, ?_⟩)
      refine kw_iinc dX11_settlesSign_151 rfl ?_
      refine kw_goto 104 dX11_settlesSign_154 (by decide) ?_
      exact kw_forget (ls' := [some (kA 558), some (kI x1), some (kI x2), some (kI x3), some (kI x4), none, some (kI (x6 + 1))]) ⟨Or.inr rfl, ⟨Or.inr rfl, ⟨Or.inr rfl, ⟨Or.inr rfl, ⟨Or.inr rfl, ⟨Or.inr rfl, ⟨Or.inr rfl, trivial⟩⟩⟩⟩⟩⟩⟩ H
    · have H := H.2 h20
      refine kw_aload_n dX11_settlesSign_127 rfl ?_
      refine kw_iload dX11_settlesSign_128 rfl ?_
      refine kw_iload dX11_settlesSign_130 rfl ?_
      refine k2_callV2L (ci := 9) (N := 38) (T := TX11) rfl (lsh_558 hL) m_X11_at dX11_settlesSign_132 wl_X11_84 (Nat.le_of_ble_eq_true rfl) (s_X11_at hL (k32i (by omega)) (k32i (by omega)) (by omega) ⟨_, rfl, ?_⟩)
      refine kw_goto 147 dX11_settlesSign_135 (by decide) ?_
      refine kw_ladd dX11_settlesSign_147 ?_
      refine k2_callV3N (ci := 9) (N := 38) (T := TX11) rfl (lsh_558 hL) m_X11_sets dX11_settlesSign_148 wl_X11_92 (Nat.le_of_ble_eq_true rfl) (s_X11_sets hL (k32i (by omega)) (k32i (by omega)) (by omega) ⟨rfl, ?_⟩)
      refine kw_iinc dX11_settlesSign_151 rfl ?_
      refine kw_goto 104 dX11_settlesSign_154 (by decide) ?_
      exact kw_forget (ls' := [some (kA 558), some (kI x1), some (kI x2), some (kI x3), some (kI x4), none, some (kI (x6 + 1))]) ⟨Or.inr rfl, ⟨Or.inr rfl, ⟨Or.inr rfl, ⟨Or.inr rfl, ⟨Or.inr rfl, ⟨Or.inr rfl, ⟨Or.inr rfl, trivial⟩⟩⟩⟩⟩⟩⟩ H
set_option maxRecDepth 4000 in
theorem v_X11_settlesSign_183 {G : KG} {S0 : KSh} (hL : kLay S0) {d : Nat} {P : Option AV → KMem → Prop} {c : KMem} {x2 x5 : Int} (r2 : -2147483648 ≤ x2 ∧ x2 < 2147483648) (r5 : -2147483648 ≤ x5 ∧ x5 < 2147483648) (H : (x5 ≠ 0 → (P (some (kI 1)) c)) ∧ (x5 = 0 → (kC2 G S0 kM_X11_wrongAt (d + 2) [kA 558, kI 8, kI x2] c (kRI (fun z22 c23 => (k32 z22) ∧ ((z22 = 0 → (P (some (kI 0)) c23)) ∧ (z22 ≠ 0 → (P (some (kI 1)) c23)))))))) : kW2 G S0 kM_X11_settlesSign (d + 3) 183 [some (kA 558), none, some (kI x2), none, none, some (kI x5), none] [] c P := by
  refine kw_iload dX11_settlesSign_183 rfl ?_
  refine kw_if_ne 198 dX11_settlesSign_185 (by decide) (k32i (by omega)) (fun h21 => ?_) (fun h21 => ?_)
  · have H := H.1 h21
    refine kw_iconst dX11_settlesSign_198 ?_
    refine kw_goto 203 dX11_settlesSign_199 (by decide) ?_
    refine k2_zret dX11_settlesSign_203 rfl (Or.inr rfl) H
  · have H := H.2 h21
    refine kw_aload_n dX11_settlesSign_188 rfl ?_
    refine kw_bipush dX11_settlesSign_189 (by decide) ?_
    refine kw_iload_n dX11_settlesSign_191 rfl ?_
    refine k2_callV2I (ci := 9) (N := 38) (T := TX11) rfl (lsh_558 hL) m_X11_wrongAt dX11_settlesSign_192 wl_X11_200 (Nat.le_of_ble_eq_true rfl) (kC2_mono H (fun r c23 H => ?_))
    obtain ⟨z22, rfl, H⟩ := H
    refine ⟨z22, rfl, ?_⟩
    have o25 := H.1
    have H := H.2
    refine kw_if_eq 202 dX11_settlesSign_195 (by decide) o25 (fun h24 => ?_) (fun h24 => ?_)
    · have H := H.1 h24
      refine kw_iconst dX11_settlesSign_202 ?_
      refine k2_zret dX11_settlesSign_203 rfl (Or.inl rfl) H
    · have H := H.2 h24
      refine kw_iconst dX11_settlesSign_198 ?_
      refine kw_goto 203 dX11_settlesSign_199 (by decide) ?_
      refine k2_zret dX11_settlesSign_203 rfl (Or.inr rfl) H
set_option maxRecDepth 4000 in
theorem v_X11_endsF {G : KG} {S0 : KSh} (hL : kLay S0) {d : Nat} {P : Option AV → KMem → Prop} {c : KMem}  (H : kW2 G S0 kM_X11_endsF (d + 4) 0 [some (kA 558)] [] c P) : kC2 G S0 kM_X11_endsF (d + 4) [kA 558] c P := by
  refine k2_met (by decide) rfl (Nat.le_of_ble_eq_true rfl) (l0 := [some (kA 558)]) rfl ?_
  exact kw_forget (ls' := [some (kA 558)]) ⟨Or.inr rfl, trivial⟩ H
set_option maxRecDepth 4000 in
theorem v_X11_endsF_0 {G : KG} {S0 : KSh} (hL : kLay S0) {d : Nat} {P : Option AV → KMem → Prop} {c : KMem}  (H : kC2 G S0 kM_X11_uppermost (d + 3) [kA 558] c (kRI (fun z1 c2 => (k32 z1) ∧ ((z1 < 8 → (kC2 G S0 kM_X11_uppermost (d + 3) [kA 558] c2 (kRI (fun z5 c6 => (k32 z5) ∧ (((0 ≤ z5 ∧ z5 ≤ 4) → (kC2 G S0 kM_X11_settlesSign (d + 3) [kA 558] c6 (kRI (fun z10 c11 => (k32 z10) ∧ ((z10 = 0 → (P (some (kI 0)) c11)) ∧ (z10 ≠ 0 → (P (some (kI 1)) c11))))))) ∧ (¬ (0 ≤ z5 ∧ z5 ≤ 4) → (P (some (kI 1)) c6))))))) ∧ (8 ≤ z1 → (kC2 G S0 kM_X11_uppermost (d + 3) [kA 558] c2 (kRI (fun z15 c16 => (0 ≤ ((c16 558 27) - 1) ∧ ((c16 558 27) - 1) < 80) ∧ (kC2 G S0 kM_X11_turns (d + 3) [kA 558, kI z15, kI ((44 + (c16 558 29)) - 1), kI (c16 574 ((c16 558 27) - 1))] c16 (kRN (fun c19 => kW2 G S0 kM_X11_endsF (d + 4) 0 [some (kA 558)] [] (kup (kup c19 558 27 ((c19 558 27) - 1)) 558 28 ((c19 558 28) - 1)) P))))))))))) : kW2 G S0 kM_X11_endsF (d + 4) 0 [some (kA 558)] [] c P := by
  refine kw_aload_n dX11_endsF_0 rfl ?_
  refine k2_callV0I (ci := 9) (N := 38) (T := TX11) rfl (lsh_558 hL) m_X11_uppermost dX11_endsF_1 wl_X11_243 (Nat.le_of_ble_eq_true rfl) (kC2_mono H (fun r c2 H => ?_))
  obtain ⟨z1, rfl, H⟩ := H
  refine ⟨z1, rfl, ?_⟩
  refine kw_bipush dX11_endsF_4 (by decide) ?_
  have o4 := H.1
  have H := H.2
  refine kw_icmp_lt 60 dX11_endsF_6 (by decide) o4 (k32i (by omega)) (fun h3 => ?_) (fun h3 => ?_)
  · have H := H.1 h3
    refine kw_aload_n dX11_endsF_60 rfl ?_
    refine k2_callV0I (ci := 9) (N := 38) (T := TX11) rfl (lsh_558 hL) m_X11_uppermost dX11_endsF_61 wl_X11_243 (Nat.le_of_ble_eq_true rfl) (kC2_mono H (fun r c6 H => ?_))
    obtain ⟨z5, rfl, H⟩ := H
    refine ⟨z5, rfl, ?_⟩
    refine kw_iconst dX11_endsF_64 ?_
    refine kw_iconst dX11_endsF_65 ?_
    have o7 := H.1
    have H := H.2
    refine k2_callS3I m_X11_in dX11_endsF_66 wl_X11_100 (Nat.le_of_ble_eq_true rfl) (s_X11_in hL o7 (k32i (by omega)) (k32i (by omega)) (fun h8 => ⟨_, rfl, ?_⟩) (fun h8 => ⟨_, rfl, ?_⟩))
    · have H := H.1 h8
      refine kw_if_eq 79 dX11_endsF_69 (by decide) (k32i (by omega)) (fun h9 => absurd h9 (by decide)) (fun _ => ?_)
      refine kw_aload_n dX11_endsF_72 rfl ?_
      refine k2_callV0I (ci := 9) (N := 38) (T := TX11) rfl (lsh_558 hL) m_X11_settlesSign dX11_endsF_73 wl_X11_255 (Nat.le_of_ble_eq_true rfl) (kC2_mono H (fun r c11 H => ?_))
      obtain ⟨z10, rfl, H⟩ := H
      refine ⟨z10, rfl, ?_⟩
      have o13 := H.1
      have H := H.2
      refine kw_if_eq 83 dX11_endsF_76 (by decide) o13 (fun h12 => ?_) (fun h12 => ?_)
      · have H := H.1 h12
        refine kw_iconst dX11_endsF_83 ?_
        refine k2_zret dX11_endsF_84 rfl (Or.inl rfl) H
      · have H := H.2 h12
        refine kw_iconst dX11_endsF_79 ?_
        refine kw_goto 84 dX11_endsF_80 (by decide) ?_
        refine k2_zret dX11_endsF_84 rfl (Or.inr rfl) H
    · have H := H.2 h8
      refine kw_if_eq 79 dX11_endsF_69 (by decide) (k32i (by omega)) (fun _ => ?_) (fun h14 => absurd h14 (by decide))
      refine kw_iconst dX11_endsF_79 ?_
      refine kw_goto 84 dX11_endsF_80 (by decide) ?_
      refine k2_zret dX11_endsF_84 rfl (Or.inr rfl) H
  · have H := H.2 h3
    refine kw_aload_n dX11_endsF_9 rfl ?_
    refine kw_aload_n dX11_endsF_10 rfl ?_
    refine k2_callV0I (ci := 9) (N := 38) (T := TX11) rfl (lsh_558 hL) m_X11_uppermost dX11_endsF_11 wl_X11_243 (Nat.le_of_ble_eq_true rfl) (kC2_mono H (fun r c16 H => ?_))
    obtain ⟨z15, rfl, H⟩ := H
    refine ⟨z15, rfl, ?_⟩
    refine kw_bipush dX11_endsF_14 (by decide) ?_
    refine kw_aload_n dX11_endsF_16 rfl ?_
    refine k2_getI fd_X11_29 dX11_endsF_17 wf_X11_229 (lsh_558 hL) ?_
    refine kw_iadd dX11_endsF_20 ?_
    refine kw_iconst dX11_endsF_21 ?_
    refine kw_isub dX11_endsF_22 ?_
    refine kw_aload_n dX11_endsF_23 rfl ?_
    refine k2_getR fd_X11_20 dX11_endsF_24 wf_X11_58 (lsh_558 hL) (lrf_558_20 hL) ?_
    refine kw_aload_n dX11_endsF_27 rfl ?_
    refine k2_getI fd_X11_27 dX11_endsF_28 wf_X11_212 (lsh_558 hL) ?_
    refine kw_iconst dX11_endsF_31 ?_
    refine kw_isub dX11_endsF_32 ?_
    have o17 := H.1
    have H := H.2
    refine k2_iald dX11_endsF_33 (lsh_574 hL) (by omega) o17 ?_
    refine k2_callV3N (ci := 9) (N := 38) (T := TX11) rfl (lsh_558 hL) m_X11_turns dX11_endsF_34 wl_X11_252 (Nat.le_of_ble_eq_true rfl) (kC2_mono H (fun r c19 H => ?_))
    obtain ⟨rfl, H⟩ := H
    refine ⟨rfl, ?_⟩
    refine kw_aload_n dX11_endsF_37 rfl ?_
    refine kw_aload_n dX11_endsF_38 rfl ?_
    refine k2_getI fd_X11_27 dX11_endsF_39 wf_X11_212 (lsh_558 hL) ?_
    refine kw_iconst dX11_endsF_42 ?_
    refine kw_isub dX11_endsF_43 ?_
    refine k2_putI fp_X11_27 dX11_endsF_44 wf_X11_212 (lsh_558 hL) ?_
    refine kw_aload_n dX11_endsF_47 rfl ?_
    refine kw_aload_n dX11_endsF_48 rfl ?_
    refine k2_getI fd_X11_28 dX11_endsF_49 wf_X11_215 (lsh_558 hL) ?_
    refine kw_eI (kup_n (Or.inr (by omega))) ?_
    refine kw_iconst dX11_endsF_52 ?_
    refine kw_isub dX11_endsF_53 ?_
    refine k2_putI fp_X11_28 dX11_endsF_54 wf_X11_215 (lsh_558 hL) ?_
    refine kw_goto 0 dX11_endsF_57 (by decide) ?_
    exact kw_forget (ls' := [some (kA 558)]) ⟨Or.inr rfl, trivial⟩ H
set_option maxRecDepth 4000 in
theorem v_X11_endsT {G : KG} {S0 : KSh} (hL : kLay S0) {d : Nat} {P : Option AV → KMem → Prop} {c : KMem}  (H : kC2 G S0 kM_X11_uppermost (d + 3) [kA 558] c (kRI (fun z1 c2 => (k32 z1) ∧ ((z1 = 5 → (kC2 G S0 kM_X11_settlesSign (d + 3) [kA 558] c2 (kRI (fun z5 c6 => (k32 z5) ∧ ((z5 = 0 → (P (some (kI 0)) c6)) ∧ (z5 ≠ 0 → (P (some (kI 1)) c6))))))) ∧ (z1 ≠ 5 → (kC2 G S0 kM_X11_uppermost (d + 3) [kA 558] c2 (kRI (fun z9 c10 => (k32 z9) ∧ ((z9 ≠ 6 → (P (some (kI 1)) c10)) ∧ (z9 = 6 → (kC2 G S0 kM_X11_settlesSign (d + 3) [kA 558] c10 (kRI (fun z13 c14 => (k32 z13) ∧ ((z13 = 0 → (P (some (kI 0)) c14)) ∧ (z13 ≠ 0 → (P (some (kI 1)) c14)))))))))))))))) : kC2 G S0 kM_X11_endsT (d + 4) [kA 558] c P := by
  refine k2_met (by decide) rfl (Nat.le_of_ble_eq_true rfl) (l0 := [some (kA 558)]) rfl ?_
  refine kw_aload_n dX11_endsT_0 rfl ?_
  refine k2_callV0I (ci := 9) (N := 38) (T := TX11) rfl (lsh_558 hL) m_X11_uppermost dX11_endsT_1 wl_X11_243 (Nat.le_of_ble_eq_true rfl) (kC2_mono H (fun r c2 H => ?_))
  obtain ⟨z1, rfl, H⟩ := H
  refine ⟨z1, rfl, ?_⟩
  refine kw_iconst dX11_endsT_4 ?_
  have o4 := H.1
  have H := H.2
  refine kw_icmp_eq 17 dX11_endsT_5 (by decide) o4 (k32i (by omega)) (fun h3 => ?_) (fun h3 => ?_)
  · have H := H.1 h3
    refine kw_aload_n dX11_endsT_17 rfl ?_
    refine k2_callV0I (ci := 9) (N := 38) (T := TX11) rfl (lsh_558 hL) m_X11_settlesSign dX11_endsT_18 wl_X11_255 (Nat.le_of_ble_eq_true rfl) (kC2_mono H (fun r c6 H => ?_))
    obtain ⟨z5, rfl, H⟩ := H
    refine ⟨z5, rfl, ?_⟩
    have o8 := H.1
    have H := H.2
    refine kw_if_eq 28 dX11_endsT_21 (by decide) o8 (fun h7 => ?_) (fun h7 => ?_)
    · have H := H.1 h7
      refine kw_iconst dX11_endsT_28 ?_
      refine k2_zret dX11_endsT_29 rfl (Or.inl rfl) H
    · have H := H.2 h7
      refine kw_iconst dX11_endsT_24 ?_
      refine kw_goto 29 dX11_endsT_25 (by decide) ?_
      refine k2_zret dX11_endsT_29 rfl (Or.inr rfl) H
  · have H := H.2 h3
    refine kw_aload_n dX11_endsT_8 rfl ?_
    refine k2_callV0I (ci := 9) (N := 38) (T := TX11) rfl (lsh_558 hL) m_X11_uppermost dX11_endsT_9 wl_X11_243 (Nat.le_of_ble_eq_true rfl) (kC2_mono H (fun r c10 H => ?_))
    obtain ⟨z9, rfl, H⟩ := H
    refine ⟨z9, rfl, ?_⟩
    refine kw_bipush dX11_endsT_12 (by decide) ?_
    have o12 := H.1
    have H := H.2
    refine kw_icmp_ne 24 dX11_endsT_14 (by decide) o12 (k32i (by omega)) (fun h11 => ?_) (fun h11 => ?_)
    · have H := H.1 h11
      refine kw_iconst dX11_endsT_24 ?_
      refine kw_goto 29 dX11_endsT_25 (by decide) ?_
      refine k2_zret dX11_endsT_29 rfl (Or.inr rfl) H
    · have H := H.2 h11
      refine kw_aload_n dX11_endsT_17 rfl ?_
      refine k2_callV0I (ci := 9) (N := 38) (T := TX11) rfl (lsh_558 hL) m_X11_settlesSign dX11_endsT_18 wl_X11_255 (Nat.le_of_ble_eq_true rfl) (kC2_mono H (fun r c14 H => ?_))
      obtain ⟨z13, rfl, H⟩ := H
      refine ⟨z13, rfl, ?_⟩
      have o16 := H.1
      have H := H.2
      refine kw_if_eq 28 dX11_endsT_21 (by decide) o16 (fun h15 => ?_) (fun h15 => ?_)
      · have H := H.1 h15
        refine kw_iconst dX11_endsT_28 ?_
        refine k2_zret dX11_endsT_29 rfl (Or.inl rfl) H
      · have H := H.2 h15
        refine kw_iconst dX11_endsT_24 ?_
        refine kw_goto 29 dX11_endsT_25 (by decide) ?_
        refine k2_zret dX11_endsT_29 rfl (Or.inr rfl) H
set_option maxRecDepth 4000 in
theorem v_X11_readsF {G : KG} {S0 : KSh} (hL : kLay S0) {d : Nat} {P : Option AV → KMem → Prop} {c : KMem}  (H : kW2 G S0 kM_X11_readsF (d + 6) 0 [some (kA 558)] [] c P) : kC2 G S0 kM_X11_readsF (d + 6) [kA 558] c P := by
  refine k2_met (by decide) rfl (Nat.le_of_ble_eq_true rfl) (l0 := [some (kA 558)]) rfl ?_
  exact kw_forget (ls' := [some (kA 558)]) ⟨Or.inr rfl, trivial⟩ H
set_option maxRecDepth 4000 in
theorem v_X11_readsF_0 {G : KG} {S0 : KSh} (hL : kLay S0) {d : Nat} {P : Option AV → KMem → Prop} {c : KMem}  (H : kC2 G S0 kM_X11_here (d + 5) [kA 558] c (kRI (fun z1 c2 => kC2 G S0 kM_X11_opener (d + 5) [kI z1] c2 (kRI (fun z3 c4 => (k32 z3) ∧ ((z3 = (-1) → (kC2 G S0 kM_X11_readsAtom (d + 5) [kA 558] c4 (kRI (fun z7 c8 => (k32 z7) ∧ ((z7 = 0 → (P (some (kI 0)) c8)) ∧ (z7 ≠ 0 → (kC2 G S0 kM_X11_endsF (d + 5) [kA 558] c8 (kRI (fun z11 c12 => (k32 z11) ∧ ((z11 = 0 → (P (some (kI 0)) c12)) ∧ (z11 ≠ 0 → (P (some (kI 1)) c12)))))))))))) ∧ (z3 ≠ (-1) → (kC2 G S0 kM_X11_here (d + 5) [kA 558] c4 (kRI (fun z15 c16 => kC2 G S0 kM_X11_opener (d + 5) [kI z15] c16 (kRI (fun z17 c18 => kC2 G S0 kM_X11_opens (d + 5) [kA 558, kI z17] c18 (kRI (fun z19 c20 => (k32 z19) ∧ ((z19 ≠ 0 → (kW2 G S0 kM_X11_readsF (d + 6) 0 [some (kA 558)] [] c20 P)) ∧ (z19 = 0 → (P (some (kI 0)) c20))))))))))))))))) : kW2 G S0 kM_X11_readsF (d + 6) 0 [some (kA 558)] [] c P := by
  refine kw_aload_n dX11_readsF_0 rfl ?_
  refine k2_callV0I (ci := 9) (N := 38) (T := TX11) rfl (lsh_558 hL) m_X11_here dX11_readsF_1 wl_X11_196 (Nat.le_of_ble_eq_true rfl) (kC2_mono H (fun r c2 H => ?_))
  obtain ⟨z1, rfl, H⟩ := H
  refine ⟨z1, rfl, ?_⟩
  refine k2_callS1I m_X11_opener dX11_readsF_4 wl_X11_258 (Nat.le_of_ble_eq_true rfl) (kC2_mono H (fun r c4 H => ?_))
  obtain ⟨z3, rfl, H⟩ := H
  refine ⟨z3, rfl, ?_⟩
  refine kw_iconst dX11_readsF_7 ?_
  have o6 := H.1
  have H := H.2
  refine kw_icmp_eq 27 dX11_readsF_8 (by decide) o6 (k32i (by omega)) (fun h5 => ?_) (fun h5 => ?_)
  · have H := H.1 h5
    refine kw_aload_n dX11_readsF_27 rfl ?_
    refine k2_callV0I (ci := 9) (N := 38) (T := TX11) rfl (lsh_558 hL) m_X11_readsAtom dX11_readsF_28 wl_X11_264 (Nat.le_of_ble_eq_true rfl) (kC2_mono H (fun r c8 H => ?_))
    obtain ⟨z7, rfl, H⟩ := H
    refine ⟨z7, rfl, ?_⟩
    have o10 := H.1
    have H := H.2
    refine kw_if_eq 45 dX11_readsF_31 (by decide) o10 (fun h9 => ?_) (fun h9 => ?_)
    · have H := H.1 h9
      refine kw_iconst dX11_readsF_45 ?_
      refine k2_zret dX11_readsF_46 rfl (Or.inl rfl) H
    · have H := H.2 h9
      refine kw_aload_n dX11_readsF_34 rfl ?_
      refine k2_callV0I (ci := 9) (N := 38) (T := TX11) rfl (lsh_558 hL) m_X11_endsF dX11_readsF_35 wl_X11_267 (Nat.le_of_ble_eq_true rfl) (kC2_mono H (fun r c12 H => ?_))
      obtain ⟨z11, rfl, H⟩ := H
      refine ⟨z11, rfl, ?_⟩
      have o14 := H.1
      have H := H.2
      refine kw_if_eq 45 dX11_readsF_38 (by decide) o14 (fun h13 => ?_) (fun h13 => ?_)
      · have H := H.1 h13
        refine kw_iconst dX11_readsF_45 ?_
        refine k2_zret dX11_readsF_46 rfl (Or.inl rfl) H
      · have H := H.2 h13
        refine kw_iconst dX11_readsF_41 ?_
        refine kw_goto 46 dX11_readsF_42 (by decide) ?_
        refine k2_zret dX11_readsF_46 rfl (Or.inr rfl) H
  · have H := H.2 h5
    refine kw_aload_n dX11_readsF_11 rfl ?_
    refine kw_aload_n dX11_readsF_12 rfl ?_
    refine k2_callV0I (ci := 9) (N := 38) (T := TX11) rfl (lsh_558 hL) m_X11_here dX11_readsF_13 wl_X11_196 (Nat.le_of_ble_eq_true rfl) (kC2_mono H (fun r c16 H => ?_))
    obtain ⟨z15, rfl, H⟩ := H
    refine ⟨z15, rfl, ?_⟩
    refine k2_callS1I m_X11_opener dX11_readsF_16 wl_X11_258 (Nat.le_of_ble_eq_true rfl) (kC2_mono H (fun r c18 H => ?_))
    obtain ⟨z17, rfl, H⟩ := H
    refine ⟨z17, rfl, ?_⟩
    refine k2_callV1I (ci := 9) (N := 38) (T := TX11) rfl (lsh_558 hL) m_X11_opens dX11_readsF_19 wl_X11_261 (Nat.le_of_ble_eq_true rfl) (kC2_mono H (fun r c20 H => ?_))
    obtain ⟨z19, rfl, H⟩ := H
    refine ⟨z19, rfl, ?_⟩
    have o22 := H.1
    have H := H.2
    refine kw_if_ne 0 dX11_readsF_22 (by decide) o22 (fun h21 => ?_) (fun h21 => ?_)
    · have H := H.1 h21
      exact kw_forget (ls' := [some (kA 558)]) ⟨Or.inr rfl, trivial⟩ H
    · have H := H.2 h21
      refine kw_iconst dX11_readsF_25 ?_
      refine k2_zret dX11_readsF_26 rfl (Or.inl rfl) H
set_option maxRecDepth 4000 in
theorem v_X11_signFor {G : KG} {S0 : KSh} (hL : kLay S0) {d : Nat} {P : Option AV → KMem → Prop} {c : KMem} {x0 : Int} (r0 : -2147483648 ≤ x0 ∧ x0 < 2147483648) (H : (x0 ≠ 42 → ((x0 ≠ 94 → ((x0 ≠ 46 → ((x0 ≠ 38 → ((x0 ≠ 62 → (P (some (kI (-1))) c)) ∧ (x0 = 62 → (P (some (kI 4)) c)))) ∧ (x0 = 38 → (P (some (kI 3)) c)))) ∧ (x0 = 46 → (P (some (kI 2)) c)))) ∧ (x0 = 94 → (P (some (kI 1)) c)))) ∧ (x0 = 42 → (P (some (kI 0)) c))) : kC2 G S0 kM_X11_signFor d [kI x0] c P := by
  refine k2_met (by decide) rfl (Nat.le_of_ble_eq_true rfl) (l0 := [some (kI x0)]) rfl ?_
  refine kw_iload_n dX11_signFor_0 rfl ?_
  refine kw_bipush dX11_signFor_1 (by decide) ?_
  refine kw_icmp_ne 10 dX11_signFor_3 (by decide) (k32i (by omega)) (k32i (by omega)) (fun h1 => ?_) (fun h1 => ?_)
  · have H := H.1 h1
    refine kw_iload_n dX11_signFor_10 rfl ?_
    refine kw_bipush dX11_signFor_11 (by decide) ?_
    refine kw_icmp_ne 20 dX11_signFor_13 (by decide) (k32i (by omega)) (k32i (by omega)) (fun h2 => ?_) (fun h2 => ?_)
    · have H := H.1 h2
      refine kw_iload_n dX11_signFor_20 rfl ?_
      refine kw_bipush dX11_signFor_21 (by decide) ?_
      refine kw_icmp_ne 30 dX11_signFor_23 (by decide) (k32i (by omega)) (k32i (by omega)) (fun h3 => ?_) (fun h3 => ?_)
      · have H := H.1 h3
        refine kw_iload_n dX11_signFor_30 rfl ?_
        refine kw_bipush dX11_signFor_31 (by decide) ?_
        refine kw_icmp_ne 40 dX11_signFor_33 (by decide) (k32i (by omega)) (k32i (by omega)) (fun h4 => ?_) (fun h4 => ?_)
        · have H := H.1 h4
          refine kw_iload_n dX11_signFor_40 rfl ?_
          refine kw_bipush dX11_signFor_41 (by decide) ?_
          refine kw_icmp_ne 50 dX11_signFor_43 (by decide) (k32i (by omega)) (k32i (by omega)) (fun h5 => ?_) (fun h5 => ?_)
          · have H := H.1 h5
            refine kw_iconst dX11_signFor_50 ?_
            refine k2_iret dX11_signFor_51 rfl H
          · have H := H.2 h5
            refine kw_iconst dX11_signFor_46 ?_
            refine kw_goto 51 dX11_signFor_47 (by decide) ?_
            refine k2_iret dX11_signFor_51 rfl H
        · have H := H.2 h4
          refine kw_iconst dX11_signFor_36 ?_
          refine kw_goto 51 dX11_signFor_37 (by decide) ?_
          refine k2_iret dX11_signFor_51 rfl H
      · have H := H.2 h3
        refine kw_iconst dX11_signFor_26 ?_
        refine kw_goto 51 dX11_signFor_27 (by decide) ?_
        refine k2_iret dX11_signFor_51 rfl H
    · have H := H.2 h2
      refine kw_iconst dX11_signFor_16 ?_
      refine kw_goto 51 dX11_signFor_17 (by decide) ?_
      refine k2_iret dX11_signFor_51 rfl H
  · have H := H.2 h1
    refine kw_iconst dX11_signFor_6 ?_
    refine kw_goto 51 dX11_signFor_7 (by decide) ?_
    refine k2_iret dX11_signFor_51 rfl H
set_option maxRecDepth 4000 in
theorem v_X11_closes {G : KG} {S0 : KSh} (hL : kLay S0) {d : Nat} {P : Option AV → KMem → Prop} {c : KMem}  (H : kC2 G S0 kM_X11_uppermost (d + 5) [kA 558] c (kRI (fun z1 c2 => (k32 z1) ∧ ((z1 = 7 → (kC2 G S0 kM_X11_endsF (d + 5) [kA 558] (kup (kup (kup c2 558 27 ((c2 558 27) - 1)) 558 28 ((c2 558 28) - 1)) 558 23 ((c2 558 23) + 1)) (kRI (fun z5 c6 => (z5 = 0 ∨ z5 = 1) ∧ (P (some (kI z5)) c6))))) ∧ (z1 ≠ 7 → (kC2 G S0 kM_X11_wrongAt (d + 5) [kA 558, kI 1, kI (c2 558 23)] c2 (kRI (fun z8 c9 => (z8 = 0 ∨ z8 = 1) ∧ (P (some (kI z8)) c9))))))))) : kC2 G S0 kM_X11_closes (d + 6) [kA 558] c P := by
  refine k2_met (by decide) rfl (Nat.le_of_ble_eq_true rfl) (l0 := [some (kA 558)]) rfl ?_
  refine kw_aload_n dX11_closes_0 rfl ?_
  refine k2_callV0I (ci := 9) (N := 38) (T := TX11) rfl (lsh_558 hL) m_X11_uppermost dX11_closes_1 wl_X11_243 (Nat.le_of_ble_eq_true rfl) (kC2_mono H (fun r c2 H => ?_))
  obtain ⟨z1, rfl, H⟩ := H
  refine ⟨z1, rfl, ?_⟩
  refine kw_bipush dX11_closes_4 (by decide) ?_
  have o4 := H.1
  have H := H.2
  refine kw_icmp_eq 19 dX11_closes_6 (by decide) o4 (k32i (by omega)) (fun h3 => ?_) (fun h3 => ?_)
  · have H := H.1 h3
    refine kw_aload_n dX11_closes_19 rfl ?_
    refine kw_aload_n dX11_closes_20 rfl ?_
    refine k2_getI fd_X11_27 dX11_closes_21 wf_X11_212 (lsh_558 hL) ?_
    refine kw_iconst dX11_closes_24 ?_
    refine kw_isub dX11_closes_25 ?_
    refine k2_putI fp_X11_27 dX11_closes_26 wf_X11_212 (lsh_558 hL) ?_
    refine kw_aload_n dX11_closes_29 rfl ?_
    refine kw_aload_n dX11_closes_30 rfl ?_
    refine k2_getI fd_X11_28 dX11_closes_31 wf_X11_215 (lsh_558 hL) ?_
    refine kw_eI (kup_n (Or.inr (by omega))) ?_
    refine kw_iconst dX11_closes_34 ?_
    refine kw_isub dX11_closes_35 ?_
    refine k2_putI fp_X11_28 dX11_closes_36 wf_X11_215 (lsh_558 hL) ?_
    refine kw_aload_n dX11_closes_39 rfl ?_
    refine kw_aload_n dX11_closes_40 rfl ?_
    refine k2_getI fd_X11_23 dX11_closes_41 wf_X11_183 (lsh_558 hL) ?_
    refine kw_eI ((kup_n (Or.inr (by omega))).trans (kup_n (Or.inr (by omega)))) ?_
    refine kw_iconst dX11_closes_44 ?_
    refine kw_iadd dX11_closes_45 ?_
    refine k2_putI fp_X11_23 dX11_closes_46 wf_X11_183 (lsh_558 hL) ?_
    refine kw_aload_n dX11_closes_49 rfl ?_
    refine k2_callV0I (ci := 9) (N := 38) (T := TX11) rfl (lsh_558 hL) m_X11_endsF dX11_closes_50 wl_X11_267 (Nat.le_of_ble_eq_true rfl) (kC2_mono H (fun r c6 H => ?_))
    obtain ⟨z5, rfl, H⟩ := H
    refine ⟨z5, rfl, ?_⟩
    have o7 := H.1
    have H := H.2
    refine k2_zret dX11_closes_53 rfl o7 H
  · have H := H.2 h3
    refine kw_aload_n dX11_closes_9 rfl ?_
    refine kw_iconst dX11_closes_10 ?_
    refine kw_aload_n dX11_closes_11 rfl ?_
    refine k2_getI fd_X11_23 dX11_closes_12 wf_X11_183 (lsh_558 hL) ?_
    refine k2_callV2I (ci := 9) (N := 38) (T := TX11) rfl (lsh_558 hL) m_X11_wrongAt dX11_closes_15 wl_X11_200 (Nat.le_of_ble_eq_true rfl) (kC2_mono H (fun r c9 H => ?_))
    obtain ⟨z8, rfl, H⟩ := H
    refine ⟨z8, rfl, ?_⟩
    have o10 := H.1
    have H := H.2
    refine k2_zret dX11_closes_18 rfl o10 H
set_option maxRecDepth 4000 in
theorem v_X11_readsE {G : KG} {S0 : KSh} (hL : kLay S0) {d : Nat} {P : Option AV → KMem → Prop} {c : KMem}  (H : kC2 G S0 kM_X11_readsF (d + 6) [kA 558] (kup (kup (kup c 558 27 0) 558 28 0) 558 29 0) (kRI (fun z1 c2 => (k32 z1) ∧ ((z1 ≠ 0 → (kW2 G S0 kM_X11_readsE (d + 7) 24 [some (kA 558), none] [] c2 P)) ∧ (z1 = 0 → (P (some (kI 0)) c2)))))) : kC2 G S0 kM_X11_readsE (d + 7) [kA 558] c P := by
  refine k2_met (by decide) rfl (Nat.le_of_ble_eq_true rfl) (l0 := [some (kA 558), none]) rfl ?_
  refine kw_aload_n dX11_readsE_0 rfl ?_
  refine kw_iconst dX11_readsE_1 ?_
  refine k2_putI fp_X11_27 dX11_readsE_2 wf_X11_212 (lsh_558 hL) ?_
  refine kw_aload_n dX11_readsE_5 rfl ?_
  refine kw_iconst dX11_readsE_6 ?_
  refine k2_putI fp_X11_28 dX11_readsE_7 wf_X11_215 (lsh_558 hL) ?_
  refine kw_aload_n dX11_readsE_10 rfl ?_
  refine kw_iconst dX11_readsE_11 ?_
  refine k2_putI fp_X11_29 dX11_readsE_12 wf_X11_229 (lsh_558 hL) ?_
  refine kw_aload_n dX11_readsE_15 rfl ?_
  refine k2_callV0I (ci := 9) (N := 38) (T := TX11) rfl (lsh_558 hL) m_X11_readsF dX11_readsE_16 wl_X11_270 (Nat.le_of_ble_eq_true rfl) (kC2_mono H (fun r c2 H => ?_))
  obtain ⟨z1, rfl, H⟩ := H
  refine ⟨z1, rfl, ?_⟩
  have o4 := H.1
  have H := H.2
  refine kw_if_ne 24 dX11_readsE_19 (by decide) o4 (fun h3 => ?_) (fun h3 => ?_)
  · have H := H.1 h3
    exact kw_forget (ls' := [some (kA 558), none]) ⟨Or.inr rfl, ⟨Or.inr rfl, trivial⟩⟩ H
  · have H := H.2 h3
    refine kw_iconst dX11_readsE_22 ?_
    refine k2_zret dX11_readsE_23 rfl (Or.inl rfl) H
set_option maxRecDepth 4000 in
theorem v_X11_readsE_24 {G : KG} {S0 : KSh} (hL : kLay S0) {d : Nat} {P : Option AV → KMem → Prop} {c : KMem}  (H : kC2 G S0 kM_X11_here (d + 6) [kA 558] c (kRI (fun z5 c6 => kC2 G S0 kM_X11_signFor (d + 6) [kI z5] c6 (kRI (fun z7 c8 => (k32 z7) ∧ ((z7 = (-1) → (kC2 G S0 kM_X11_endsT (d + 6) [kA 558] c8 (kRI (fun z11 c12 => (k32 z11) ∧ ((z11 ≠ 0 → (kW2 G S0 kM_X11_readsE (d + 7) 78 [some (kA 558), some (kI z5)] [] c12 P)) ∧ (z11 = 0 → (P (some (kI 0)) c12))))))) ∧ (z7 ≠ (-1) → (kC2 G S0 kM_X11_signFor (d + 6) [kI z5] c8 (kRI (fun z15 c16 => kC2 G S0 kM_X11_waitsFor (d + 6) [kA 558, kI z15, kI (c16 558 23), kI 0] c16 (kRN (fun c18 => kC2 G S0 kM_X11_readsF (d + 6) [kA 558] (kup c18 558 23 ((c18 558 23) + 1)) (kRI (fun z19 c20 => (k32 z19) ∧ ((z19 ≠ 0 → (kW2 G S0 kM_X11_readsE (d + 7) 24 [some (kA 558), none] [] c20 P)) ∧ (z19 = 0 → (P (some (kI 0)) c20))))))))))))))))) : kW2 G S0 kM_X11_readsE (d + 7) 24 [some (kA 558), none] [] c P := by
  refine kw_aload_n dX11_readsE_24 rfl ?_
  refine k2_callV0I (ci := 9) (N := 38) (T := TX11) rfl (lsh_558 hL) m_X11_here dX11_readsE_25 wl_X11_196 (Nat.le_of_ble_eq_true rfl) (kC2_mono H (fun r c6 H => ?_))
  obtain ⟨z5, rfl, H⟩ := H
  refine ⟨z5, rfl, ?_⟩
  refine kw_istore_n dX11_readsE_28 (Nat.le_of_ble_eq_true rfl) ?_
  refine kw_iload_n dX11_readsE_29 rfl ?_
  refine k2_callS1I m_X11_signFor dX11_readsE_30 wl_X11_273 (Nat.le_of_ble_eq_true rfl) (kC2_mono H (fun r c8 H => ?_))
  obtain ⟨z7, rfl, H⟩ := H
  refine ⟨z7, rfl, ?_⟩
  refine kw_iconst dX11_readsE_33 ?_
  have o10 := H.1
  have H := H.2
  refine kw_icmp_eq 69 dX11_readsE_34 (by decide) o10 (k32i (by omega)) (fun h9 => ?_) (fun h9 => ?_)
  · have H := H.1 h9
    refine kw_aload_n dX11_readsE_69 rfl ?_
    refine k2_callV0I (ci := 9) (N := 38) (T := TX11) rfl (lsh_558 hL) m_X11_endsT dX11_readsE_70 wl_X11_276 (Nat.le_of_ble_eq_true rfl) (kC2_mono H (fun r c12 H => ?_))
    obtain ⟨z11, rfl, H⟩ := H
    refine ⟨z11, rfl, ?_⟩
    have o14 := H.1
    have H := H.2
    refine kw_if_ne 78 dX11_readsE_73 (by decide) o14 (fun h13 => ?_) (fun h13 => ?_)
    · have H := H.1 h13
      exact kw_forget (ls' := [some (kA 558), some (kI z5)]) ⟨Or.inr rfl, ⟨Or.inr rfl, trivial⟩⟩ H
    · have H := H.2 h13
      refine kw_iconst dX11_readsE_76 ?_
      refine k2_zret dX11_readsE_77 rfl (Or.inl rfl) H
  · have H := H.2 h9
    refine kw_aload_n dX11_readsE_37 rfl ?_
    refine kw_iload_n dX11_readsE_38 rfl ?_
    refine k2_callS1I m_X11_signFor dX11_readsE_39 wl_X11_273 (Nat.le_of_ble_eq_true rfl) (kC2_mono H (fun r c16 H => ?_))
    obtain ⟨z15, rfl, H⟩ := H
    refine ⟨z15, rfl, ?_⟩
    refine kw_aload_n dX11_readsE_42 rfl ?_
    refine k2_getI fd_X11_23 dX11_readsE_43 wf_X11_183 (lsh_558 hL) ?_
    refine kw_iconst dX11_readsE_46 ?_
    refine k2_callV3N (ci := 9) (N := 38) (T := TX11) rfl (lsh_558 hL) m_X11_waitsFor dX11_readsE_47 wl_X11_218 (Nat.le_of_ble_eq_true rfl) (kC2_mono H (fun r c18 H => ?_))
    obtain ⟨rfl, H⟩ := H
    refine ⟨rfl, ?_⟩
    refine kw_aload_n dX11_readsE_50 rfl ?_
    refine kw_aload_n dX11_readsE_51 rfl ?_
    refine k2_getI fd_X11_23 dX11_readsE_52 wf_X11_183 (lsh_558 hL) ?_
    refine kw_iconst dX11_readsE_55 ?_
    refine kw_iadd dX11_readsE_56 ?_
    refine k2_putI fp_X11_23 dX11_readsE_57 wf_X11_183 (lsh_558 hL) ?_
    refine kw_aload_n dX11_readsE_60 rfl ?_
    refine k2_callV0I (ci := 9) (N := 38) (T := TX11) rfl (lsh_558 hL) m_X11_readsF dX11_readsE_61 wl_X11_270 (Nat.le_of_ble_eq_true rfl) (kC2_mono H (fun r c20 H => ?_))
    obtain ⟨z19, rfl, H⟩ := H
    refine ⟨z19, rfl, ?_⟩
    have o22 := H.1
    have H := H.2
    refine kw_if_ne 24 dX11_readsE_64 (by decide) o22 (fun h21 => ?_) (fun h21 => ?_)
    · have H := H.1 h21
      exact kw_forget (ls' := [some (kA 558), none]) ⟨Or.inr rfl, ⟨Or.inl rfl, trivial⟩⟩ H
    · have H := H.2 h21
      refine kw_iconst dX11_readsE_67 ?_
      refine k2_zret dX11_readsE_68 rfl (Or.inl rfl) H
set_option maxRecDepth 4000 in
theorem v_X11_readsE_78 {G : KG} {S0 : KSh} (hL : kLay S0) {d : Nat} {P : Option AV → KMem → Prop} {c : KMem} {x1 : Int} (r1 : -2147483648 ≤ x1 ∧ x1 < 2147483648) (H : (x1 ≠ 41 → ((x1 = 43 → (kW2 G S0 kM_X11_readsE (d + 7) 130 [some (kA 558), some (kI x1)] [] c P)) ∧ (x1 ≠ 43 → ((x1 = 45 → (kW2 G S0 kM_X11_readsE (d + 7) 130 [some (kA 558), some (kI x1)] [] c P)) ∧ (x1 ≠ 45 → ((k32 (c 558 28)) ∧ (((c 558 28) = 0 → (P (some (kI 1)) c)) ∧ ((c 558 28) ≠ 0 → (kC2 G S0 kM_X11_wrongAt (d + 6) [kA 558, kI 1, kI (c 558 23)] c (kRI (fun z28 c29 => (k32 z28) ∧ ((z28 = 0 → (P (some (kI 0)) c29)) ∧ (z28 ≠ 0 → (P (some (kI 1)) c29)))))))))))))) ∧ (x1 = 41 → (kC2 G S0 kM_X11_closes (d + 6) [kA 558] c (kRI (fun z32 c33 => (k32 z32) ∧ ((z32 ≠ 0 → (kW2 G S0 kM_X11_readsE (d + 7) 24 [some (kA 558), none] [] c33 P)) ∧ (z32 = 0 → (P (some (kI 0)) c33)))))))) : kW2 G S0 kM_X11_readsE (d + 7) 78 [some (kA 558), some (kI x1)] [] c P := by
  refine kw_iload_n dX11_readsE_78 rfl ?_
  refine kw_bipush dX11_readsE_79 (by decide) ?_
  refine kw_icmp_ne 93 dX11_readsE_81 (by decide) (k32i (by omega)) (k32i (by omega)) (fun h23 => ?_) (fun h23 => ?_)
  · have H := H.1 h23
    refine kw_iload_n dX11_readsE_93 rfl ?_
    refine kw_bipush dX11_readsE_94 (by decide) ?_
    refine kw_icmp_eq 130 dX11_readsE_96 (by decide) (k32i (by omega)) (k32i (by omega)) (fun h24 => ?_) (fun h24 => ?_)
    · have H := H.1 h24
      exact kw_forget (ls' := [some (kA 558), some (kI x1)]) ⟨Or.inr rfl, ⟨Or.inr rfl, trivial⟩⟩ H
    · have H := H.2 h24
      refine kw_iload_n dX11_readsE_99 rfl ?_
      refine kw_bipush dX11_readsE_100 (by decide) ?_
      refine kw_icmp_eq 130 dX11_readsE_102 (by decide) (k32i (by omega)) (k32i (by omega)) (fun h25 => ?_) (fun h25 => ?_)
      · have H := H.1 h25
        exact kw_forget (ls' := [some (kA 558), some (kI x1)]) ⟨Or.inr rfl, ⟨Or.inr rfl, trivial⟩⟩ H
      · have H := H.2 h25
        refine kw_aload_n dX11_readsE_105 rfl ?_
        refine k2_getI fd_X11_28 dX11_readsE_106 wf_X11_215 (lsh_558 hL) ?_
        have o27 := H.1
        have H := H.2
        refine kw_if_eq 124 dX11_readsE_109 (by decide) o27 (fun h26 => ?_) (fun h26 => ?_)
        · have H := H.1 h26
          refine kw_iconst dX11_readsE_124 ?_
          refine kw_goto 129 dX11_readsE_125 (by decide) ?_
          refine k2_zret dX11_readsE_129 rfl (Or.inr rfl) H
        · have H := H.2 h26
          refine kw_aload_n dX11_readsE_112 rfl ?_
          refine kw_iconst dX11_readsE_113 ?_
          refine kw_aload_n dX11_readsE_114 rfl ?_
          refine k2_getI fd_X11_23 dX11_readsE_115 wf_X11_183 (lsh_558 hL) ?_
          refine k2_callV2I (ci := 9) (N := 38) (T := TX11) rfl (lsh_558 hL) m_X11_wrongAt dX11_readsE_118 wl_X11_200 (Nat.le_of_ble_eq_true rfl) (kC2_mono H (fun r c29 H => ?_))
          obtain ⟨z28, rfl, H⟩ := H
          refine ⟨z28, rfl, ?_⟩
          have o31 := H.1
          have H := H.2
          refine kw_if_eq 128 dX11_readsE_121 (by decide) o31 (fun h30 => ?_) (fun h30 => ?_)
          · have H := H.1 h30
            refine kw_iconst dX11_readsE_128 ?_
            refine k2_zret dX11_readsE_129 rfl (Or.inl rfl) H
          · have H := H.2 h30
            refine kw_iconst dX11_readsE_124 ?_
            refine kw_goto 129 dX11_readsE_125 (by decide) ?_
            refine k2_zret dX11_readsE_129 rfl (Or.inr rfl) H
  · have H := H.2 h23
    refine kw_aload_n dX11_readsE_84 rfl ?_
    refine k2_callV0I (ci := 9) (N := 38) (T := TX11) rfl (lsh_558 hL) m_X11_closes dX11_readsE_85 wl_X11_279 (Nat.le_of_ble_eq_true rfl) (kC2_mono H (fun r c33 H => ?_))
    obtain ⟨z32, rfl, H⟩ := H
    refine ⟨z32, rfl, ?_⟩
    have o35 := H.1
    have H := H.2
    refine kw_if_ne 24 dX11_readsE_88 (by decide) o35 (fun h34 => ?_) (fun h34 => ?_)
    · have H := H.1 h34
      exact kw_forget (ls' := [some (kA 558), none]) ⟨Or.inr rfl, ⟨Or.inl rfl, trivial⟩⟩ H
    · have H := H.2 h34
      refine kw_iconst dX11_readsE_91 ?_
      refine k2_zret dX11_readsE_92 rfl (Or.inl rfl) H
set_option maxRecDepth 4000 in
theorem v_X11_readsE_130 {G : KG} {S0 : KSh} (hL : kLay S0) {d : Nat} {P : Option AV → KMem → Prop} {c : KMem} {x1 : Int} (r1 : -2147483648 ≤ x1 ∧ x1 < 2147483648) (H : (x1 ≠ 43 → (kC2 G S0 kM_X11_waitsFor (d + 6) [kA 558, kI 6, kI (c 558 23), kI 0] c (kRN (fun c38 => kC2 G S0 kM_X11_readsF (d + 6) [kA 558] (kup c38 558 23 ((c38 558 23) + 1)) (kRI (fun z39 c40 => (k32 z39) ∧ ((z39 ≠ 0 → (kW2 G S0 kM_X11_readsE (d + 7) 24 [some (kA 558), none] [] c40 P)) ∧ (z39 = 0 → (P (some (kI 0)) c40))))))))) ∧ (x1 = 43 → (kC2 G S0 kM_X11_waitsFor (d + 6) [kA 558, kI 5, kI (c 558 23), kI 0] c (kRN (fun c44 => kC2 G S0 kM_X11_readsF (d + 6) [kA 558] (kup c44 558 23 ((c44 558 23) + 1)) (kRI (fun z45 c46 => (k32 z45) ∧ ((z45 ≠ 0 → (kW2 G S0 kM_X11_readsE (d + 7) 24 [some (kA 558), none] [] c46 P)) ∧ (z45 = 0 → (P (some (kI 0)) c46)))))))))) : kW2 G S0 kM_X11_readsE (d + 7) 130 [some (kA 558), some (kI x1)] [] c P := by
  refine kw_aload_n dX11_readsE_130 rfl ?_
  refine kw_iload_n dX11_readsE_131 rfl ?_
  refine kw_bipush dX11_readsE_132 (by decide) ?_
  refine kw_icmp_ne 141 dX11_readsE_134 (by decide) (k32i (by omega)) (k32i (by omega)) (fun h36 => ?_) (fun h36 => ?_)
  · have H := H.1 h36
    refine kw_bipush dX11_readsE_141 (by decide) ?_
    refine kw_aload_n dX11_readsE_143 rfl ?_
    refine k2_getI fd_X11_23 dX11_readsE_144 wf_X11_183 (lsh_558 hL) ?_
    refine kw_iconst dX11_readsE_147 ?_
    refine k2_callV3N (ci := 9) (N := 38) (T := TX11) rfl (lsh_558 hL) m_X11_waitsFor dX11_readsE_148 wl_X11_218 (Nat.le_of_ble_eq_true rfl) (kC2_mono H (fun r c38 H => ?_))
    obtain ⟨rfl, H⟩ := H
    refine ⟨rfl, ?_⟩
    refine kw_aload_n dX11_readsE_151 rfl ?_
    refine kw_aload_n dX11_readsE_152 rfl ?_
    refine k2_getI fd_X11_23 dX11_readsE_153 wf_X11_183 (lsh_558 hL) ?_
    refine kw_iconst dX11_readsE_156 ?_
    refine kw_iadd dX11_readsE_157 ?_
    refine k2_putI fp_X11_23 dX11_readsE_158 wf_X11_183 (lsh_558 hL) ?_
    refine kw_aload_n dX11_readsE_161 rfl ?_
    refine k2_callV0I (ci := 9) (N := 38) (T := TX11) rfl (lsh_558 hL) m_X11_readsF dX11_readsE_162 wl_X11_270 (Nat.le_of_ble_eq_true rfl) (kC2_mono H (fun r c40 H => ?_))
    obtain ⟨z39, rfl, H⟩ := H
    refine ⟨z39, rfl, ?_⟩
    have o42 := H.1
    have H := H.2
    refine kw_if_ne 170 dX11_readsE_165 (by decide) o42 (fun h41 => ?_) (fun h41 => ?_)
    · have H := H.1 h41
      refine kw_goto 24 dX11_readsE_170 (by decide) ?_
      exact kw_forget (ls' := [some (kA 558), none]) ⟨Or.inr rfl, ⟨Or.inl rfl, trivial⟩⟩ H
    · have H := H.2 h41
      refine kw_iconst dX11_readsE_168 ?_
      refine k2_zret dX11_readsE_169 rfl (Or.inl rfl) H
  · have H := H.2 h36
    refine kw_iconst dX11_readsE_137 ?_
    refine kw_goto 143 dX11_readsE_138 (by decide) ?_
    refine kw_aload_n dX11_readsE_143 rfl ?_
    refine k2_getI fd_X11_23 dX11_readsE_144 wf_X11_183 (lsh_558 hL) ?_
    refine kw_iconst dX11_readsE_147 ?_
    refine k2_callV3N (ci := 9) (N := 38) (T := TX11) rfl (lsh_558 hL) m_X11_waitsFor dX11_readsE_148 wl_X11_218 (Nat.le_of_ble_eq_true rfl) (kC2_mono H (fun r c44 H => ?_))
    obtain ⟨rfl, H⟩ := H
    refine ⟨rfl, ?_⟩
    refine kw_aload_n dX11_readsE_151 rfl ?_
    refine kw_aload_n dX11_readsE_152 rfl ?_
    refine k2_getI fd_X11_23 dX11_readsE_153 wf_X11_183 (lsh_558 hL) ?_
    refine kw_iconst dX11_readsE_156 ?_
    refine kw_iadd dX11_readsE_157 ?_
    refine k2_putI fp_X11_23 dX11_readsE_158 wf_X11_183 (lsh_558 hL) ?_
    refine kw_aload_n dX11_readsE_161 rfl ?_
    refine k2_callV0I (ci := 9) (N := 38) (T := TX11) rfl (lsh_558 hL) m_X11_readsF dX11_readsE_162 wl_X11_270 (Nat.le_of_ble_eq_true rfl) (kC2_mono H (fun r c46 H => ?_))
    obtain ⟨z45, rfl, H⟩ := H
    refine ⟨z45, rfl, ?_⟩
    have o48 := H.1
    have H := H.2
    refine kw_if_ne 170 dX11_readsE_165 (by decide) o48 (fun h47 => ?_) (fun h47 => ?_)
    · have H := H.1 h47
      refine kw_goto 24 dX11_readsE_170 (by decide) ?_
      exact kw_forget (ls' := [some (kA 558), none]) ⟨Or.inr rfl, ⟨Or.inl rfl, trivial⟩⟩ H
    · have H := H.2 h47
      refine kw_iconst dX11_readsE_168 ?_
      refine k2_zret dX11_readsE_169 rfl (Or.inl rfl) H
set_option maxRecDepth 4000 in
theorem v_X11_readsStep {G : KG} {S0 : KSh} (hL : kLay S0) {d : Nat} {P : Option AV → KMem → Prop} {c : KMem} {x1 : Int} (r1 : -2147483648 ≤ x1 ∧ x1 < 2147483648) (H : (x1 ≠ 12 → (kC2 G S0 kM_X11_here (d + 7) [kA 558] c (kRI (fun z2 c3 => (k32 z2) ∧ (((65 ≤ z2 ∧ z2 ≤ 76) → (kC2 G S0 kM_X11_here (d + 7) [kA 558] c3 (kRI (fun z7 c8 => kC2 G S0 kM_X11_takesSign (d + 7) [kA 558, kI 61] (kup c8 558 23 ((c8 558 23) + 1)) (kRI (fun z9 c10 => (k32 z9) ∧ ((z9 = 0 → (P (some (kI 0)) c10)) ∧ (z9 ≠ 0 → (kC2 G S0 kM_X11_readsE (d + 7) [kA 558] c10 (kRI (fun z13 c14 => (k32 z13) ∧ ((z13 ≠ 0 → (kC2 G S0 kM_X11_copies (d + 7) [kA 558, kI 44, kI (12 + (z7 - 65))] c14 (kRN (fun c18 => (0 ≤ (12 + (z7 - 65)) ∧ (12 + (z7 - 65)) < 24) ∧ (P (some (kI 1)) (kup c18 564 (12 + (z7 - 65)) 1)))))) ∧ (z13 = 0 → (P (some (kI 0)) c14)))))))))))))) ∧ (¬ (65 ≤ z2 ∧ z2 ≤ 76) → (kC2 G S0 kM_X11_wrongAt (d + 7) [kA 558, kI 1, kI (c3 558 23)] c3 (kRI (fun z21 c22 => (z21 = 0 ∨ z21 = 1) ∧ (P (some (kI z21)) c22)))))))))) ∧ (x1 = 12 → (kC2 G S0 kM_X11_wrongAt (d + 7) [kA 558, kI 4, kI (c 558 23)] c (kRI (fun z24 c25 => (z24 = 0 ∨ z24 = 1) ∧ (P (some (kI z24)) c25)))))) : kC2 G S0 kM_X11_readsStep (d + 8) [kA 558, kI x1] c P := by
  refine k2_met (by decide) rfl (Nat.le_of_ble_eq_true rfl) (l0 := [some (kA 558), some (kI x1), none]) rfl ?_
  refine kw_iload_n dX11_readsStep_0 rfl ?_
  refine kw_bipush dX11_readsStep_1 (by decide) ?_
  refine kw_icmp_ne 16 dX11_readsStep_3 (by decide) (k32i (by omega)) (k32i (by omega)) (fun h1 => ?_) (fun h1 => ?_)
  · have H := H.1 h1
    refine kw_aload_n dX11_readsStep_16 rfl ?_
    refine k2_callV0I (ci := 9) (N := 38) (T := TX11) rfl (lsh_558 hL) m_X11_here dX11_readsStep_17 wl_X11_196 (Nat.le_of_ble_eq_true rfl) (kC2_mono H (fun r c3 H => ?_))
    obtain ⟨z2, rfl, H⟩ := H
    refine ⟨z2, rfl, ?_⟩
    refine kw_bipush dX11_readsStep_20 (by decide) ?_
    refine kw_bipush dX11_readsStep_22 (by decide) ?_
    have o4 := H.1
    have H := H.2
    refine k2_callS3I m_X11_in dX11_readsStep_24 wl_X11_100 (Nat.le_of_ble_eq_true rfl) (s_X11_in hL o4 (k32i (by omega)) (k32i (by omega)) (fun h5 => ⟨_, rfl, ?_⟩) (fun h5 => ⟨_, rfl, ?_⟩))
    · have H := H.1 h5
      refine kw_if_ne 40 dX11_readsStep_27 (by decide) (k32i (by omega)) (fun _ => ?_) (fun h6 => absurd h6 (by decide))
      refine kw_aload_n dX11_readsStep_40 rfl ?_
      refine k2_callV0I (ci := 9) (N := 38) (T := TX11) rfl (lsh_558 hL) m_X11_here dX11_readsStep_41 wl_X11_196 (Nat.le_of_ble_eq_true rfl) (kC2_mono H (fun r c8 H => ?_))
      obtain ⟨z7, rfl, H⟩ := H
      refine ⟨z7, rfl, ?_⟩
      refine kw_bipush dX11_readsStep_44 (by decide) ?_
      refine kw_isub dX11_readsStep_46 ?_
      refine kw_istore_n dX11_readsStep_47 (Nat.le_of_ble_eq_true rfl) ?_
      refine kw_aload_n dX11_readsStep_48 rfl ?_
      refine kw_aload_n dX11_readsStep_49 rfl ?_
      refine k2_getI fd_X11_23 dX11_readsStep_50 wf_X11_183 (lsh_558 hL) ?_
      refine kw_iconst dX11_readsStep_53 ?_
      refine kw_iadd dX11_readsStep_54 ?_
      refine k2_putI fp_X11_23 dX11_readsStep_55 wf_X11_183 (lsh_558 hL) ?_
      refine kw_aload_n dX11_readsStep_58 rfl ?_
      refine kw_bipush dX11_readsStep_59 (by decide) ?_
      refine k2_callV1I (ci := 9) (N := 38) (T := TX11) rfl (lsh_558 hL) m_X11_takesSign dX11_readsStep_61 wl_X11_226 (Nat.le_of_ble_eq_true rfl) (kC2_mono H (fun r c10 H => ?_))
      obtain ⟨z9, rfl, H⟩ := H
      refine ⟨z9, rfl, ?_⟩
      have o12 := H.1
      have H := H.2
      refine kw_if_eq 74 dX11_readsStep_64 (by decide) o12 (fun h11 => ?_) (fun h11 => ?_)
      · have H := H.1 h11
        refine kw_iconst dX11_readsStep_74 ?_
        refine k2_zret dX11_readsStep_75 rfl (Or.inl rfl) H
      · have H := H.2 h11
        refine kw_aload_n dX11_readsStep_67 rfl ?_
        refine k2_callV0I (ci := 9) (N := 38) (T := TX11) rfl (lsh_558 hL) m_X11_readsE dX11_readsStep_68 wl_X11_282 (Nat.le_of_ble_eq_true rfl) (kC2_mono H (fun r c14 H => ?_))
        obtain ⟨z13, rfl, H⟩ := H
        refine ⟨z13, rfl, ?_⟩
        have o16 := H.1
        have H := H.2
        refine kw_if_ne 76 dX11_readsStep_71 (by decide) o16 (fun h15 => ?_) (fun h15 => ?_)
        · have H := H.1 h15
          refine kw_aload_n dX11_readsStep_76 rfl ?_
          refine kw_bipush dX11_readsStep_77 (by decide) ?_
          refine kw_bipush dX11_readsStep_79 (by decide) ?_
          refine kw_iload_n dX11_readsStep_81 rfl ?_
          refine kw_iadd dX11_readsStep_82 ?_
          refine k2_callV2N (ci := 9) (N := 38) (T := TX11) rfl (lsh_558 hL) m_X11_copies dX11_readsStep_83 wl_X11_132 (Nat.le_of_ble_eq_true rfl) (kC2_mono H (fun r c18 H => ?_))
          obtain ⟨rfl, H⟩ := H
          refine ⟨rfl, ?_⟩
          refine kw_aload_n dX11_readsStep_86 rfl ?_
          refine k2_getR fd_X11_5 dX11_readsStep_87 wf_X11_25 (lsh_558 hL) (lrf_558_5 hL) ?_
          refine kw_bipush dX11_readsStep_90 (by decide) ?_
          refine kw_iload_n dX11_readsStep_92 rfl ?_
          refine kw_iadd dX11_readsStep_93 ?_
          refine kw_iconst dX11_readsStep_94 ?_
          have o19 := H.1
          have H := H.2
          refine k2_zast1 (Or.inr rfl) dX11_readsStep_95 (lsh_564 hL) (by omega) o19 ?_
          refine kw_iconst dX11_readsStep_96 ?_
          refine k2_zret dX11_readsStep_97 rfl (Or.inr rfl) H
        · have H := H.2 h15
          refine kw_iconst dX11_readsStep_74 ?_
          refine k2_zret dX11_readsStep_75 rfl (Or.inl rfl) H
    · have H := H.2 h5
      refine kw_if_ne 40 dX11_readsStep_27 (by decide) (k32i (by omega)) (fun h20 => absurd h20 (by decide)) (fun _ => ?_)
      refine kw_aload_n dX11_readsStep_30 rfl ?_
      refine kw_iconst dX11_readsStep_31 ?_
      refine kw_aload_n dX11_readsStep_32 rfl ?_
      refine k2_getI fd_X11_23 dX11_readsStep_33 wf_X11_183 (lsh_558 hL) ?_
      refine k2_callV2I (ci := 9) (N := 38) (T := TX11) rfl (lsh_558 hL) m_X11_wrongAt dX11_readsStep_36 wl_X11_200 (Nat.le_of_ble_eq_true rfl) (kC2_mono H (fun r c22 H => ?_))
      obtain ⟨z21, rfl, H⟩ := H
      refine ⟨z21, rfl, ?_⟩
      have o23 := H.1
      have H := H.2
      refine k2_zret dX11_readsStep_39 rfl o23 H
  · have H := H.2 h1
    refine kw_aload_n dX11_readsStep_6 rfl ?_
    refine kw_iconst dX11_readsStep_7 ?_
    refine kw_aload_n dX11_readsStep_8 rfl ?_
    refine k2_getI fd_X11_23 dX11_readsStep_9 wf_X11_183 (lsh_558 hL) ?_
    refine k2_callV2I (ci := 9) (N := 38) (T := TX11) rfl (lsh_558 hL) m_X11_wrongAt dX11_readsStep_12 wl_X11_200 (Nat.le_of_ble_eq_true rfl) (kC2_mono H (fun r c25 H => ?_))
    obtain ⟨z24, rfl, H⟩ := H
    refine ⟨z24, rfl, ?_⟩
    have o26 := H.1
    have H := H.2
    refine k2_zret dX11_readsStep_15 rfl o26 H
set_option maxRecDepth 4000 in
theorem v_X11_drafts {G : KG} {S0 : KSh} (hL : kLay S0) {d : Nat} {P : Option AV → KMem → Prop} {c : KMem} {x1 x2 : Int} (r1 : -2147483648 ≤ x1 ∧ x1 < 2147483648) (r2 : -2147483648 ≤ x2 ∧ x2 < 2147483648) (H : (x2 = 0 ∨ x2 = 1) ∧ (kW2 G S0 kM_X11_drafts (d + 9) 17 [some (kA 558), none, none, some (kI 0), none] [] (kup (kup (kup c 558 30 x2) 558 23 0) 558 24 x1) P)) : kC2 G S0 kM_X11_drafts (d + 9) [kA 558, kI x1, kI x2] c P := by
  refine k2_met (by decide) rfl (Nat.le_of_ble_eq_true rfl) (l0 := [some (kA 558), some (kI x1), some (kI x2), none, none]) rfl ?_
  refine kw_aload_n dX11_drafts_0 rfl ?_
  refine kw_iload_n dX11_drafts_1 rfl ?_
  have o1 := H.1
  have H := H.2
  refine k2_putZ fp_X11_30 dX11_drafts_2 wf_X11_189 (lsh_558 hL) o1 ?_
  refine kw_aload_n dX11_drafts_5 rfl ?_
  refine kw_iconst dX11_drafts_6 ?_
  refine k2_putI fp_X11_23 dX11_drafts_7 wf_X11_183 (lsh_558 hL) ?_
  refine kw_aload_n dX11_drafts_10 rfl ?_
  refine kw_iload_n dX11_drafts_11 rfl ?_
  refine k2_putI fp_X11_24 dX11_drafts_12 wf_X11_186 (lsh_558 hL) ?_
  refine kw_iconst dX11_drafts_15 ?_
  refine kw_istore_n dX11_drafts_16 (Nat.le_of_ble_eq_true rfl) ?_
  exact kw_forget (ls' := [some (kA 558), none, none, some (kI 0), none]) ⟨Or.inr rfl, ⟨Or.inl rfl, ⟨Or.inl rfl, ⟨Or.inr rfl, ⟨Or.inr rfl, trivial⟩⟩⟩⟩⟩ H
set_option maxRecDepth 4000 in
theorem v_X11_drafts_17 {G : KG} {S0 : KSh} (hL : kLay S0) {d : Nat} {P : Option AV → KMem → Prop} {c : KMem} {x3 : Int} (r3 : -2147483648 ≤ x3 ∧ x3 < 2147483648) (hp : 0 ≤ x3 ∧ x3 ≤ 12) (H : (12 ≤ x3 → (kC2 G S0 kM_X11_readsStep (d + 8) [kA 558, kI 0] c (kRI (fun z3 c4 => kW2 G S0 kM_X11_drafts (d + 9) 62 [some (kA 558), none, none, some (kI 0), some (kI z3)] [] c4 P)))) ∧ (x3 < 12 → (kC2 G S0 kM_X11_copies (d + 8) [kA 558, kI x3, kI (12 + x3)] c (kRN (fun c6 => ((c6 564 x3) = 0 ∨ (c6 564 x3) = 1) ∧ (kW2 G S0 kM_X11_drafts (d + 9) 17 [some (kA 558), none, none, some (kI (x3 + 1)), none] [] (kup c6 564 (12 + x3) (c6 564 x3)) P)))))) : kW2 G S0 kM_X11_drafts (d + 9) 17 [some (kA 558), none, none, some (kI x3), none] [] c P := by
  refine kw_iload_n dX11_drafts_17 rfl ?_
  refine kw_bipush dX11_drafts_18 (by decide) ?_
  refine kw_icmp_ge 53 dX11_drafts_20 (by decide) (k32i (by omega)) (k32i (by omega)) (fun h2 => ?_) (fun h2 => ?_)
  · have H := H.1 h2
    refine kw_iconst dX11_drafts_53 ?_
    refine kw_istore_n dX11_drafts_54 (Nat.le_of_ble_eq_true rfl) ?_
    refine kw_aload_n dX11_drafts_55 rfl ?_
    refine kw_iconst dX11_drafts_56 ?_
    refine k2_callV1I (ci := 9) (N := 38) (T := TX11) rfl (lsh_558 hL) m_X11_readsStep dX11_drafts_57 wl_X11_285 (Nat.le_of_ble_eq_true rfl) (kC2_mono H (fun r c4 H => ?_))
    obtain ⟨z3, rfl, H⟩ := H
    refine ⟨z3, rfl, ?_⟩
    refine kw_istore dX11_drafts_60 (Nat.le_of_ble_eq_true rfl) ?_
    exact kw_forget (ls' := [some (kA 558), none, none, some (kI 0), some (kI z3)]) ⟨Or.inr rfl, ⟨Or.inr rfl, ⟨Or.inr rfl, ⟨Or.inr rfl, ⟨Or.inr rfl, trivial⟩⟩⟩⟩⟩ H
  · have H := H.2 h2
    refine kw_aload_n dX11_drafts_23 rfl ?_
    refine kw_iload_n dX11_drafts_24 rfl ?_
    refine kw_bipush dX11_drafts_25 (by decide) ?_
    refine kw_iload_n dX11_drafts_27 rfl ?_
    refine kw_iadd dX11_drafts_28 ?_
    refine k2_callV2N (ci := 9) (N := 38) (T := TX11) rfl (lsh_558 hL) m_X11_copies dX11_drafts_29 wl_X11_132 (Nat.le_of_ble_eq_true rfl) (kC2_mono H (fun r c6 H => ?_))
    obtain ⟨rfl, H⟩ := H
    refine ⟨rfl, ?_⟩
    refine kw_aload_n dX11_drafts_32 rfl ?_
    refine k2_getR fd_X11_5 dX11_drafts_33 wf_X11_25 (lsh_558 hL) (lrf_558_5 hL) ?_
    refine kw_bipush dX11_drafts_36 (by decide) ?_
    refine kw_iload_n dX11_drafts_38 rfl ?_
    refine kw_iadd dX11_drafts_39 ?_
    refine kw_aload_n dX11_drafts_40 rfl ?_
    refine k2_getR fd_X11_5 dX11_drafts_41 wf_X11_25 (lsh_558 hL) (lrf_558_5 hL) ?_
    refine kw_iload_n dX11_drafts_44 rfl ?_
    refine k2_zald dX11_drafts_45 (lsh_564 hL) (by omega) (by omega) ?_
    have o7 := H.1
    have H := H.2
    refine k2_zast1 o7 dX11_drafts_46 (lsh_564 hL) (by omega) (by omega) ?_
    refine kw_iinc dX11_drafts_47 rfl ?_
    refine kw_goto 17 dX11_drafts_50 (by decide) ?_
    exact kw_forget (ls' := [some (kA 558), none, none, some (kI (x3 + 1)), none]) ⟨Or.inr rfl, ⟨Or.inr rfl, ⟨Or.inr rfl, ⟨Or.inr rfl, ⟨Or.inr rfl, trivial⟩⟩⟩⟩⟩ H
set_option maxRecDepth 4000 in
theorem v_X11_drafts_62 {G : KG} {S0 : KSh} (hL : kLay S0) {d : Nat} {P : Option AV → KMem → Prop} {c : KMem} {x3 x4 : Int} (r3 : -2147483648 ≤ x3 ∧ x3 < 2147483648) (r4 : -2147483648 ≤ x4 ∧ x4 < 2147483648) (hp : 0 ≤ x3 ∧ x3 ≤ 12) (H : (x4 = 0 → (P (some (kI (c 558 25))) c)) ∧ (x4 ≠ 0 → ((k32 (c 558 23)) ∧ ((k32 (c 558 24)) ∧ (((c 558 23) ≠ (c 558 24) → (kC2 G S0 kM_X11_takesSign (d + 8) [kA 558, kI 59] c (kRI (fun z12 c13 => (k32 z12) ∧ ((z12 = 0 → (kW2 G S0 kM_X11_drafts (d + 9) 62 [some (kA 558), none, none, some (kI (x3 + 1)), some (kI 0)] [] c13 P)) ∧ (z12 ≠ 0 → (kC2 G S0 kM_X11_readsStep (d + 8) [kA 558, kI (x3 + 1)] c13 (kRI (fun z16 c17 => (k32 z16) ∧ ((z16 = 0 → (kW2 G S0 kM_X11_drafts (d + 9) 62 [some (kA 558), none, none, some (kI (x3 + 1)), some (kI 0)] [] c17 P)) ∧ (z16 ≠ 0 → (kW2 G S0 kM_X11_drafts (d + 9) 62 [some (kA 558), none, none, some (kI (x3 + 1)), some (kI 1)] [] c17 P)))))))))))) ∧ ((c 558 23) = (c 558 24) → (P (some (kI (x3 + 1))) c))))))) : kW2 G S0 kM_X11_drafts (d + 9) 62 [some (kA 558), none, none, some (kI x3), some (kI x4)] [] c P := by
  refine kw_iload dX11_drafts_62 rfl ?_
  refine kw_if_eq 111 dX11_drafts_64 (by decide) (k32i (by omega)) (fun h8 => ?_) (fun h8 => ?_)
  · have H := H.1 h8
    refine kw_aload_n dX11_drafts_111 rfl ?_
    refine k2_getI fd_X11_25 dX11_drafts_112 wf_X11_193 (lsh_558 hL) ?_
    refine k2_iret dX11_drafts_115 rfl H
  · have H := H.2 h8
    refine kw_iload_n dX11_drafts_67 rfl ?_
    refine kw_iconst dX11_drafts_68 ?_
    refine kw_iadd dX11_drafts_69 ?_
    refine kw_istore_n dX11_drafts_70 (Nat.le_of_ble_eq_true rfl) ?_
    refine kw_aload_n dX11_drafts_71 rfl ?_
    refine k2_getI fd_X11_23 dX11_drafts_72 wf_X11_183 (lsh_558 hL) ?_
    refine kw_aload_n dX11_drafts_75 rfl ?_
    refine k2_getI fd_X11_24 dX11_drafts_76 wf_X11_186 (lsh_558 hL) ?_
    have o10 := H.1
    have H := H.2
    have o11 := H.1
    have H := H.2
    refine kw_icmp_ne 84 dX11_drafts_79 (by decide) o10 o11 (fun h9 => ?_) (fun h9 => ?_)
    · have H := H.1 h9
      refine kw_aload_n dX11_drafts_84 rfl ?_
      refine kw_bipush dX11_drafts_85 (by decide) ?_
      refine k2_callV1I (ci := 9) (N := 38) (T := TX11) rfl (lsh_558 hL) m_X11_takesSign dX11_drafts_87 wl_X11_226 (Nat.le_of_ble_eq_true rfl) (kC2_mono H (fun r c13 H => ?_))
      obtain ⟨z12, rfl, H⟩ := H
      refine ⟨z12, rfl, ?_⟩
      have o15 := H.1
      have H := H.2
      refine kw_if_eq 105 dX11_drafts_90 (by decide) o15 (fun h14 => ?_) (fun h14 => ?_)
      · have H := H.1 h14
        refine kw_iconst dX11_drafts_105 ?_
        refine kw_istore dX11_drafts_106 (Nat.le_of_ble_eq_true rfl) ?_
        refine kw_goto 62 dX11_drafts_108 (by decide) ?_
        exact kw_forget (ls' := [some (kA 558), none, none, some (kI (x3 + 1)), some (kI 0)]) ⟨Or.inr rfl, ⟨Or.inr rfl, ⟨Or.inr rfl, ⟨Or.inr rfl, ⟨Or.inr rfl, trivial⟩⟩⟩⟩⟩ H
      · have H := H.2 h14
        refine kw_aload_n dX11_drafts_93 rfl ?_
        refine kw_iload_n dX11_drafts_94 rfl ?_
        refine k2_callV1I (ci := 9) (N := 38) (T := TX11) rfl (lsh_558 hL) m_X11_readsStep dX11_drafts_95 wl_X11_285 (Nat.le_of_ble_eq_true rfl) (kC2_mono H (fun r c17 H => ?_))
        obtain ⟨z16, rfl, H⟩ := H
        refine ⟨z16, rfl, ?_⟩
        have o19 := H.1
        have H := H.2
        refine kw_if_eq 105 dX11_drafts_98 (by decide) o19 (fun h18 => ?_) (fun h18 => ?_)
        · have H := H.1 h18
          refine kw_iconst dX11_drafts_105 ?_
          refine kw_istore dX11_drafts_106 (Nat.le_of_ble_eq_true rfl) ?_
          refine kw_goto 62 dX11_drafts_108 (by decide) ?_
          exact kw_forget (ls' := [some (kA 558), none, none, some (kI (x3 + 1)), some (kI 0)]) ⟨Or.inr rfl, ⟨Or.inr rfl, ⟨Or.inr rfl, ⟨Or.inr rfl, ⟨Or.inr rfl, trivial⟩⟩⟩⟩⟩ H
        · have H := H.2 h18
          refine kw_iconst dX11_drafts_101 ?_
          refine kw_goto 106 dX11_drafts_102 (by decide) ?_
          refine kw_istore dX11_drafts_106 (Nat.le_of_ble_eq_true rfl) ?_
          refine kw_goto 62 dX11_drafts_108 (by decide) ?_
          exact kw_forget (ls' := [some (kA 558), none, none, some (kI (x3 + 1)), some (kI 1)]) ⟨Or.inr rfl, ⟨Or.inr rfl, ⟨Or.inr rfl, ⟨Or.inr rfl, ⟨Or.inr rfl, trivial⟩⟩⟩⟩⟩ H
    · have H := H.2 h9
      refine kw_iload_n dX11_drafts_82 rfl ?_
      refine k2_iret dX11_drafts_83 rfl H
set_option maxRecDepth 4000 in
theorem v_X11_does {G : KG} {S0 : KSh} (hL : kLay S0) {d : Nat} {P : Option AV → KMem → Prop} {c : KMem} {x1 x2 : Int} (r1 : -2147483648 ≤ x1 ∧ x1 < 2147483648) (r2 : -2147483648 ≤ x2 ∧ x2 < 2147483648) (H : kC2 G S0 kM_X11_drafts (d + 9) [kA 558, kI x1, kI x2] c (kRI (fun z1 c2 => (k32 z1) ∧ ((0 ≤ z1 → (kC2 G S0 kM_X11_remembers (d + 9) [kA 558] c2 (kRN (fun c6 => kC2 G S0 kM_X11_takesDraft (d + 9) [kA 558] c6 (kRN (fun c8 => P (some (kI z1)) c8)))))) ∧ (z1 < 0 → (P (some (kI z1)) c2)))))) : kC2 G S0 kM_X11_does (d + 10) [kA 558, kI x1, kI x2] c P := by
  refine k2_met (by decide) rfl (Nat.le_of_ble_eq_true rfl) (l0 := [some (kA 558), some (kI x1), some (kI x2), none]) rfl ?_
  refine kw_aload_n dX11_does_0 rfl ?_
  refine kw_iload_n dX11_does_1 rfl ?_
  refine kw_iload_n dX11_does_2 rfl ?_
  refine k2_callV2I (ci := 9) (N := 38) (T := TX11) rfl (lsh_558 hL) m_X11_drafts dX11_does_3 wl_X11_291 (Nat.le_of_ble_eq_true rfl) (kC2_mono H (fun r c2 H => ?_))
  obtain ⟨z1, rfl, H⟩ := H
  refine ⟨z1, rfl, ?_⟩
  refine kw_istore_n dX11_does_6 (Nat.le_of_ble_eq_true rfl) ?_
  refine kw_iload_n dX11_does_7 rfl ?_
  have o4 := H.1
  have H := H.2
  refine kw_if_ge 13 dX11_does_8 (by decide) o4 (fun h3 => ?_) (fun h3 => ?_)
  · have H := H.1 h3
    refine kw_aload_n dX11_does_13 rfl ?_
    refine k2_callV0N (ci := 9) (N := 38) (T := TX11) rfl (lsh_558 hL) m_X11_remembers dX11_does_14 wl_X11_295 (Nat.le_of_ble_eq_true rfl) (kC2_mono H (fun r c6 H => ?_))
    obtain ⟨rfl, H⟩ := H
    refine ⟨rfl, ?_⟩
    refine kw_aload_n dX11_does_17 rfl ?_
    refine k2_callV0N (ci := 9) (N := 38) (T := TX11) rfl (lsh_558 hL) m_X11_takesDraft dX11_does_18 wl_X11_298 (Nat.le_of_ble_eq_true rfl) (kC2_mono H (fun r c8 H => ?_))
    obtain ⟨rfl, H⟩ := H
    refine ⟨rfl, ?_⟩
    refine kw_iload_n dX11_does_21 rfl ?_
    refine k2_iret dX11_does_22 rfl H
  · have H := H.2 h3
    refine kw_iload_n dX11_does_11 rfl ?_
    refine k2_iret dX11_does_12 rfl H
set_option maxRecDepth 4000 in
theorem v_X11_work {G : KG} {S0 : KSh} (hL : kLay S0) {d : Nat} {P : Option AV → KMem → Prop} {c : KMem} {x1 : Int} (r1 : -2147483648 ≤ x1 ∧ x1 < 2147483648) (H : ((1 ≤ x1 ∧ x1 ≤ 120) → ((k32 (c 558 21)) ∧ ((x1 ≤ (c 558 21) → (kC2 G S0 kM_X11_does (d + 10) [kA 558, kI x1, kI 0] (kup c 558 21 0) (kRI (fun z5 c6 => P (some (kI z5)) c6)))) ∧ ((c 558 21) < x1 → (P (some (kI (-1))) c))))) ∧ (¬ (1 ≤ x1 ∧ x1 ≤ 120) → (P (some (kI (-1))) c))) : kC2 G S0 kM_X11_work (d + 11) [kA 558, kI x1] c P := by
  refine k2_met (by decide) rfl (Nat.le_of_ble_eq_true rfl) (l0 := [some (kA 558), some (kI x1)]) rfl ?_
  refine kw_iload_n dX11_work_0 rfl ?_
  refine kw_iconst dX11_work_1 ?_
  refine kw_bipush dX11_work_2 (by decide) ?_
  refine k2_callS3I m_X11_in dX11_work_4 wl_X11_100 (Nat.le_of_ble_eq_true rfl) (s_X11_in hL (k32i (by omega)) (k32i (by omega)) (k32i (by omega)) (fun h1 => ⟨_, rfl, ?_⟩) (fun h1 => ⟨_, rfl, ?_⟩))
  · have H := H.1 h1
    refine kw_if_eq 18 dX11_work_7 (by decide) (k32i (by omega)) (fun h2 => absurd h2 (by decide)) (fun _ => ?_)
    refine kw_iload_n dX11_work_10 rfl ?_
    refine kw_aload_n dX11_work_11 rfl ?_
    refine k2_getI fd_X11_21 dX11_work_12 wf_X11_177 (lsh_558 hL) ?_
    have o4 := H.1
    have H := H.2
    refine kw_icmp_le 20 dX11_work_15 (by decide) (k32i (by omega)) o4 (fun h3 => ?_) (fun h3 => ?_)
    · have H := H.1 h3
      refine kw_aload_n dX11_work_20 rfl ?_
      refine kw_iconst dX11_work_21 ?_
      refine k2_putI fp_X11_21 dX11_work_22 wf_X11_177 (lsh_558 hL) ?_
      refine kw_aload_n dX11_work_25 rfl ?_
      refine kw_iload_n dX11_work_26 rfl ?_
      refine kw_iconst dX11_work_27 ?_
      refine k2_callV2I (ci := 9) (N := 38) (T := TX11) rfl (lsh_558 hL) m_X11_does dX11_work_28 wl_X11_301 (Nat.le_of_ble_eq_true rfl) (kC2_mono H (fun r c6 H => ?_))
      obtain ⟨z5, rfl, H⟩ := H
      refine ⟨z5, rfl, ?_⟩
      refine k2_iret dX11_work_31 rfl H
    · have H := H.2 h3
      refine kw_iconst dX11_work_18 ?_
      refine k2_iret dX11_work_19 rfl H
  · have H := H.2 h1
    refine kw_if_eq 18 dX11_work_7 (by decide) (k32i (by omega)) (fun _ => ?_) (fun h7 => absurd h7 (by decide))
    refine kw_iconst dX11_work_18 ?_
    refine k2_iret dX11_work_19 rfl H
set_option maxRecDepth 4000 in
theorem v_X11_run {G : KG} {S0 : KSh} (hL : kLay S0) {d : Nat} {P : Option AV → KMem → Prop} {c : KMem}  (H : (k32 (c 558 22)) ∧ (((c 558 22) ≠ 0 → (kC2 G S0 kM_X11_does (d + 10) [kA 558, kI (c 558 22), kI 1] c (kRI (fun z3 c4 => P (some (kI z3)) c4)))) ∧ ((c 558 22) = 0 → (P (some (kI (-2))) c)))) : kC2 G S0 kM_X11_run (d + 11) [kA 558] c P := by
  refine k2_met (by decide) rfl (Nat.le_of_ble_eq_true rfl) (l0 := [some (kA 558)]) rfl ?_
  refine kw_aload_n dX11_run_0 rfl ?_
  refine k2_getI fd_X11_22 dX11_run_1 wf_X11_304 (lsh_558 hL) ?_
  have o2 := H.1
  have H := H.2
  refine kw_if_ne 12 dX11_run_4 (by decide) o2 (fun h1 => ?_) (fun h1 => ?_)
  · have H := H.1 h1
    refine kw_aload_n dX11_run_12 rfl ?_
    refine kw_aload_n dX11_run_13 rfl ?_
    refine k2_getI fd_X11_22 dX11_run_14 wf_X11_304 (lsh_558 hL) ?_
    refine kw_iconst dX11_run_17 ?_
    refine k2_callV2I (ci := 9) (N := 38) (T := TX11) rfl (lsh_558 hL) m_X11_does dX11_run_18 wl_X11_301 (Nat.le_of_ble_eq_true rfl) (kC2_mono H (fun r c4 H => ?_))
    obtain ⟨z3, rfl, H⟩ := H
    refine ⟨z3, rfl, ?_⟩
    refine k2_iret dX11_run_21 rfl H
  · have H := H.2 h1
    refine kw_bipush dX11_run_7 (by decide) ?_
    refine kw_goto 21 dX11_run_9 (by decide) ?_
    refine k2_iret dX11_run_21 rfl H
set_option maxRecDepth 4000 in
theorem v_X11_trials {G : KG} {S0 : KSh} (hL : kLay S0) {d : Nat} {P : Option AV → KMem → Prop} {c : KMem} {x1 x2 x3 x4 : Int} (r1 : -2147483648 ≤ x1 ∧ x1 < 2147483648) (r2 : -2147483648 ≤ x2 ∧ x2 < 2147483648) (r3 : -2147483648 ≤ x3 ∧ x3 < 2147483648) (r4 : -2147483648 ≤ x4 ∧ x4 < 2147483648) (H : ((0 ≤ x1 ∧ x1 ≤ 6) → (((1 ≤ x2 ∧ x2 ≤ 20) → (((0 ≤ x3 ∧ x3 ≤ 11) → ((((-1) ≤ x4 ∧ x4 ≤ 42) → ((k32 (c 558 22)) ∧ (((c 558 22) ≠ 0 → (kC2 G S0 kM_X11_saves (d + 9) [kA 558] c (kRN (fun c12 => kW2 G S0 kM_X11_trials (d + 10) 69 [some (kA 558), some (kI x1), some (kI x2), some (kI x3), some (kI x4), some (kI (c 558 12)), some (kI 0), some (kI 0), none, none] [] c12 P)))) ∧ ((c 558 22) = 0 → (P (some (kI (-2))) c))))) ∧ (¬ ((-1) ≤ x4 ∧ x4 ≤ 42) → (P (some (kI (-1))) c)))) ∧ (¬ (0 ≤ x3 ∧ x3 ≤ 11) → (P (some (kI (-1))) c)))) ∧ (¬ (1 ≤ x2 ∧ x2 ≤ 20) → (P (some (kI (-1))) c)))) ∧ (¬ (0 ≤ x1 ∧ x1 ≤ 6) → (P (some (kI (-1))) c))) : kC2 G S0 kM_X11_trials (d + 10) [kA 558, kI x1, kI x2, kI x3, kI x4] c P := by
  refine k2_met (by decide) rfl (Nat.le_of_ble_eq_true rfl) (l0 := [some (kA 558), some (kI x1), some (kI x2), some (kI x3), some (kI x4), none, none, none, none, none]) rfl ?_
  refine kw_iload_n dX11_trials_0 rfl ?_
  refine kw_iconst dX11_trials_1 ?_
  refine kw_bipush dX11_trials_2 (by decide) ?_
  refine k2_callS3I m_X11_in dX11_trials_4 wl_X11_100 (Nat.le_of_ble_eq_true rfl) (s_X11_in hL (k32i (by omega)) (k32i (by omega)) (k32i (by omega)) (fun h1 => ⟨_, rfl, ?_⟩) (fun h1 => ⟨_, rfl, ?_⟩))
  · have H := H.1 h1
    refine kw_if_eq 41 dX11_trials_7 (by decide) (k32i (by omega)) (fun h2 => absurd h2 (by decide)) (fun _ => ?_)
    refine kw_iload_n dX11_trials_10 rfl ?_
    refine kw_iconst dX11_trials_11 ?_
    refine kw_bipush dX11_trials_12 (by decide) ?_
    refine k2_callS3I m_X11_in dX11_trials_14 wl_X11_100 (Nat.le_of_ble_eq_true rfl) (s_X11_in hL (k32i (by omega)) (k32i (by omega)) (k32i (by omega)) (fun h3 => ⟨_, rfl, ?_⟩) (fun h3 => ⟨_, rfl, ?_⟩))
    · have H := H.1 h3
      refine kw_if_eq 41 dX11_trials_17 (by decide) (k32i (by omega)) (fun h4 => absurd h4 (by decide)) (fun _ => ?_)
      refine kw_iload_n dX11_trials_20 rfl ?_
      refine kw_iconst dX11_trials_21 ?_
      refine kw_bipush dX11_trials_22 (by decide) ?_
      refine k2_callS3I m_X11_in dX11_trials_24 wl_X11_100 (Nat.le_of_ble_eq_true rfl) (s_X11_in hL (k32i (by omega)) (k32i (by omega)) (k32i (by omega)) (fun h5 => ⟨_, rfl, ?_⟩) (fun h5 => ⟨_, rfl, ?_⟩))
      · have H := H.1 h5
        refine kw_if_eq 41 dX11_trials_27 (by decide) (k32i (by omega)) (fun h6 => absurd h6 (by decide)) (fun _ => ?_)
        refine kw_iload dX11_trials_30 rfl ?_
        refine kw_iconst dX11_trials_32 ?_
        refine kw_bipush dX11_trials_33 (by decide) ?_
        refine k2_callS3I m_X11_in dX11_trials_35 wl_X11_100 (Nat.le_of_ble_eq_true rfl) (s_X11_in hL (k32i (by omega)) (k32i (by omega)) (k32i (by omega)) (fun h7 => ⟨_, rfl, ?_⟩) (fun h7 => ⟨_, rfl, ?_⟩))
        · have H := H.1 h7
          refine kw_if_ne 43 dX11_trials_38 (by decide) (k32i (by omega)) (fun _ => ?_) (fun h8 => absurd h8 (by decide))
          refine kw_aload_n dX11_trials_43 rfl ?_
          refine k2_getI fd_X11_22 dX11_trials_44 wf_X11_304 (lsh_558 hL) ?_
          have o10 := H.1
          have H := H.2
          refine kw_if_ne 53 dX11_trials_47 (by decide) o10 (fun h9 => ?_) (fun h9 => ?_)
          · have H := H.1 h9
            refine kw_aload_n dX11_trials_53 rfl ?_
            refine k2_getI fd_X11_12 dX11_trials_54 wf_X11_68 (lsh_558 hL) ?_
            refine kw_istore dX11_trials_57 (Nat.le_of_ble_eq_true rfl) ?_
            refine kw_iconst dX11_trials_59 ?_
            refine kw_istore dX11_trials_60 (Nat.le_of_ble_eq_true rfl) ?_
            refine kw_aload_n dX11_trials_62 rfl ?_
            refine k2_callV0N (ci := 9) (N := 38) (T := TX11) rfl (lsh_558 hL) m_X11_saves dX11_trials_63 wl_X11_483 (Nat.le_of_ble_eq_true rfl) (kC2_mono H (fun r c12 H => ?_))
            obtain ⟨rfl, H⟩ := H
            refine ⟨rfl, ?_⟩
            refine kw_iconst dX11_trials_66 ?_
            refine kw_istore dX11_trials_67 (Nat.le_of_ble_eq_true rfl) ?_
            exact kw_forget (ls' := [some (kA 558), some (kI x1), some (kI x2), some (kI x3), some (kI x4), some (kI (c 558 12)), some (kI 0), some (kI 0), none, none]) ⟨Or.inr rfl, ⟨Or.inr rfl, ⟨Or.inr rfl, ⟨Or.inr rfl, ⟨Or.inr rfl, ⟨Or.inr rfl, ⟨Or.inr rfl, ⟨Or.inr rfl, ⟨Or.inr rfl, ⟨Or.inr rfl, trivial⟩⟩⟩⟩⟩⟩⟩⟩⟩⟩ H
          · have H := H.2 h9
            refine kw_bipush dX11_trials_50 (by decide) ?_
            refine k2_iret dX11_trials_52 rfl H
        · have H := H.2 h7
          refine kw_if_ne 43 dX11_trials_38 (by decide) (k32i (by omega)) (fun h13 => absurd h13 (by decide)) (fun _ => ?_)
          refine kw_iconst dX11_trials_41 ?_
          refine k2_iret dX11_trials_42 rfl H
      · have H := H.2 h5
        refine kw_if_eq 41 dX11_trials_27 (by decide) (k32i (by omega)) (fun _ => ?_) (fun h14 => absurd h14 (by decide))
        refine kw_iconst dX11_trials_41 ?_
        refine k2_iret dX11_trials_42 rfl H
    · have H := H.2 h3
      refine kw_if_eq 41 dX11_trials_17 (by decide) (k32i (by omega)) (fun _ => ?_) (fun h15 => absurd h15 (by decide))
      refine kw_iconst dX11_trials_41 ?_
      refine k2_iret dX11_trials_42 rfl H
  · have H := H.2 h1
    refine kw_if_eq 41 dX11_trials_7 (by decide) (k32i (by omega)) (fun _ => ?_) (fun h16 => absurd h16 (by decide))
    refine kw_iconst dX11_trials_41 ?_
    refine k2_iret dX11_trials_42 rfl H
set_option maxRecDepth 4000 in
theorem v_X11_trials_69 {G : KG} {S0 : KSh} (hL : kLay S0) {d : Nat} {P : Option AV → KMem → Prop} {c : KMem} {x1 x2 x3 x4 x5 x6 x7 : Int} (r1 : -2147483648 ≤ x1 ∧ x1 < 2147483648) (r2 : -2147483648 ≤ x2 ∧ x2 < 2147483648) (r3 : -2147483648 ≤ x3 ∧ x3 < 2147483648) (r4 : -2147483648 ≤ x4 ∧ x4 < 2147483648) (r5 : -2147483648 ≤ x5 ∧ x5 < 2147483648) (r6 : -2147483648 ≤ x6 ∧ x6 < 2147483648) (r7 : 0 ≤ x7 ∧ x7 < 2147483648) (hp : 0 ≤ x1 ∧ x1 ≤ 6 ∧ 1 ≤ x2 ∧ x2 ≤ 20 ∧ 0 ≤ x3 ∧ x3 ≤ 11 ∧ -1 ≤ x4 ∧ x4 ≤ 42 ∧ 0 ≤ x6 ∧ x6 ≤ 20) (H : (x2 ≤ x7 → (P (some (kI x6)) (kup c 558 12 x5))) ∧ (x7 < x2 → (kC2 G S0 kM_X11_drawsPlaces (d + 9) [kA 558, kI x1] c (kRN (fun c19 => kC2 G S0 kM_X11_drafts (d + 9) [kA 558, kI (c19 558 22), kI 1] c19 (kRI (fun z20 c21 => (k32 z20) ∧ ((z20 < 0 → ((x4 ≠ (-1) → (kW2 G S0 kM_X11_trials (d + 10) 155 [some (kA 558), some (kI x1), some (kI x2), some (kI x3), some (kI x4), some (kI x5), some (kI x6), some (kI x7), none, none] [] c21 P)) ∧ (x4 = (-1) → (kW2 G S0 kM_X11_trials (d + 10) 156 [some (kA 558), some (kI x1), some (kI x2), some (kI x3), some (kI x4), some (kI x5), some (kI x6), some (kI x7), none, none] [kI 1] c21 P)))) ∧ (0 ≤ z20 → (kC2 G S0 kM_X11_takesDraft (d + 9) [kA 558] c21 (kRN (fun c30 => (x4 ≠ (-1) → ((k32 (c30 564 x3)) ∧ (((c30 564 x3) = 0 → (kW2 G S0 kM_X11_trials (d + 10) 155 [some (kA 558), some (kI x1), some (kI x2), some (kI x3), some (kI x4), some (kI x5), some (kI x6), some (kI x7), none, none] [] c30 P)) ∧ ((c30 564 x3) ≠ 0 → (kC2 G S0 kM_X11_kindOf (d + 9) [kA 558, kI x3] c30 (kRI (fun z35 c36 => (k32 z35) ∧ ((z35 ≠ x4 → (kW2 G S0 kM_X11_trials (d + 10) 155 [some (kA 558), some (kI x1), some (kI x2), some (kI x3), some (kI x4), some (kI x5), some (kI x6), some (kI x7), none, none] [] c36 P)) ∧ (z35 = x4 → (kW2 G S0 kM_X11_trials (d + 10) 156 [some (kA 558), some (kI x1), some (kI x2), some (kI x3), some (kI x4), some (kI x5), some (kI x6), some (kI x7), none, none] [kI 1] c36 P)))))))))) ∧ (x4 = (-1) → (kW2 G S0 kM_X11_trials (d + 10) 156 [some (kA 558), some (kI x1), some (kI x2), some (kI x3), some (kI x4), some (kI x5), some (kI x6), some (kI x7), none, none] [kI 0] c30 P)))))))))))))) : kW2 G S0 kM_X11_trials (d + 10) 69 [some (kA 558), some (kI x1), some (kI x2), some (kI x3), some (kI x4), some (kI x5), some (kI x6), some (kI x7), none, none] [] c P := by
  refine kw_iload dX11_trials_69 rfl ?_
  refine kw_iload_n dX11_trials_71 rfl ?_
  refine kw_icmp_ge 179 dX11_trials_72 (by decide) (k32i (by omega)) (k32i (by omega)) (fun h17 => ?_) (fun h17 => ?_)
  · have H := H.1 h17
    refine kw_aload_n dX11_trials_179 rfl ?_
    refine kw_iload dX11_trials_180 rfl ?_
    refine k2_putI fp_X11_12 dX11_trials_182 wf_X11_68 (lsh_558 hL) ?_
    refine kw_iload dX11_trials_185 rfl ?_
    refine k2_iret dX11_trials_187 rfl H
  · have H := H.2 h17
    refine kw_aload_n dX11_trials_75 rfl ?_
    refine kw_iload_n dX11_trials_76 rfl ?_
    refine k2_callV1N (ci := 9) (N := 38) (T := TX11) rfl (lsh_558 hL) m_X11_drawsPlaces dX11_trials_77 wl_X11_477 (Nat.le_of_ble_eq_true rfl) (kC2_mono H (fun r c19 H => ?_))
    obtain ⟨rfl, H⟩ := H
    refine ⟨rfl, ?_⟩
    refine kw_aload_n dX11_trials_80 rfl ?_
    refine kw_aload_n dX11_trials_81 rfl ?_
    refine k2_getI fd_X11_22 dX11_trials_82 wf_X11_304 (lsh_558 hL) ?_
    refine kw_iconst dX11_trials_85 ?_
    refine k2_callV2I (ci := 9) (N := 38) (T := TX11) rfl (lsh_558 hL) m_X11_drafts dX11_trials_86 wl_X11_291 (Nat.le_of_ble_eq_true rfl) (kC2_mono H (fun r c21 H => ?_))
    obtain ⟨z20, rfl, H⟩ := H
    refine ⟨z20, rfl, ?_⟩
    have o23 := H.1
    have H := H.2
    refine kw_if_lt 96 dX11_trials_89 (by decide) o23 (fun h22 => ?_) (fun h22 => ?_)
    · have H := H.1 h22
      refine kw_iconst dX11_trials_96 ?_
      refine kw_istore dX11_trials_97 (Nat.le_of_ble_eq_true rfl) ?_
      refine kw_iload dX11_trials_99 rfl ?_
      refine kw_if_eq 108 dX11_trials_101 (by decide) (k32i (by omega)) (fun _ => ?_) (fun h24 => absurd h24 (by decide))
      refine kw_iload dX11_trials_108 rfl ?_
      refine kw_iconst dX11_trials_110 ?_
      refine kw_icmp_ne 127 dX11_trials_111 (by decide) (k32i (by omega)) (k32i (by omega)) (fun h25 => ?_) (fun h25 => ?_)
      · have H := H.1 h25
        refine kw_iload dX11_trials_127 rfl ?_
        refine kw_if_eq 155 dX11_trials_129 (by decide) (k32i (by omega)) (fun _ => ?_) (fun h26 => absurd h26 (by decide))
        exact kw_forget (ls' := [some (kA 558), some (kI x1), some (kI x2), some (kI x3), some (kI x4), some (kI x5), some (kI x6), some (kI x7), none, none]) ⟨Or.inr rfl, ⟨Or.inr rfl, ⟨Or.inr rfl, ⟨Or.inr rfl, ⟨Or.inr rfl, ⟨Or.inr rfl, ⟨Or.inr rfl, ⟨Or.inr rfl, ⟨Or.inl rfl, ⟨Or.inr rfl, trivial⟩⟩⟩⟩⟩⟩⟩⟩⟩⟩ H
      · have H := H.2 h25
        refine kw_iload dX11_trials_114 rfl ?_
        refine kw_if_ne 123 dX11_trials_116 (by decide) (k32i (by omega)) (fun h27 => absurd h27 (by decide)) (fun _ => ?_)
        refine kw_iconst dX11_trials_119 ?_
        refine kw_goto 156 dX11_trials_120 (by decide) ?_
        exact kw_forget (ls' := [some (kA 558), some (kI x1), some (kI x2), some (kI x3), some (kI x4), some (kI x5), some (kI x6), some (kI x7), none, none]) ⟨Or.inr rfl, ⟨Or.inr rfl, ⟨Or.inr rfl, ⟨Or.inr rfl, ⟨Or.inr rfl, ⟨Or.inr rfl, ⟨Or.inr rfl, ⟨Or.inr rfl, ⟨Or.inl rfl, ⟨Or.inr rfl, trivial⟩⟩⟩⟩⟩⟩⟩⟩⟩⟩ H
    · have H := H.2 h22
      refine kw_iconst dX11_trials_92 ?_
      refine kw_goto 97 dX11_trials_93 (by decide) ?_
      refine kw_istore dX11_trials_97 (Nat.le_of_ble_eq_true rfl) ?_
      refine kw_iload dX11_trials_99 rfl ?_
      refine kw_if_eq 108 dX11_trials_101 (by decide) (k32i (by omega)) (fun h28 => absurd h28 (by decide)) (fun _ => ?_)
      refine kw_aload_n dX11_trials_104 rfl ?_
      refine k2_callV0N (ci := 9) (N := 38) (T := TX11) rfl (lsh_558 hL) m_X11_takesDraft dX11_trials_105 wl_X11_298 (Nat.le_of_ble_eq_true rfl) (kC2_mono H (fun r c30 H => ?_))
      obtain ⟨rfl, H⟩ := H
      refine ⟨rfl, ?_⟩
      refine kw_iload dX11_trials_108 rfl ?_
      refine kw_iconst dX11_trials_110 ?_
      refine kw_icmp_ne 127 dX11_trials_111 (by decide) (k32i (by omega)) (k32i (by omega)) (fun h31 => ?_) (fun h31 => ?_)
      · have H := H.1 h31
        refine kw_iload dX11_trials_127 rfl ?_
        refine kw_if_eq 155 dX11_trials_129 (by decide) (k32i (by omega)) (fun h32 => absurd h32 (by decide)) (fun _ => ?_)
        refine kw_aload_n dX11_trials_132 rfl ?_
        refine k2_getR fd_X11_5 dX11_trials_133 wf_X11_25 (lsh_558 hL) (lrf_558_5 hL) ?_
        refine kw_iload_n dX11_trials_136 rfl ?_
        refine k2_zald dX11_trials_137 (lsh_564 hL) (by omega) (by omega) ?_
        have o34 := H.1
        have H := H.2
        refine kw_if_eq 155 dX11_trials_138 (by decide) o34 (fun h33 => ?_) (fun h33 => ?_)
        · have H := H.1 h33
          exact kw_forget (ls' := [some (kA 558), some (kI x1), some (kI x2), some (kI x3), some (kI x4), some (kI x5), some (kI x6), some (kI x7), none, none]) ⟨Or.inr rfl, ⟨Or.inr rfl, ⟨Or.inr rfl, ⟨Or.inr rfl, ⟨Or.inr rfl, ⟨Or.inr rfl, ⟨Or.inr rfl, ⟨Or.inr rfl, ⟨Or.inl rfl, ⟨Or.inr rfl, trivial⟩⟩⟩⟩⟩⟩⟩⟩⟩⟩ H
        · have H := H.2 h33
          refine kw_aload_n dX11_trials_141 rfl ?_
          refine kw_iload_n dX11_trials_142 rfl ?_
          refine k2_callV1I (ci := 9) (N := 38) (T := TX11) rfl (lsh_558 hL) m_X11_kindOf dX11_trials_143 wl_X11_140 (Nat.le_of_ble_eq_true rfl) (kC2_mono H (fun r c36 H => ?_))
          obtain ⟨z35, rfl, H⟩ := H
          refine ⟨z35, rfl, ?_⟩
          refine kw_iload dX11_trials_146 rfl ?_
          have o38 := H.1
          have H := H.2
          refine kw_icmp_ne 155 dX11_trials_148 (by decide) o38 (k32i (by omega)) (fun h37 => ?_) (fun h37 => ?_)
          · have H := H.1 h37
            exact kw_forget (ls' := [some (kA 558), some (kI x1), some (kI x2), some (kI x3), some (kI x4), some (kI x5), some (kI x6), some (kI x7), none, none]) ⟨Or.inr rfl, ⟨Or.inr rfl, ⟨Or.inr rfl, ⟨Or.inr rfl, ⟨Or.inr rfl, ⟨Or.inr rfl, ⟨Or.inr rfl, ⟨Or.inr rfl, ⟨Or.inl rfl, ⟨Or.inr rfl, trivial⟩⟩⟩⟩⟩⟩⟩⟩⟩⟩ H
          · have H := H.2 h37
            refine kw_iconst dX11_trials_151 ?_
            refine kw_goto 156 dX11_trials_152 (by decide) ?_
            exact kw_forget (ls' := [some (kA 558), some (kI x1), some (kI x2), some (kI x3), some (kI x4), some (kI x5), some (kI x6), some (kI x7), none, none]) ⟨Or.inr rfl, ⟨Or.inr rfl, ⟨Or.inr rfl, ⟨Or.inr rfl, ⟨Or.inr rfl, ⟨Or.inr rfl, ⟨Or.inr rfl, ⟨Or.inr rfl, ⟨Or.inl rfl, ⟨Or.inr rfl, trivial⟩⟩⟩⟩⟩⟩⟩⟩⟩⟩ H
      · have H := H.2 h31
        refine kw_iload dX11_trials_114 rfl ?_
        refine kw_if_ne 123 dX11_trials_116 (by decide) (k32i (by omega)) (fun _ => ?_) (fun h39 => absurd h39 (by decide))
        refine kw_iconst dX11_trials_123 ?_
        refine kw_goto 156 dX11_trials_124 (by decide) ?_
        exact kw_forget (ls' := [some (kA 558), some (kI x1), some (kI x2), some (kI x3), some (kI x4), some (kI x5), some (kI x6), some (kI x7), none, none]) ⟨Or.inr rfl, ⟨Or.inr rfl, ⟨Or.inr rfl, ⟨Or.inr rfl, ⟨Or.inr rfl, ⟨Or.inr rfl, ⟨Or.inr rfl, ⟨Or.inr rfl, ⟨Or.inl rfl, ⟨Or.inr rfl, trivial⟩⟩⟩⟩⟩⟩⟩⟩⟩⟩ H
set_option maxRecDepth 4000 in
theorem v_X11_trials_155 {G : KG} {S0 : KSh} (hL : kLay S0) {d : Nat} {P : Option AV → KMem → Prop} {c : KMem} {x1 x2 x3 x4 x5 x6 x7 : Int} (r1 : -2147483648 ≤ x1 ∧ x1 < 2147483648) (r2 : -2147483648 ≤ x2 ∧ x2 < 2147483648) (r3 : -2147483648 ≤ x3 ∧ x3 < 2147483648) (r4 : -2147483648 ≤ x4 ∧ x4 < 2147483648) (r5 : -2147483648 ≤ x5 ∧ x5 < 2147483648) (r6 : -2147483648 ≤ x6 ∧ x6 < 2147483648) (r7 : 0 ≤ x7 ∧ x7 < 2147483648) (H : kW2 G S0 kM_X11_trials (d + 10) 156 [some (kA 558), some (kI x1), some (kI x2), some (kI x3), some (kI x4), some (kI x5), some (kI x6), some (kI x7), none, none] [kI 0] c P) : kW2 G S0 kM_X11_trials (d + 10) 155 [some (kA 558), some (kI x1), some (kI x2), some (kI x3), some (kI x4), some (kI x5), some (kI x6), some (kI x7), none, none] [] c P := by
  refine kw_iconst dX11_trials_155 ?_
  exact kw_forget (ls' := [some (kA 558), some (kI x1), some (kI x2), some (kI x3), some (kI x4), some (kI x5), some (kI x6), some (kI x7), none, none]) ⟨Or.inr rfl, ⟨Or.inr rfl, ⟨Or.inr rfl, ⟨Or.inr rfl, ⟨Or.inr rfl, ⟨Or.inr rfl, ⟨Or.inr rfl, ⟨Or.inr rfl, ⟨Or.inr rfl, ⟨Or.inr rfl, trivial⟩⟩⟩⟩⟩⟩⟩⟩⟩⟩ H
set_option maxRecDepth 4000 in
theorem v_X11_trials_156 {G : KG} {S0 : KSh} (hL : kLay S0) {d : Nat} {P : Option AV → KMem → Prop} {c : KMem} {y0 : Int} {x1 x2 x3 x4 x5 x6 x7 : Int} (r1 : -2147483648 ≤ x1 ∧ x1 < 2147483648) (r2 : -2147483648 ≤ x2 ∧ x2 < 2147483648) (r3 : -2147483648 ≤ x3 ∧ x3 < 2147483648) (r4 : -2147483648 ≤ x4 ∧ x4 < 2147483648) (r5 : -2147483648 ≤ x5 ∧ x5 < 2147483648) (r6 : -2147483648 ≤ x6 ∧ x6 < 2147483648) (r7 : 0 ≤ x7 ∧ x7 < 2147483648) (H : (k32 y0) ∧ ((y0 = 0 → (kC2 G S0 kM_X11_goesBack (d + 9) [kA 558] c (kRN (fun c43 => kW2 G S0 kM_X11_trials (d + 10) 69 [some (kA 558), some (kI x1), some (kI x2), some (kI x3), some (kI x4), some (kI x5), some (kI x6), some (kI (x7 + 1)), none, none] [] c43 P)))) ∧ (y0 ≠ 0 → (kC2 G S0 kM_X11_goesBack (d + 9) [kA 558] c (kRN (fun c45 => kW2 G S0 kM_X11_trials (d + 10) 69 [some (kA 558), some (kI x1), some (kI x2), some (kI x3), some (kI x4), some (kI x5), some (kI (x6 + 1)), some (kI (x7 + 1)), none, none] [] c45 P)))))) : kW2 G S0 kM_X11_trials (d + 10) 156 [some (kA 558), some (kI x1), some (kI x2), some (kI x3), some (kI x4), some (kI x5), some (kI x6), some (kI x7), none, none] [kI y0] c P := by
  refine kw_istore dX11_trials_156 (Nat.le_of_ble_eq_true rfl) ?_
  refine kw_iload dX11_trials_158 rfl ?_
  have o41 := H.1
  have H := H.2
  refine kw_if_eq 169 dX11_trials_160 (by decide) o41 (fun h40 => ?_) (fun h40 => ?_)
  · have H := H.1 h40
    refine kw_aload_n dX11_trials_169 rfl ?_
    refine k2_callV0N (ci := 9) (N := 38) (T := TX11) rfl (lsh_558 hL) m_X11_goesBack dX11_trials_170 wl_X11_486 (Nat.le_of_ble_eq_true rfl) (kC2_mono H (fun r c43 H => ?_))
    obtain ⟨rfl, H⟩ := H
    refine ⟨rfl, ?_⟩
    refine kw_iinc dX11_trials_173 rfl ?_
    refine kw_goto 69 dX11_trials_176 (by decide) ?_
    exact kw_forget (ls' := [some (kA 558), some (kI x1), some (kI x2), some (kI x3), some (kI x4), some (kI x5), some (kI x6), some (kI (x7 + 1)), none, none]) ⟨Or.inr rfl, ⟨Or.inr rfl, ⟨Or.inr rfl, ⟨Or.inr rfl, ⟨Or.inr rfl, ⟨Or.inr rfl, ⟨Or.inr rfl, ⟨Or.inr rfl, ⟨Or.inr rfl, ⟨Or.inl rfl, trivial⟩⟩⟩⟩⟩⟩⟩⟩⟩⟩ H
  · have H := H.2 h40
    refine kw_iload dX11_trials_163 rfl ?_
    refine kw_iconst dX11_trials_165 ?_
    refine kw_iadd dX11_trials_166 ?_
    refine kw_istore dX11_trials_167 (Nat.le_of_ble_eq_true rfl) ?_
    refine kw_aload_n dX11_trials_169 rfl ?_
    refine k2_callV0N (ci := 9) (N := 38) (T := TX11) rfl (lsh_558 hL) m_X11_goesBack dX11_trials_170 wl_X11_486 (Nat.le_of_ble_eq_true rfl) (kC2_mono H (fun r c45 H => ?_))
    obtain ⟨rfl, H⟩ := H
    refine ⟨rfl, ?_⟩
    refine kw_iinc dX11_trials_173 rfl ?_
    refine kw_goto 69 dX11_trials_176 (by decide) ?_
    exact kw_forget (ls' := [some (kA 558), some (kI x1), some (kI x2), some (kI x3), some (kI x4), some (kI x5), some (kI (x6 + 1)), some (kI (x7 + 1)), none, none]) ⟨Or.inr rfl, ⟨Or.inr rfl, ⟨Or.inr rfl, ⟨Or.inr rfl, ⟨Or.inr rfl, ⟨Or.inr rfl, ⟨Or.inr rfl, ⟨Or.inr rfl, ⟨Or.inr rfl, ⟨Or.inl rfl, trivial⟩⟩⟩⟩⟩⟩⟩⟩⟩⟩ H
