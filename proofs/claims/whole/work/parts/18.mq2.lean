set_option maxRecDepth 4000 in
theorem v_X11_isObject {G : KG} {S0 : KSh} (hL : kLay S0) {d : Nat} {P : Option AV → KMem → Prop} {c : KMem} {x1 : Int} (r1 : -2147483648 ≤ x1 ∧ x1 < 2147483648) (H : kC2 G S0 kM_X11_kindOf (d + 4) [kA 558, kI x1] c (kRI (fun z1 c2 => (k32 z1) ∧ (((kObj z1) → (P (some (kI 1)) c2)) ∧ (¬ (kObj z1) → (P (some (kI 0)) c2)))))) : kC2 G S0 kM_X11_isObject (d + 5) [kA 558, kI x1] c P := by
  refine k2_met (by decide) rfl (Nat.le_of_ble_eq_true rfl) (l0 := [some (kA 558), some (kI x1)]) rfl ?_
  refine kw_aload_n dX11_isObject_0 rfl ?_
  refine kw_iload_n dX11_isObject_1 rfl ?_
  refine k2_callV1I (ci := 9) (N := 38) (T := TX11) rfl (lsh_558 hL) m_X11_kindOf dX11_isObject_2 wl_X11_140 (Nat.le_of_ble_eq_true rfl) (kC2_mono H (fun r c2 H => ?_))
  obtain ⟨z1, rfl, H⟩ := H
  refine ⟨z1, rfl, ?_⟩
  have o3 := H.1
  have H := H.2
  refine k2_callS1I m_X11_isObjectKind dX11_isObject_5 wl_X11_143 (Nat.le_of_ble_eq_true rfl) (s_X11_isObjectKind hL o3 (fun h4 => ⟨_, rfl, ?_⟩) (fun h4 => ⟨_, rfl, ?_⟩))
  · have H := H.1 h4
    refine k2_zret dX11_isObject_8 rfl (Or.inr rfl) H
  · have H := H.2 h4
    refine k2_zret dX11_isObject_8 rfl (Or.inl rfl) H
set_option maxRecDepth 4000 in
theorem v_X11_isMirror {G : KG} {S0 : KSh} (hL : kLay S0) {d : Nat} {P : Option AV → KMem → Prop} {c : KMem} {x1 : Int} (r1 : -2147483648 ≤ x1 ∧ x1 < 2147483648) (H : kC2 G S0 kM_X11_kindOf (d + 4) [kA 558, kI x1] c (kRI (fun z1 c2 => (k32 z1) ∧ (((kMir z1) → (P (some (kI 1)) c2)) ∧ (¬ (kMir z1) → (P (some (kI 0)) c2)))))) : kC2 G S0 kM_X11_isMirror (d + 5) [kA 558, kI x1] c P := by
  refine k2_met (by decide) rfl (Nat.le_of_ble_eq_true rfl) (l0 := [some (kA 558), some (kI x1)]) rfl ?_
  refine kw_aload_n dX11_isMirror_0 rfl ?_
  refine kw_iload_n dX11_isMirror_1 rfl ?_
  refine k2_callV1I (ci := 9) (N := 38) (T := TX11) rfl (lsh_558 hL) m_X11_kindOf dX11_isMirror_2 wl_X11_140 (Nat.le_of_ble_eq_true rfl) (kC2_mono H (fun r c2 H => ?_))
  obtain ⟨z1, rfl, H⟩ := H
  refine ⟨z1, rfl, ?_⟩
  have o3 := H.1
  have H := H.2
  refine k2_callS1I m_X11_isMirrorKind dX11_isMirror_5 wl_X11_146 (Nat.le_of_ble_eq_true rfl) (s_X11_isMirrorKind hL o3 (fun h4 => ⟨_, rfl, ?_⟩) (fun h4 => ⟨_, rfl, ?_⟩))
  · have H := H.1 h4
    refine k2_zret dX11_isMirror_8 rfl (Or.inr rfl) H
  · have H := H.2 h4
    refine k2_zret dX11_isMirror_8 rfl (Or.inl rfl) H
set_option maxRecDepth 4000 in
theorem v_X11_standing {G : KG} {S0 : KSh} (hL : kLay S0) {d : Nat} {P : Option AV → KMem → Prop} {c : KMem}  (H : kW2 G S0 kM_X11_standing d 4 [some (kA 558), some (kI 0), some (kI 0)] [] c P) : kC2 G S0 kM_X11_standing d [kA 558] c P := by
  refine k2_met (by decide) rfl (Nat.le_of_ble_eq_true rfl) (l0 := [some (kA 558), none, none]) rfl ?_
  refine kw_iconst dX11_standing_0 ?_
  refine kw_istore_n dX11_standing_1 (Nat.le_of_ble_eq_true rfl) ?_
  refine kw_iconst dX11_standing_2 ?_
  refine kw_istore_n dX11_standing_3 (Nat.le_of_ble_eq_true rfl) ?_
  exact kw_forget (ls' := [some (kA 558), some (kI 0), some (kI 0)]) ⟨Or.inr rfl, ⟨Or.inr rfl, ⟨Or.inr rfl, trivial⟩⟩⟩ H
set_option maxRecDepth 4000 in
theorem v_X11_standing_4 {G : KG} {S0 : KSh} (hL : kLay S0) {d : Nat} {P : Option AV → KMem → Prop} {c : KMem} {x1 x2 : Int} (r1 : -2147483648 ≤ x1 ∧ x1 < 2147483648) (r2 : 0 ≤ x2 ∧ x2 < 2147483648) (H : (12 ≤ x2 → (P (some (kI x1)) c)) ∧ (x2 < 12 → ((k32 (c 564 x2)) ∧ (((c 564 x2) = 0 → (kW2 G S0 kM_X11_standing d 4 [some (kA 558), some (kI x1), some (kI (x2 + 1))] [] c P)) ∧ ((c 564 x2) ≠ 0 → (kW2 G S0 kM_X11_standing d 4 [some (kA 558), some (kI (x1 + 1)), some (kI (x2 + 1))] [] c P)))))) : kW2 G S0 kM_X11_standing d 4 [some (kA 558), some (kI x1), some (kI x2)] [] c P := by
  refine kw_iload_n dX11_standing_4 rfl ?_
  refine kw_bipush dX11_standing_5 (by decide) ?_
  refine kw_icmp_ge 29 dX11_standing_7 (by decide) (k32i (by omega)) (k32i (by omega)) (fun h1 => ?_) (fun h1 => ?_)
  · have H := H.1 h1
    refine kw_iload_n dX11_standing_29 rfl ?_
    refine k2_iret dX11_standing_30 rfl H
  · have H := H.2 h1
    refine kw_aload_n dX11_standing_10 rfl ?_
    refine k2_getR fd_X11_5 dX11_standing_11 wf_X11_25 (lsh_558 hL) (lrf_558_5 hL) ?_
    refine kw_iload_n dX11_standing_14 rfl ?_
    refine k2_zald dX11_standing_15 (lsh_564 hL) (by omega) (by omega) ?_
    have o3 := H.1
    have H := H.2
    refine kw_if_eq 23 dX11_standing_16 (by decide) o3 (fun h2 => ?_) (fun h2 => ?_)
    · have H := H.1 h2
      refine kw_iinc dX11_standing_23 rfl ?_
      refine kw_goto 4 dX11_standing_26 (by decide) ?_
      exact kw_forget (ls' := [some (kA 558), some (kI x1), some (kI (x2 + 1))]) ⟨Or.inr rfl, ⟨Or.inr rfl, ⟨Or.inr rfl, trivial⟩⟩⟩ H
    · have H := H.2 h2
      refine kw_iload_n dX11_standing_19 rfl ?_
      refine kw_iconst dX11_standing_20 ?_
      refine kw_iadd dX11_standing_21 ?_
      refine kw_istore_n dX11_standing_22 (Nat.le_of_ble_eq_true rfl) ?_
      refine kw_iinc dX11_standing_23 rfl ?_
      refine kw_goto 4 dX11_standing_26 (by decide) ?_
      exact kw_forget (ls' := [some (kA 558), some (kI (x1 + 1)), some (kI (x2 + 1))]) ⟨Or.inr rfl, ⟨Or.inr rfl, ⟨Or.inr rfl, trivial⟩⟩⟩ H
set_option maxRecDepth 4000 in
theorem v_X11_isSo {G : KG} {S0 : KSh} (hL : kLay S0) {d : Nat} {P : Option AV → KMem → Prop} {c : KMem} {x1 x2 : Int} (r1 : -2147483648 ≤ x1 ∧ x1 < 2147483648) (r2 : -2147483648 ≤ x2 ∧ x2 < 2147483648) (H : kC2 G S0 kM_X11_kindOf (d + 5) [kA 558, kI x1] c (kRI (fun z1 c2 => (x2 ≠ 0 ∧ x2 ≠ 1 ∧ x2 ≠ 2 ∧ x2 ≠ 3 → (kC2 G S0 kM_X11_isMotion (d + 5) [kA 558, kI x1] c2 (kRI (fun z4 c5 => (z4 = 0 ∨ z4 = 1) ∧ (P (some (kI z4)) c5))))) ∧ (x2 = 0 → (P (some (kI 1)) c2)) ∧ (x2 = 1 → ((k32 z1) ∧ ((z1 ≠ 2 → (P (some (kI 0)) c2)) ∧ (z1 = 2 → (P (some (kI 1)) c2))))) ∧ (x2 = 2 → ((k32 z1) ∧ (((kObj z1) → (P (some (kI 1)) c2)) ∧ (¬ (kObj z1) → (P (some (kI 0)) c2))))) ∧ (x2 = 3 → ((k32 z1) ∧ (((kMir z1) → (P (some (kI 1)) c2)) ∧ (¬ (kMir z1) → (P (some (kI 0)) c2)))))))) : kC2 G S0 kM_X11_isSo (d + 6) [kA 558, kI x1, kI x2] c P := by
  refine k2_met (by decide) rfl (Nat.le_of_ble_eq_true rfl) (l0 := [some (kA 558), some (kI x1), some (kI x2), none]) rfl ?_
  refine kw_aload_n dX11_isSo_0 rfl ?_
  refine kw_iload_n dX11_isSo_1 rfl ?_
  refine k2_callV1I (ci := 9) (N := 38) (T := TX11) rfl (lsh_558 hL) m_X11_kindOf dX11_isSo_2 wl_X11_140 (Nat.le_of_ble_eq_true rfl) (kC2_mono H (fun r c2 H => ?_))
  obtain ⟨z1, rfl, H⟩ := H
  refine ⟨z1, rfl, ?_⟩
  refine kw_istore_n dX11_isSo_5 (Nat.le_of_ble_eq_true rfl) ?_
  refine kw_iload_n dX11_isSo_6 rfl ?_
  refine k2_tsw dX11_isSo_7 (k32i (by omega)) 59 (by decide) (fun h3 => ?_) ?_
  · have H := H.1 (by omega)
    refine kw_aload_n dX11_isSo_59 rfl ?_
    refine kw_iload_n dX11_isSo_60 rfl ?_
    refine k2_callV1I (ci := 9) (N := 38) (T := TX11) rfl (lsh_558 hL) m_X11_isMotion dX11_isSo_61 wl_X11_155 (Nat.le_of_ble_eq_true rfl) (kC2_mono H (fun r c5 H => ?_))
    obtain ⟨z4, rfl, H⟩ := H
    refine ⟨z4, rfl, ?_⟩
    have o6 := H.1
    have H := H.2
    refine k2_zret dX11_isSo_64 rfl o6 H
  · intro j off tgt e1 e2 e3 e4
    have hj : j < 4 := by omega
    by_cases f0 : j = 0
    · subst f0
      have e5 : off = 29 := Option.some.inj (e3.symm.trans (by decide))
      obtain rfl : tgt = 36 := by omega
      have H := H.2.1 (by omega)
      refine kw_iconst dX11_isSo_36 ?_
      refine k2_zret dX11_isSo_37 rfl (Or.inr rfl) H
    by_cases f1 : j = 1
    · subst f1
      have e5 : off = 31 := Option.some.inj (e3.symm.trans (by decide))
      obtain rfl : tgt = 38 := by omega
      have H := H.2.2.1 (by omega)
      refine kw_iload_n dX11_isSo_38 rfl ?_
      refine kw_iconst dX11_isSo_39 ?_
      have o8 := H.1
      have H := H.2
      refine kw_icmp_ne 47 dX11_isSo_40 (by decide) o8 (k32i (by omega)) (fun h7 => ?_) (fun h7 => ?_)
      · have H := H.1 h7
        refine kw_iconst dX11_isSo_47 ?_
        refine k2_zret dX11_isSo_48 rfl (Or.inl rfl) H
      · have H := H.2 h7
        refine kw_iconst dX11_isSo_43 ?_
        refine kw_goto 48 dX11_isSo_44 (by decide) ?_
        refine k2_zret dX11_isSo_48 rfl (Or.inr rfl) H
    by_cases f2 : j = 2
    · subst f2
      have e5 : off = 42 := Option.some.inj (e3.symm.trans (by decide))
      obtain rfl : tgt = 49 := by omega
      have H := H.2.2.2.1 (by omega)
      refine kw_iload_n dX11_isSo_49 rfl ?_
      have o9 := H.1
      have H := H.2
      refine k2_callS1I m_X11_isObjectKind dX11_isSo_50 wl_X11_143 (Nat.le_of_ble_eq_true rfl) (s_X11_isObjectKind hL o9 (fun h10 => ⟨_, rfl, ?_⟩) (fun h10 => ⟨_, rfl, ?_⟩))
      · have H := H.1 h10
        refine k2_zret dX11_isSo_53 rfl (Or.inr rfl) H
      · have H := H.2 h10
        refine k2_zret dX11_isSo_53 rfl (Or.inl rfl) H
    by_cases f3 : j = 3
    · subst f3
      have e5 : off = 47 := Option.some.inj (e3.symm.trans (by decide))
      obtain rfl : tgt = 54 := by omega
      have H := H.2.2.2.2 (by omega)
      refine kw_iload_n dX11_isSo_54 rfl ?_
      have o11 := H.1
      have H := H.2
      refine k2_callS1I m_X11_isMirrorKind dX11_isSo_55 wl_X11_146 (Nat.le_of_ble_eq_true rfl) (s_X11_isMirrorKind hL o11 (fun h12 => ⟨_, rfl, ?_⟩) (fun h12 => ⟨_, rfl, ?_⟩))
      · have H := H.1 h12
        refine k2_zret dX11_isSo_58 rfl (Or.inr rfl) H
      · have H := H.2 h12
        refine k2_zret dX11_isSo_58 rfl (Or.inl rfl) H
    omega
set_option maxRecDepth 4000 in
theorem v_X11_letters {G : KG} {S0 : KSh} (hL : kLay S0) {d : Nat} {P : Option AV → KMem → Prop} {c : KMem} {x1 : Int} (r1 : -2147483648 ≤ x1 ∧ x1 < 2147483648) (H : ((0 ≤ x1 ∧ x1 ≤ 4) → (kW2 G S0 kM_X11_letters (d + 7) 15 [some (kA 558), some (kI x1), some (kI 0), some (kI 0)] [] c P)) ∧ (¬ (0 ≤ x1 ∧ x1 ≤ 4) → (P (some (kI (-1))) c))) : kC2 G S0 kM_X11_letters (d + 7) [kA 558, kI x1] c P := by
  refine k2_met (by decide) rfl (Nat.le_of_ble_eq_true rfl) (l0 := [some (kA 558), some (kI x1), none, none]) rfl ?_
  refine kw_iload_n dX11_letters_0 rfl ?_
  refine kw_iconst dX11_letters_1 ?_
  refine kw_iconst dX11_letters_2 ?_
  refine k2_callS3I m_X11_in dX11_letters_3 wl_X11_100 (Nat.le_of_ble_eq_true rfl) (s_X11_in hL (k32i (by omega)) (k32i (by omega)) (k32i (by omega)) (fun h1 => ⟨_, rfl, ?_⟩) (fun h1 => ⟨_, rfl, ?_⟩))
  · have H := H.1 h1
    refine kw_if_ne 11 dX11_letters_6 (by decide) (k32i (by omega)) (fun _ => ?_) (fun h2 => absurd h2 (by decide))
    refine kw_iconst dX11_letters_11 ?_
    refine kw_istore_n dX11_letters_12 (Nat.le_of_ble_eq_true rfl) ?_
    refine kw_iconst dX11_letters_13 ?_
    refine kw_istore_n dX11_letters_14 (Nat.le_of_ble_eq_true rfl) ?_
    exact kw_forget (ls' := [some (kA 558), some (kI x1), some (kI 0), some (kI 0)]) ⟨Or.inr rfl, ⟨Or.inr rfl, ⟨Or.inr rfl, ⟨Or.inr rfl, trivial⟩⟩⟩⟩ H
  · have H := H.2 h1
    refine kw_if_ne 11 dX11_letters_6 (by decide) (k32i (by omega)) (fun h3 => absurd h3 (by decide)) (fun _ => ?_)
    refine kw_iconst dX11_letters_9 ?_
    refine k2_iret dX11_letters_10 rfl H
set_option maxRecDepth 4000 in
theorem v_X11_letters_15 {G : KG} {S0 : KSh} (hL : kLay S0) {d : Nat} {P : Option AV → KMem → Prop} {c : KMem} {x1 x2 x3 : Int} (r1 : -2147483648 ≤ x1 ∧ x1 < 2147483648) (r2 : -2147483648 ≤ x2 ∧ x2 < 2147483648) (r3 : 0 ≤ x3 ∧ x3 < 2147483648) (H : (12 ≤ x3 → (P (some (kI x2)) c)) ∧ (x3 < 12 → ((k32 (c 564 x3)) ∧ (((c 564 x3) = 0 → (kW2 G S0 kM_X11_letters (d + 7) 45 [some (kA 558), some (kI x1), some (kI x2), some (kI x3)] [] c P)) ∧ ((c 564 x3) ≠ 0 → (kC2 G S0 kM_X11_isSo (d + 6) [kA 558, kI x3, kI x1] c (kRI (fun z7 c8 => (k32 z7) ∧ ((z7 = 0 → (kW2 G S0 kM_X11_letters (d + 7) 45 [some (kA 558), some (kI x1), some (kI x2), some (kI x3)] [] c8 P)) ∧ (z7 ≠ 0 → (kW2 G S0 kM_X11_letters (d + 7) 45 [some (kA 558), some (kI x1), some (kI (kor x2 (kshl 1 x3))), some (kI x3)] [] c8 P))))))))))) : kW2 G S0 kM_X11_letters (d + 7) 15 [some (kA 558), some (kI x1), some (kI x2), some (kI x3)] [] c P := by
  refine kw_iload_n dX11_letters_15 rfl ?_
  refine kw_bipush dX11_letters_16 (by decide) ?_
  refine kw_icmp_ge 51 dX11_letters_18 (by decide) (k32i (by omega)) (k32i (by omega)) (fun h4 => ?_) (fun h4 => ?_)
  · have H := H.1 h4
    refine kw_iload_n dX11_letters_51 rfl ?_
    refine k2_iret dX11_letters_52 rfl H
  · have H := H.2 h4
    refine kw_aload_n dX11_letters_21 rfl ?_
    refine k2_getR fd_X11_5 dX11_letters_22 wf_X11_25 (lsh_558 hL) (lrf_558_5 hL) ?_
    refine kw_iload_n dX11_letters_25 rfl ?_
    refine k2_zald dX11_letters_26 (lsh_564 hL) (by omega) (by omega) ?_
    have o6 := H.1
    have H := H.2
    refine kw_if_eq 45 dX11_letters_27 (by decide) o6 (fun h5 => ?_) (fun h5 => ?_)
    · have H := H.1 h5
      exact kw_forget (ls' := [some (kA 558), some (kI x1), some (kI x2), some (kI x3)]) ⟨Or.inr rfl, ⟨Or.inr rfl, ⟨Or.inr rfl, ⟨Or.inr rfl, trivial⟩⟩⟩⟩ H
    · have H := H.2 h5
      refine kw_aload_n dX11_letters_30 rfl ?_
      refine kw_iload_n dX11_letters_31 rfl ?_
      refine kw_iload_n dX11_letters_32 rfl ?_
      refine k2_callV2I (ci := 9) (N := 38) (T := TX11) rfl (lsh_558 hL) m_X11_isSo dX11_letters_33 wl_X11_158 (Nat.le_of_ble_eq_true rfl) (kC2_mono H (fun r c8 H => ?_))
      obtain ⟨z7, rfl, H⟩ := H
      refine ⟨z7, rfl, ?_⟩
      have o10 := H.1
      have H := H.2
      refine kw_if_eq 45 dX11_letters_36 (by decide) o10 (fun h9 => ?_) (fun h9 => ?_)
      · have H := H.1 h9
        exact kw_forget (ls' := [some (kA 558), some (kI x1), some (kI x2), some (kI x3)]) ⟨Or.inr rfl, ⟨Or.inr rfl, ⟨Or.inr rfl, ⟨Or.inr rfl, trivial⟩⟩⟩⟩ H
      · have H := H.2 h9
        refine kw_iload_n dX11_letters_39 rfl ?_
        refine kw_iconst dX11_letters_40 ?_
        refine kw_iload_n dX11_letters_41 rfl ?_
        refine kw_ishl dX11_letters_42 ?_
        refine kw_ior dX11_letters_43 ?_
        refine kw_istore_n dX11_letters_44 (Nat.le_of_ble_eq_true rfl) ?_
        exact kw_forget (ls' := [some (kA 558), some (kI x1), some (kI (kor x2 (kshl 1 x3))), some (kI x3)]) ⟨Or.inr rfl, ⟨Or.inr rfl, ⟨Or.inr rfl, ⟨Or.inr rfl, trivial⟩⟩⟩⟩ H
set_option maxRecDepth 4000 in
theorem v_X11_letters_45 {G : KG} {S0 : KSh} (hL : kLay S0) {d : Nat} {P : Option AV → KMem → Prop} {c : KMem} {x1 x2 x3 : Int} (r1 : -2147483648 ≤ x1 ∧ x1 < 2147483648) (r2 : -2147483648 ≤ x2 ∧ x2 < 2147483648) (r3 : 0 ≤ x3 ∧ x3 < 2147483648) (H : kW2 G S0 kM_X11_letters (d + 7) 15 [some (kA 558), some (kI x1), some (kI x2), some (kI (x3 + 1))] [] c P) : kW2 G S0 kM_X11_letters (d + 7) 45 [some (kA 558), some (kI x1), some (kI x2), some (kI x3)] [] c P := by
  refine kw_iinc dX11_letters_45 rfl ?_
  refine kw_goto 15 dX11_letters_48 (by decide) ?_
  exact kw_forget (ls' := [some (kA 558), some (kI x1), some (kI x2), some (kI (x3 + 1))]) ⟨Or.inr rfl, ⟨Or.inr rfl, ⟨Or.inr rfl, ⟨Or.inr rfl, trivial⟩⟩⟩⟩ H
set_option maxRecDepth 4000 in
theorem v_X11_part {G : KG} {S0 : KSh} (hL : kLay S0) {d : Nat} {P : Option AV → KMem → Prop} {c : KMem} {x1 x2 : Int} (r1 : -2147483648 ≤ x1 ∧ x1 < 2147483648) (r2 : -2147483648 ≤ x2 ∧ x2 < 2147483648) (H : (kStd c) ∧ (((kHas c x1) → (((0 ≤ x2 ∧ x2 ≤ 15) → (P (some (kI (c 559 ((16 * x1) + x2)))) c)) ∧ (¬ (0 ≤ x2 ∧ x2 ≤ 15) → (P (some (kI (-1000000000))) c)))) ∧ (¬ (kHas c x1) → (P (some (kI (-1000000000))) c)))) : kC2 G S0 kM_X11_part (d + 2) [kA 558, kI x1, kI x2] c P := by
  refine k2_met (by decide) rfl (Nat.le_of_ble_eq_true rfl) (l0 := [some (kA 558), some (kI x1), some (kI x2)]) rfl ?_
  refine kw_aload_n dX11_part_0 rfl ?_
  refine kw_iload_n dX11_part_1 rfl ?_
  have o1 := H.1
  have H := H.2
  refine k2_callV1I (ci := 9) (N := 38) (T := TX11) rfl (lsh_558 hL) m_X11_isLetter dX11_part_2 wl_X11_161 (Nat.le_of_ble_eq_true rfl) (s_X11_isLetter hL (k32i (by omega)) o1 (fun h2 => ⟨_, rfl, ?_⟩) (fun h2 => ⟨_, rfl, ?_⟩))
  · have H := H.1 h2
    refine kw_if_eq 28 dX11_part_5 (by decide) (k32i (by omega)) (fun h3 => absurd h3 (by decide)) (fun _ => ?_)
    refine kw_iload_n dX11_part_8 rfl ?_
    refine kw_iconst dX11_part_9 ?_
    refine kw_bipush dX11_part_10 (by decide) ?_
    refine k2_callS3I m_X11_in dX11_part_12 wl_X11_100 (Nat.le_of_ble_eq_true rfl) (s_X11_in hL (k32i (by omega)) (k32i (by omega)) (k32i (by omega)) (fun h4 => ⟨_, rfl, ?_⟩) (fun h4 => ⟨_, rfl, ?_⟩))
    · have H := H.1 h4
      refine kw_if_eq 28 dX11_part_15 (by decide) (k32i (by omega)) (fun h5 => absurd h5 (by decide)) (fun _ => ?_)
      refine kw_aload_n dX11_part_18 rfl ?_
      refine kw_iload_n dX11_part_19 rfl ?_
      refine kw_iload_n dX11_part_20 rfl ?_
      refine k2_callV2L (ci := 9) (N := 38) (T := TX11) rfl (lsh_558 hL) m_X11_at dX11_part_21 wl_X11_84 (Nat.le_of_ble_eq_true rfl) (s_X11_at hL (k32i (by omega)) (k32i (by omega)) (by omega) ⟨_, rfl, ?_⟩)
      refine kw_l2i dX11_part_24 ?_
      refine kw_goto 30 dX11_part_25 (by decide) ?_
      refine k2_iret dX11_part_30 rfl H
    · have H := H.2 h4
      refine kw_if_eq 28 dX11_part_15 (by decide) (k32i (by omega)) (fun _ => ?_) (fun h6 => absurd h6 (by decide))
      refine kw_ldc dX11_part_28 wk_X11_164 ?_
      refine k2_iret dX11_part_30 rfl H
  · have H := H.2 h2
    refine kw_if_eq 28 dX11_part_5 (by decide) (k32i (by omega)) (fun _ => ?_) (fun h7 => absurd h7 (by decide))
    refine kw_ldc dX11_part_28 wk_X11_164 ?_
    refine k2_iret dX11_part_30 rfl H
set_option maxRecDepth 4000 in
theorem v_X11_partsOf {G : KG} {S0 : KSh} (hL : kLay S0) {d : Nat} {P : Option AV → KMem → Prop} {c : KMem} {x1 : Int} (r1 : -2147483648 ≤ x1 ∧ x1 < 2147483648) (H : kW2 G S0 kM_X11_partsOf (d + 1) 4 [some (kA 558), some (kI x1), some (kI 0), some (kI 0)] [] c P) : kC2 G S0 kM_X11_partsOf (d + 1) [kA 558, kI x1] c P := by
  refine k2_met (by decide) rfl (Nat.le_of_ble_eq_true rfl) (l0 := [some (kA 558), some (kI x1), none, none]) rfl ?_
  refine kw_iconst dX11_partsOf_0 ?_
  refine kw_istore_n dX11_partsOf_1 (Nat.le_of_ble_eq_true rfl) ?_
  refine kw_iconst dX11_partsOf_2 ?_
  refine kw_istore_n dX11_partsOf_3 (Nat.le_of_ble_eq_true rfl) ?_
  exact kw_forget (ls' := [some (kA 558), some (kI x1), some (kI 0), some (kI 0)]) ⟨Or.inr rfl, ⟨Or.inr rfl, ⟨Or.inr rfl, ⟨Or.inr rfl, trivial⟩⟩⟩⟩ H
set_option maxRecDepth 4000 in
theorem v_X11_partsOf_4 {G : KG} {S0 : KSh} (hL : kLay S0) {d : Nat} {P : Option AV → KMem → Prop} {c : KMem} {x1 x2 x3 : Int} (r1 : -2147483648 ≤ x1 ∧ x1 < 2147483648) (r2 : -2147483648 ≤ x2 ∧ x2 < 2147483648) (r3 : 0 ≤ x3 ∧ x3 < 2147483648) (hp : 0 ≤ x1 ∧ x1 < 100) (H : (16 ≤ x3 → (P (some (kI x2)) c)) ∧ (x3 < 16 → ((k64 (c 559 ((16 * x1) + x3))) ∧ (((c 559 ((16 * x1) + x3)) = 0 → (kW2 G S0 kM_X11_partsOf (d + 1) 4 [some (kA 558), some (kI x1), some (kI x2), some (kI (x3 + 1))] [] c P)) ∧ ((c 559 ((16 * x1) + x3)) ≠ 0 → (kW2 G S0 kM_X11_partsOf (d + 1) 4 [some (kA 558), some (kI x1), some (kI (x2 + 1)), some (kI (x3 + 1))] [] c P)))))) : kW2 G S0 kM_X11_partsOf (d + 1) 4 [some (kA 558), some (kI x1), some (kI x2), some (kI x3)] [] c P := by
  refine kw_iload_n dX11_partsOf_4 rfl ?_
  refine kw_bipush dX11_partsOf_5 (by decide) ?_
  refine kw_icmp_ge 31 dX11_partsOf_7 (by decide) (k32i (by omega)) (k32i (by omega)) (fun h1 => ?_) (fun h1 => ?_)
  · have H := H.1 h1
    refine kw_iload_n dX11_partsOf_31 rfl ?_
    refine k2_iret dX11_partsOf_32 rfl H
  · have H := H.2 h1
    refine kw_aload_n dX11_partsOf_10 rfl ?_
    refine kw_iload_n dX11_partsOf_11 rfl ?_
    refine kw_iload_n dX11_partsOf_12 rfl ?_
    refine k2_callV2L (ci := 9) (N := 38) (T := TX11) rfl (lsh_558 hL) m_X11_at dX11_partsOf_13 wl_X11_84 (Nat.le_of_ble_eq_true rfl) (s_X11_at hL (k32i (by omega)) (k32i (by omega)) (by omega) ⟨_, rfl, ?_⟩)
    refine kw_lconst0 dX11_partsOf_16 ?_
    have o2 := H.1
    have H := H.2
    refine kw_lcmp_eq 25 dX11_partsOf_17 dX11_partsOf_18 (by decide) o2 (k64i (by omega)) (fun h3 => ?_) (fun h3 => ?_)
    · have H := H.1 h3
      refine kw_iinc dX11_partsOf_25 rfl ?_
      refine kw_goto 4 dX11_partsOf_28 (by decide) ?_
      exact kw_forget (ls' := [some (kA 558), some (kI x1), some (kI x2), some (kI (x3 + 1))]) ⟨Or.inr rfl, ⟨Or.inr rfl, ⟨Or.inr rfl, ⟨Or.inr rfl, trivial⟩⟩⟩⟩ H
    · have H := H.2 h3
      refine kw_iload_n dX11_partsOf_21 rfl ?_
      refine kw_iconst dX11_partsOf_22 ?_
      refine kw_iadd dX11_partsOf_23 ?_
      refine kw_istore_n dX11_partsOf_24 (Nat.le_of_ble_eq_true rfl) ?_
      refine kw_iinc dX11_partsOf_25 rfl ?_
      refine kw_goto 4 dX11_partsOf_28 (by decide) ?_
      exact kw_forget (ls' := [some (kA 558), some (kI x1), some (kI (x2 + 1)), some (kI (x3 + 1))]) ⟨Or.inr rfl, ⟨Or.inr rfl, ⟨Or.inr rfl, ⟨Or.inr rfl, trivial⟩⟩⟩⟩ H
set_option maxRecDepth 4000 in
theorem v_X11_orderOf {G : KG} {S0 : KSh} (hL : kLay S0) {d : Nat} {P : Option AV → KMem → Prop} {c : KMem} {x1 : Int} (r1 : -2147483648 ≤ x1 ∧ x1 < 2147483648) (H : kC2 G S0 kM_X11_isMotion (d + 5) [kA 558, kI x1] c (kRI (fun z1 c2 => (k32 z1) ∧ ((z1 ≠ 0 → (kC2 G S0 kM_X11_copies (d + 5) [kA 558, kI x1, kI 24] c2 (kRN (fun c6 => kC2 G S0 kM_X11_normals (d + 5) [kA 558, kI 24] c6 (kRN (fun c8 => kW2 G S0 kM_X11_orderOf (d + 6) 26 [some (kA 558), some (kI x1), some (kI 1)] [] c8 P)))))) ∧ (z1 = 0 → (P (some (kI (-3))) c2)))))) : kC2 G S0 kM_X11_orderOf (d + 6) [kA 558, kI x1] c P := by
  refine k2_met (by decide) rfl (Nat.le_of_ble_eq_true rfl) (l0 := [some (kA 558), some (kI x1), none]) rfl ?_
  refine kw_aload_n dX11_orderOf_0 rfl ?_
  refine kw_iload_n dX11_orderOf_1 rfl ?_
  refine k2_callV1I (ci := 9) (N := 38) (T := TX11) rfl (lsh_558 hL) m_X11_isMotion dX11_orderOf_2 wl_X11_155 (Nat.le_of_ble_eq_true rfl) (kC2_mono H (fun r c2 H => ?_))
  obtain ⟨z1, rfl, H⟩ := H
  refine ⟨z1, rfl, ?_⟩
  have o4 := H.1
  have H := H.2
  refine kw_if_ne 11 dX11_orderOf_5 (by decide) o4 (fun h3 => ?_) (fun h3 => ?_)
  · have H := H.1 h3
    refine kw_aload_n dX11_orderOf_11 rfl ?_
    refine kw_iload_n dX11_orderOf_12 rfl ?_
    refine kw_bipush dX11_orderOf_13 (by decide) ?_
    refine k2_callV2N (ci := 9) (N := 38) (T := TX11) rfl (lsh_558 hL) m_X11_copies dX11_orderOf_15 wl_X11_132 (Nat.le_of_ble_eq_true rfl) (kC2_mono H (fun r c6 H => ?_))
    obtain ⟨rfl, H⟩ := H
    refine ⟨rfl, ?_⟩
    refine kw_aload_n dX11_orderOf_18 rfl ?_
    refine kw_bipush dX11_orderOf_19 (by decide) ?_
    refine k2_callV1N (ci := 9) (N := 38) (T := TX11) rfl (lsh_558 hL) m_X11_normals dX11_orderOf_21 wl_X11_165 (Nat.le_of_ble_eq_true rfl) (kC2_mono H (fun r c8 H => ?_))
    obtain ⟨rfl, H⟩ := H
    refine ⟨rfl, ?_⟩
    refine kw_iconst dX11_orderOf_24 ?_
    refine kw_istore_n dX11_orderOf_25 (Nat.le_of_ble_eq_true rfl) ?_
    exact kw_forget (ls' := [some (kA 558), some (kI x1), some (kI 1)]) ⟨Or.inr rfl, ⟨Or.inr rfl, ⟨Or.inr rfl, trivial⟩⟩⟩ H
  · have H := H.2 h3
    refine kw_bipush dX11_orderOf_8 (by decide) ?_
    refine k2_iret dX11_orderOf_10 rfl H
set_option maxRecDepth 4000 in
theorem v_X11_orderOf_26 {G : KG} {S0 : KSh} (hL : kLay S0) {d : Nat} {P : Option AV → KMem → Prop} {c : KMem} {x1 x2 : Int} (r1 : -2147483648 ≤ x1 ∧ x1 < 2147483648) (r2 : 0 ≤ x2 ∧ x2 < 2147483648) (H : (24 < x2 → (P (some (kI (-2))) c)) ∧ (x2 ≤ 24 → (kC2 G S0 kM_X11_kindOf (d + 5) [kA 558, kI 24] c (kRI (fun z10 c11 => (k32 z10) ∧ ((z10 ≠ 1 → (kC2 G S0 kM_X11_joins (d + 5) [kA 558, kI 0, kI 24, kI x1, kI 24] c11 (kRN (fun c15 => kC2 G S0 kM_X11_isWithin (d + 5) [kA 558, kI 24] c15 (kRI (fun z16 c17 => (k32 z16) ∧ ((z16 ≠ 0 → (kC2 G S0 kM_X11_normals (d + 5) [kA 558, kI 24] c17 (kRN (fun c21 => kW2 G S0 kM_X11_orderOf (d + 6) 26 [some (kA 558), some (kI x1), some (kI (x2 + 1))] [] c21 P)))) ∧ (z16 = 0 → (P (some (kI (-2))) c17))))))))) ∧ (z10 = 1 → (P (some (kI x2)) c11)))))))) : kW2 G S0 kM_X11_orderOf (d + 6) 26 [some (kA 558), some (kI x1), some (kI x2)] [] c P := by
  refine kw_iload_n dX11_orderOf_26 rfl ?_
  refine kw_bipush dX11_orderOf_27 (by decide) ?_
  refine kw_icmp_gt 78 dX11_orderOf_29 (by decide) (k32i (by omega)) (k32i (by omega)) (fun h9 => ?_) (fun h9 => ?_)
  · have H := H.1 h9
    refine kw_bipush dX11_orderOf_78 (by decide) ?_
    refine k2_iret dX11_orderOf_80 rfl H
  · have H := H.2 h9
    refine kw_aload_n dX11_orderOf_32 rfl ?_
    refine kw_bipush dX11_orderOf_33 (by decide) ?_
    refine k2_callV1I (ci := 9) (N := 38) (T := TX11) rfl (lsh_558 hL) m_X11_kindOf dX11_orderOf_35 wl_X11_140 (Nat.le_of_ble_eq_true rfl) (kC2_mono H (fun r c11 H => ?_))
    obtain ⟨z10, rfl, H⟩ := H
    refine ⟨z10, rfl, ?_⟩
    refine kw_iconst dX11_orderOf_38 ?_
    have o13 := H.1
    have H := H.2
    refine kw_icmp_ne 44 dX11_orderOf_39 (by decide) o13 (k32i (by omega)) (fun h12 => ?_) (fun h12 => ?_)
    · have H := H.1 h12
      refine kw_aload_n dX11_orderOf_44 rfl ?_
      refine kw_iconst dX11_orderOf_45 ?_
      refine kw_bipush dX11_orderOf_46 (by decide) ?_
      refine kw_iload_n dX11_orderOf_48 rfl ?_
      refine kw_bipush dX11_orderOf_49 (by decide) ?_
      refine k2_callV4N (ci := 9) (N := 38) (T := TX11) rfl (lsh_558 hL) m_X11_joins dX11_orderOf_51 wl_X11_111 (Nat.le_of_ble_eq_true rfl) (kC2_mono H (fun r c15 H => ?_))
      obtain ⟨rfl, H⟩ := H
      refine ⟨rfl, ?_⟩
      refine kw_aload_n dX11_orderOf_54 rfl ?_
      refine kw_bipush dX11_orderOf_55 (by decide) ?_
      refine k2_callV1I (ci := 9) (N := 38) (T := TX11) rfl (lsh_558 hL) m_X11_isWithin dX11_orderOf_57 wl_X11_168 (Nat.le_of_ble_eq_true rfl) (kC2_mono H (fun r c17 H => ?_))
      obtain ⟨z16, rfl, H⟩ := H
      refine ⟨z16, rfl, ?_⟩
      have o19 := H.1
      have H := H.2
      refine kw_if_ne 66 dX11_orderOf_60 (by decide) o19 (fun h18 => ?_) (fun h18 => ?_)
      · have H := H.1 h18
        refine kw_aload_n dX11_orderOf_66 rfl ?_
        refine kw_bipush dX11_orderOf_67 (by decide) ?_
        refine k2_callV1N (ci := 9) (N := 38) (T := TX11) rfl (lsh_558 hL) m_X11_normals dX11_orderOf_69 wl_X11_165 (Nat.le_of_ble_eq_true rfl) (kC2_mono H (fun r c21 H => ?_))
        obtain ⟨rfl, H⟩ := H
        refine ⟨rfl, ?_⟩
        refine kw_iinc dX11_orderOf_72 rfl ?_
        refine kw_goto 26 dX11_orderOf_75 (by decide) ?_
        exact kw_forget (ls' := [some (kA 558), some (kI x1), some (kI (x2 + 1))]) ⟨Or.inr rfl, ⟨Or.inr rfl, ⟨Or.inr rfl, trivial⟩⟩⟩ H
      · have H := H.2 h18
        refine kw_bipush dX11_orderOf_63 (by decide) ?_
        refine k2_iret dX11_orderOf_65 rfl H
    · have H := H.2 h12
      refine kw_iload_n dX11_orderOf_42 rfl ?_
      refine k2_iret dX11_orderOf_43 rfl H
set_option maxRecDepth 4000 in
theorem v_X11_formIs {G : KG} {S0 : KSh} (hL : kLay S0) {d : Nat} {P : Option AV → KMem → Prop} {c : KMem} {x1 x2 : Int} (r1 : -2147483648 ≤ x1 ∧ x1 < 2147483648) (r2 : -2147483648 ≤ x2 ∧ x2 < 2147483648) (H : (kStd c) ∧ (((kHas c x1) → (((0 ≤ x2 ∧ x2 ≤ 4) → ((x2 ≠ 0 ∧ x2 ≠ 1 ∧ x2 ≠ 2 ∧ x2 ≠ 3 → (kC2 G S0 kM_X11_partsOf (d + 6) [kA 558, kI x1] c (kRI (fun z7 c8 => P (some (kI z7)) c8)))) ∧ (x2 = 0 → (kC2 G S0 kM_X11_kindOf (d + 6) [kA 558, kI x1] c (kRI (fun z9 c10 => P (some (kI z9)) c10)))) ∧ (x2 = 1 → (kC2 G S0 kM_X11_gradesOf (d + 6) [kA 558, kI x1] c (kRI (fun z11 c12 => P (some (kI z11)) c12)))) ∧ (x2 = 2 → (kC2 G S0 kM_X11_isMotion (d + 6) [kA 558, kI x1] c (kRI (fun z13 c14 => (k32 z13) ∧ ((z13 = 0 → (P (some (kI 0)) c14)) ∧ (z13 ≠ 0 → (P (some (kI 1)) c14))))))) ∧ (x2 = 3 → (kC2 G S0 kM_X11_orderOf (d + 6) [kA 558, kI x1] c (kRI (fun z17 c18 => P (some (kI z17)) c18)))))) ∧ (¬ (0 ≤ x2 ∧ x2 ≤ 4) → (P (some (kI (-1))) c)))) ∧ (¬ (kHas c x1) → (P (some (kI (-1))) c)))) : kC2 G S0 kM_X11_formIs (d + 7) [kA 558, kI x1, kI x2] c P := by
  refine k2_met (by decide) rfl (Nat.le_of_ble_eq_true rfl) (l0 := [some (kA 558), some (kI x1), some (kI x2)]) rfl ?_
  refine kw_aload_n dX11_formIs_0 rfl ?_
  refine kw_iload_n dX11_formIs_1 rfl ?_
  have o1 := H.1
  have H := H.2
  refine k2_callV1I (ci := 9) (N := 38) (T := TX11) rfl (lsh_558 hL) m_X11_isLetter dX11_formIs_2 wl_X11_161 (Nat.le_of_ble_eq_true rfl) (s_X11_isLetter hL (k32i (by omega)) o1 (fun h2 => ⟨_, rfl, ?_⟩) (fun h2 => ⟨_, rfl, ?_⟩))
  · have H := H.1 h2
    refine kw_if_eq 17 dX11_formIs_5 (by decide) (k32i (by omega)) (fun h3 => absurd h3 (by decide)) (fun _ => ?_)
    refine kw_iload_n dX11_formIs_8 rfl ?_
    refine kw_iconst dX11_formIs_9 ?_
    refine kw_iconst dX11_formIs_10 ?_
    refine k2_callS3I m_X11_in dX11_formIs_11 wl_X11_100 (Nat.le_of_ble_eq_true rfl) (s_X11_in hL (k32i (by omega)) (k32i (by omega)) (k32i (by omega)) (fun h4 => ⟨_, rfl, ?_⟩) (fun h4 => ⟨_, rfl, ?_⟩))
    · have H := H.1 h4
      refine kw_if_ne 19 dX11_formIs_14 (by decide) (k32i (by omega)) (fun _ => ?_) (fun h5 => absurd h5 (by decide))
      refine kw_iload_n dX11_formIs_19 rfl ?_
      refine k2_tsw dX11_formIs_20 (k32i (by omega)) 84 (by decide) (fun h6 => ?_) ?_
      · have H := H.1 (by omega)
        refine kw_aload_n dX11_formIs_84 rfl ?_
        refine kw_iload_n dX11_formIs_85 rfl ?_
        refine k2_callV1I (ci := 9) (N := 38) (T := TX11) rfl (lsh_558 hL) m_X11_partsOf dX11_formIs_86 wl_X11_174 (Nat.le_of_ble_eq_true rfl) (kC2_mono H (fun r c8 H => ?_))
        obtain ⟨z7, rfl, H⟩ := H
        refine ⟨z7, rfl, ?_⟩
        refine k2_iret dX11_formIs_89 rfl H
      · intro j off tgt e1 e2 e3 e4
        have hj : j < 4 := by omega
        by_cases f0 : j = 0
        · subst f0
          have e5 : off = 32 := Option.some.inj (e3.symm.trans (by decide))
          obtain rfl : tgt = 52 := by omega
          have H := H.2.1 (by omega)
          refine kw_aload_n dX11_formIs_52 rfl ?_
          refine kw_iload_n dX11_formIs_53 rfl ?_
          refine k2_callV1I (ci := 9) (N := 38) (T := TX11) rfl (lsh_558 hL) m_X11_kindOf dX11_formIs_54 wl_X11_140 (Nat.le_of_ble_eq_true rfl) (kC2_mono H (fun r c10 H => ?_))
          obtain ⟨z9, rfl, H⟩ := H
          refine ⟨z9, rfl, ?_⟩
          refine k2_iret dX11_formIs_57 rfl H
        by_cases f1 : j = 1
        · subst f1
          have e5 : off = 38 := Option.some.inj (e3.symm.trans (by decide))
          obtain rfl : tgt = 58 := by omega
          have H := H.2.2.1 (by omega)
          refine kw_aload_n dX11_formIs_58 rfl ?_
          refine kw_iload_n dX11_formIs_59 rfl ?_
          refine k2_callV1I (ci := 9) (N := 38) (T := TX11) rfl (lsh_558 hL) m_X11_gradesOf dX11_formIs_60 wl_X11_123 (Nat.le_of_ble_eq_true rfl) (kC2_mono H (fun r c12 H => ?_))
          obtain ⟨z11, rfl, H⟩ := H
          refine ⟨z11, rfl, ?_⟩
          refine k2_iret dX11_formIs_63 rfl H
        by_cases f2 : j = 2
        · subst f2
          have e5 : off = 44 := Option.some.inj (e3.symm.trans (by decide))
          obtain rfl : tgt = 64 := by omega
          have H := H.2.2.2.1 (by omega)
          refine kw_aload_n dX11_formIs_64 rfl ?_
          refine kw_iload_n dX11_formIs_65 rfl ?_
          refine k2_callV1I (ci := 9) (N := 38) (T := TX11) rfl (lsh_558 hL) m_X11_isMotion dX11_formIs_66 wl_X11_155 (Nat.le_of_ble_eq_true rfl) (kC2_mono H (fun r c14 H => ?_))
          obtain ⟨z13, rfl, H⟩ := H
          refine ⟨z13, rfl, ?_⟩
          have o16 := H.1
          have H := H.2
          refine kw_if_eq 76 dX11_formIs_69 (by decide) o16 (fun h15 => ?_) (fun h15 => ?_)
          · have H := H.1 h15
            refine kw_iconst dX11_formIs_76 ?_
            refine k2_iret dX11_formIs_77 rfl H
          · have H := H.2 h15
            refine kw_iconst dX11_formIs_72 ?_
            refine kw_goto 77 dX11_formIs_73 (by decide) ?_
            refine k2_iret dX11_formIs_77 rfl H
        by_cases f3 : j = 3
        · subst f3
          have e5 : off = 58 := Option.some.inj (e3.symm.trans (by decide))
          obtain rfl : tgt = 78 := by omega
          have H := H.2.2.2.2 (by omega)
          refine kw_aload_n dX11_formIs_78 rfl ?_
          refine kw_iload_n dX11_formIs_79 rfl ?_
          refine k2_callV1I (ci := 9) (N := 38) (T := TX11) rfl (lsh_558 hL) m_X11_orderOf dX11_formIs_80 wl_X11_171 (Nat.le_of_ble_eq_true rfl) (kC2_mono H (fun r c18 H => ?_))
          obtain ⟨z17, rfl, H⟩ := H
          refine ⟨z17, rfl, ?_⟩
          refine k2_iret dX11_formIs_83 rfl H
        omega
    · have H := H.2 h4
      refine kw_if_ne 19 dX11_formIs_14 (by decide) (k32i (by omega)) (fun h19 => absurd h19 (by decide)) (fun _ => ?_)
      refine kw_iconst dX11_formIs_17 ?_
      refine k2_iret dX11_formIs_18 rfl H
  · have H := H.2 h2
    refine kw_if_eq 17 dX11_formIs_5 (by decide) (k32i (by omega)) (fun _ => ?_) (fun h20 => absurd h20 (by decide))
    refine kw_iconst dX11_formIs_17 ?_
    refine k2_iret dX11_formIs_18 rfl H
/-- the letters of the reference -/
def RSt (H : Int → Bool) (F : Int → KF) (c : KMem) : Prop := kI0 c ∧ kStd c ∧ (∀ l : Int, H l = true ↔ kHas c l) ∧ ∀ l : Int, H l = true → kEq (kF c l) (F l) ∧ kB kLB (F l)
abbrev kScr (T : Int → Prop) : Prop := ∀ s, T s → 12 ≤ s ∧ s ≠ 30
theorem RSt.kept {H : Int → Bool} {F : Int → KF} {T : Int → Prop} {c c' : KMem} (h : RSt H F c) (hr : kR T c c') (hT : kScr T) : RSt H F c' := by
  obtain ⟨h1, h2, h3, h4⟩ := h
  have e : ∀ i, c' 564 i = c 564 i := fun i => hr.2 564 i (by decide) (by decide)
  refine ⟨h1.kept hr (fun q => (hT 30 q).2 rfl), fun l a b => by rw [e]; exact h2 l a b, fun l => by rw [h3]; unfold kHas; rw [e], fun l hl => ⟨?_, (h4 l hl).2⟩⟩
  have := (h3 l).mp hl
  exact (hr.1 l (fun q => by have := hT l q; omega) this.1).tr (h4 l hl).1
/-- the reference's lasting state, and all of the class's, stays -/
def kRP (c c' : KMem) : Prop := (∀ s : Int, 0 ≤ s → s < 12 ∨ s = 30 → kEq (kF c' s) (kF c s)) ∧ (∀ a i : Int, a < 558 → c' a i = c a i) ∧ (∀ a i : Int, a = 561 ∨ a = 562 ∨ a = 565 ∨ a = 566 ∨ a = 568 ∨ a = 570 ∨ a = 571 → c' a i = c a i) ∧ (∀ i : Int, 0 ≤ i → i < 12 → c' 564 i = c 564 i) ∧ ∀ j : Int, j = 11 ∨ j = 12 ∨ j = 13 ∨ j = 15 ∨ j = 21 ∨ j = 22 → c' 558 j = c 558 j
theorem kRP.rf {c : KMem} : kRP c c := ⟨fun _ _ _ => kEq.rf, fun _ _ _ => rfl, fun _ _ _ => rfl, fun _ _ _ => rfl, fun _ _ => rfl⟩
theorem kRP.tr {c c1 c2 : KMem} (h : kRP c c1) (g : kRP c1 c2) : kRP c c2 := ⟨fun s a b => (g.1 s a b).tr (h.1 s a b), fun a i q => (g.2.1 a i q).trans (h.2.1 a i q), fun a i q => (g.2.2.1 a i q).trans (h.2.2.1 a i q), fun i a b => (g.2.2.2.1 i a b).trans (h.2.2.2.1 i a b), fun j q => (g.2.2.2.2 j q).trans (h.2.2.2.2 j q)⟩
theorem kR.rp {T : Int → Prop} {c c' : KMem} (h : kR T c c') (hT : kScr T) : kRP c c' :=
  ⟨fun s h0 hs => h.1 s (fun q => by have := hT s q; omega) h0, fun a i q => h.2 a i (by omega) (by omega), fun a i q => h.2 a i (by omega) (by omega), fun i _ _ => h.2 564 i (by decide) (by decide), fun j _ => h.2 558 j (by decide) (by decide)⟩
theorem RSt.rp {H : Int → Bool} {F : Int → KF} {c c' : KMem} (h : RSt H F c) (hr : kRP c c') : RSt H F c' := by
  obtain ⟨h1, h2, h3, h4⟩ := h
  refine ⟨⟨fun a b ha hb => (hr.2.2.1 568 _ (by omega)).trans (h1.1 a b ha hb), (hr.1 30 (by omega) (Or.inr rfl)).tr h1.2⟩, fun l a b => by rw [hr.2.2.2.1 l a (by omega)]; exact h2 l a b, fun l => ?_, fun l hl => ⟨?_, (h4 l hl).2⟩⟩
  · rw [h3]
    unfold kHas
    constructor
    · rintro ⟨a, b, e⟩; exact ⟨a, b, by rw [hr.2.2.2.1 l a b]; exact e⟩
    · rintro ⟨a, b, e⟩; exact ⟨a, b, by rw [hr.2.2.2.1 l a b] at e; exact e⟩
  · have := (h3 l).mp hl
    exact (hr.1 l this.1 (Or.inl this.2.1)).tr (h4 l hl).1
abbrev kT2 : Int → Prop := fun s => s = 29 ∨ s = 31
theorem kT2s : kScr kT2 := fun s q => by have q : s = 29 ∨ s = 31 := q; omega
section MQ
variable {G : KG} {S0 : KSh} {d : Nat} {P : Option AV → KMem → Prop} {c : KMem} {H : Int → Bool} {F : Int → KF} {x1 x2 x3 x4 : Int}
theorem RSt.l {l : Int} (h : RSt H F c) (hl : H l = true) : 0 ≤ l ∧ l < 12 ∧ kEq (kF c l) (F l) ∧ kB kLB (kF c l) := by
  have h1 := (h.2.2.1 l).mp hl
  have h2 := h.2.2.2 l hl
  exact ⟨h1.1, h1.2.1, h2.1, h2.2.eq h2.1⟩
/-- KIND of a letter in the reference -/
theorem s_X11_kindOf_l (hL : kLay S0) {l : Int} (hs : RSt H F c) (hl : H l = true) (h : ∀ c', RSt H F c' → kR kT2 c c' → P (some (kI (kind (F l)))) c') : kC2 G S0 kM_X11_kindOf (d + 4) [kA 558, kI l] c P := by
  obtain ⟨a, b, e, f⟩ := hs.l hl
  refine s_X11_kindOf hL ⟨a, by omega, by omega, by omega⟩ hs.1 f (fun c1 hr => ?_)
  rw [kind_congr e]
  exact h c1 (hs.kept hr kT2s) hr
theorem s_X11_isMotion_l (hL : kLay S0) {l : Int} (hs : RSt H F c) (hl : H l = true) (h1 : ∀ c', RSt H F c' → kR kT2 c c' → kMot (F l) = true → P (some (kI 1)) c') (h0 : ∀ c', RSt H F c' → kR kT2 c c' → ¬ kMot (F l) = true → P (some (kI 0)) c') : kC2 G S0 kM_X11_isMotion (d + 5) [kA 558, kI l] c P := by
  obtain ⟨a, b, e, f⟩ := hs.l hl
  refine s_X11_isMotion hL ⟨a, by omega, by omega, by omega⟩ hs.1 f (fun c1 hr q => ?_) (fun c1 hr q => ?_) <;> rw [kMot_congr e] at q
  · exact h1 c1 (hs.kept hr kT2s) hr q
  · exact h0 c1 (hs.kept hr kT2s) hr q
theorem s_X11_isObject_l (hL : kLay S0) {l : Int} (hs : RSt H F c) (hl : H l = true) (h1 : ∀ c', RSt H F c' → kR kT2 c c' → kObj (kind (F l)) → P (some (kI 1)) c') (h0 : ∀ c', RSt H F c' → kR kT2 c c' → ¬ kObj (kind (F l)) → P (some (kI 0)) c') : kC2 G S0 kM_X11_isObject (d + 5) [kA 558, kI l] c P := by
  have := hs.l hl
  have hk := kind_rg (F l)
  exact v_X11_isObject hL (by omega) (s_X11_kindOf_l hL hs hl (fun c1 a b => ⟨_, rfl, k32i (by omega), h1 c1 a b, h0 c1 a b⟩))
theorem s_X11_isMirror_l (hL : kLay S0) {l : Int} (hs : RSt H F c) (hl : H l = true) (h1 : ∀ c', RSt H F c' → kR kT2 c c' → kMir (kind (F l)) → P (some (kI 1)) c') (h0 : ∀ c', RSt H F c' → kR kT2 c c' → ¬ kMir (kind (F l)) → P (some (kI 0)) c') : kC2 G S0 kM_X11_isMirror (d + 5) [kA 558, kI l] c P := by
  have := hs.l hl
  have hk := kind_rg (F l)
  exact v_X11_isMirror hL (by omega) (s_X11_kindOf_l hL hs hl (fun c1 a b => ⟨_, rfl, k32i (by omega), h1 c1 a b, h0 c1 a b⟩))
theorem s_X11_isSo_l (hL : kLay S0) {l w : Int} (hs : RSt H F c) (hl : H l = true) (hw : 0 ≤ w ∧ w ≤ 4) (h : ∀ c', RSt H F c' → kR kT2 c c' → P (some (kI (if kSo w (F l) = true then 1 else 0))) c') : kC2 G S0 kM_X11_isSo (d + 6) [kA 558, kI l, kI w] c P := by
  have hlr := hs.l hl
  have hk := kind_rg (F l)
  refine v_X11_isSo hL (by omega) (by omega) (s_X11_kindOf_l hL hs hl (fun c1 a b => ⟨_, rfl, fun z => ?_, fun z => ?_, fun z => ?_, fun z => ?_, fun z => ?_⟩))
  · have e : ∀ f, kSo w f = kMot f := fun f => by unfold kSo; rw [if_neg (by omega), if_neg (by omega), if_neg (by omega), if_neg (by omega)]
    rw [e] at h
    refine s_X11_isMotion_l hL a hl (fun c2 a2 b2 q => ⟨1, rfl, Or.inr rfl, ?_⟩) (fun c2 a2 b2 q => ⟨0, rfl, Or.inl rfl, ?_⟩)
    · have := h c2 a2 (b.tr b2 (fun _ q => q) (fun _ q => q)); rw [if_pos q] at this; exact this
    · have := h c2 a2 (b.tr b2 (fun _ q => q) (fun _ q => q)); rw [if_neg q] at this; exact this
  · subst z
    have := h c1 a b
    rw [if_pos (show kSo 0 (F l) = true from rfl)] at this; exact this
  · subst z
    have := h c1 a b
    have e : kSo 1 (F l) = true ↔ kind (F l) = 2 := by unfold kSo; simp
    refine ⟨k32i (by omega), fun q => ?_, fun q => ?_⟩
    · rw [if_neg (fun y => q (e.mp y))] at this; exact this
    · rw [if_pos (e.mpr q)] at this; exact this
  · subst z
    have := h c1 a b
    have e : kSo 2 (F l) = true ↔ kObj (kind (F l)) := by unfold kSo; rw [if_neg (by decide), if_neg (by decide), if_pos rfl, kObjB_iff]
    refine ⟨k32i (by omega), fun q => ?_, fun q => ?_⟩
    · rw [if_pos (e.mpr q)] at this; exact this
    · rw [if_neg (fun y => q (e.mp y))] at this; exact this
  · subst z
    have := h c1 a b
    have e : kSo 3 (F l) = true ↔ kMir (kind (F l)) := by unfold kSo; rw [if_neg (by decide), if_neg (by decide), if_neg (by decide), if_pos rfl, kMirB_iff]
    refine ⟨k32i (by omega), fun q => ?_, fun q => ?_⟩
    · rw [if_pos (e.mpr q)] at this; exact this
    · rw [if_neg (fun y => q (e.mp y))] at this; exact this
theorem RSt.st {l : Int} (h : RSt H F c) (a : 0 ≤ l) (b : l < 12) : k32 (c 564 l) ∧ (c 564 l ≠ 0 → H l = true) ∧ (c 564 l = 0 → ¬ H l = true) := by
  have h1 := h.2.1 l a b
  refine ⟨k32i (by omega), fun q => (h.2.2.1 l).mpr ⟨a, b, by omega⟩, fun q z => by have := (h.2.2.1 l).mp z; have := this.2.2; omega⟩
theorem s_X11_letters (hL : kLay S0) (r1 : k32 x1) (hs : RSt H F c) (h : ∀ c', RSt H F c' → kR kT2 c c' → P (some (kI (vLetters H F x1))) c') : kC2 G S0 kM_X11_letters (d + 7) [kA 558, kI x1] c P := by
  unfold vLetters at h
  refine v_X11_letters hL r1 ⟨fun a => ?_, fun a => by have := h c hs kR.rf; rw [if_neg a] at this; exact this⟩
  have loop : ∀ n k : Nat, k + n = 12 → ∀ c', RSt H F c' → kR kT2 c c' → kW2 G S0 kM_X11_letters (d + 7) 15 [some (kA 558), some (kI x1), some (kI (kBits (fun l => H l && kSo x1 (F l)) k)), some (kI k)] [] c' P := by
    intro n
    induction n with
    | zero =>
      intro k hk c' h1 h2
      obtain rfl : k = 12 := by omega
      have hb := kBits_lt (fun l => H l && kSo x1 (F l)) 12
      refine v_X11_letters_15 hL r1 (by omega) (by omega) ⟨fun _ => ?_, fun q => by omega⟩
      have := h c' h1 h2; rw [if_pos a] at this; exact this
    | succ n ih =>
      intro k hk c' h1 h2
      have hb := kBits_lt (fun l => H l && kSo x1 (F l)) k
      have hb2 : 2 ^ k ≤ 2 ^ 11 := Nat.pow_le_pow_right (by omega) (by omega)
      obtain ⟨s1, s2, s3⟩ := h1.st (l := k) (by omega) (by omega)
      have e1 : kBits (fun l => H l && kSo x1 (F l)) (k + 1) = if (H k && kSo x1 (F k)) = true then kBits (fun l => H l && kSo x1 (F l)) k ||| 2 ^ k else kBits (fun l => H l && kSo x1 (F l)) k := rfl
      refine v_X11_letters_15 hL r1 (by omega) (by omega) ⟨fun q => by omega, fun _ => ⟨s1, fun q => ?_, fun q => ?_⟩⟩
      · refine v_X11_letters_45 hL r1 (by omega) (by omega) ?_
        have := ih (k + 1) (by omega) c' h1 h2
        have h9 : H k = false := by cases w : H k; rfl; exact absurd w (s3 q)
        rw [e1, if_neg (by rw [h9]; simp)] at this
        exact this
      · have h9 := s2 q
        refine s_X11_isSo_l hL h1 h9 a (fun c2 a2 b2 => ⟨_, rfl, by split <;> exact k32i (by omega), fun z => ?_, fun z => ?_⟩)
        · refine v_X11_letters_45 hL r1 (by omega) (by omega) ?_
          have := ih (k + 1) (by omega) c2 a2 (h2.tr b2 (fun _ q => q) (fun _ q => q))
          have h8 : ¬ kSo x1 (F k) = true := fun w => by rw [if_pos w] at z; omega
          rw [e1, if_neg (by rw [h9]; simpa using h8)] at this
          exact this
        · have h8 : kSo x1 (F k) = true := by
            apply Classical.byContradiction
            intro w; rw [if_neg w] at z; exact z rfl
          rw [kshl1 k (by omega), kor_nat _ _ (by omega) (by omega)]
          have hor := kBits_lt (fun l => H l && kSo x1 (F l)) (k + 1)
          have := ih (k + 1) (by omega) c2 a2 (h2.tr b2 (fun _ q => q) (fun _ q => q))
          rw [e1, if_pos (by rw [h9, h8]; rfl)] at this hor
          have : 2 ^ (k + 1) ≤ 2 ^ 12 := Nat.pow_le_pow_right (by omega) (by omega)
          exact v_X11_letters_45 hL r1 (by omega) (by omega) (by assumption)
  exact loop 12 0 (by omega) c hs kR.rf
theorem RSt.hb {l : Int} (h : RSt H F c) : kHas c l ↔ H l = true := (h.2.2.1 l).symm
theorem s_X11_part (hL : kLay S0) (r1 : k32 x1) (r2 : k32 x2) (hs : RSt H F c) (h : P (some (kI (vPart H F x1 x2))) c) : kC2 G S0 kM_X11_part (d + 2) [kA 558, kI x1, kI x2] c P := by
  unfold vPart at h
  refine v_X11_part hL r1 r2 ⟨hs.2.1, fun a => ⟨fun b => ?_, fun b => ?_⟩, fun a => ?_⟩
  · have e := (hs.l (hs.hb.mp a)).2.2.1 x2 b.1 (by omega)
    rw [if_pos ⟨hs.hb.mp a, b.1, by omega⟩, ← e] at h
    exact h
  · rw [if_neg (fun q => b ⟨q.2.1, by omega⟩)] at h; exact h
  · rw [if_neg (fun q => a (hs.hb.mpr q.1))] at h; exact h
end MQ
